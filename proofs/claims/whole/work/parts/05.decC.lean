theorem dX7_init_0 : decode cX7_init 0 = .ok (.aload_n 0, 1) := by decide +kernel
theorem dX7_init_1 : decode cX7_init 1 = .ok (.invokespecial 1, 3) := by decide +kernel
theorem dX7_init_4 : decode cX7_init 4 = .ok (.aload_n 0, 1) := by decide +kernel
theorem dX7_init_5 : decode cX7_init 5 = .ok (.bipush 8, 2) := by decide +kernel
theorem dX7_init_7 : decode cX7_init 7 = .ok (.bipush 6, 2) := by decide +kernel
theorem dX7_init_9 : decode cX7_init 9 = .ok (.multianewarray 9 2, 4) := by decide +kernel
theorem dX7_init_13 : decode cX7_init 13 = .ok (.putfield 11, 3) := by decide +kernel
theorem dX7_init_16 : decode cX7_init 16 = .ok (.aload_n 0, 1) := by decide +kernel
theorem dX7_init_17 : decode cX7_init 17 = .ok (.bipush 8, 2) := by decide +kernel
theorem dX7_init_19 : decode cX7_init 19 = .ok (.iconst 5, 1) := by decide +kernel
theorem dX7_init_20 : decode cX7_init 20 = .ok (.multianewarray 9 2, 4) := by decide +kernel
theorem dX7_init_24 : decode cX7_init 24 = .ok (.putfield 14, 3) := by decide +kernel
theorem dX7_init_27 : decode cX7_init 27 = .ok (.aload_n 0, 1) := by decide +kernel
theorem dX7_init_28 : decode cX7_init 28 = .ok (.iconst 3, 1) := by decide +kernel
theorem dX7_init_29 : decode cX7_init 29 = .ok (.iconst 2, 1) := by decide +kernel
theorem dX7_init_30 : decode cX7_init 30 = .ok (.multianewarray 9 2, 4) := by decide +kernel
theorem dX7_init_34 : decode cX7_init 34 = .ok (.putfield 17, 3) := by decide +kernel
theorem dX7_init_37 : decode cX7_init 37 = .ok (.aload_n 0, 1) := by decide +kernel
theorem dX7_init_38 : decode cX7_init 38 = .ok (.iconst 3, 1) := by decide +kernel
theorem dX7_init_39 : decode cX7_init 39 = .ok (.bipush 22, 2) := by decide +kernel
theorem dX7_init_41 : decode cX7_init 41 = .ok (.multianewarray 9 2, 4) := by decide +kernel
theorem dX7_init_45 : decode cX7_init 45 = .ok (.putfield 20, 3) := by decide +kernel
theorem dX7_init_48 : decode cX7_init 48 = .ok (.aload_n 0, 1) := by decide +kernel
theorem dX7_init_49 : decode cX7_init 49 = .ok (.iconst 3, 1) := by decide +kernel
theorem dX7_init_50 : decode cX7_init 50 = .ok (.bipush 8, 2) := by decide +kernel
theorem dX7_init_52 : decode cX7_init 52 = .ok (.bipush 12, 2) := by decide +kernel
theorem dX7_init_54 : decode cX7_init 54 = .ok (.multianewarray 23 3, 4) := by decide +kernel
theorem dX7_init_58 : decode cX7_init 58 = .ok (.putfield 25, 3) := by decide +kernel
theorem dX7_init_61 : decode cX7_init 61 = .ok (.aload_n 0, 1) := by decide +kernel
theorem dX7_init_62 : decode cX7_init 62 = .ok (.bipush 8, 2) := by decide +kernel
theorem dX7_init_64 : decode cX7_init 64 = .ok (.newarray .int, 2) := by decide +kernel
theorem dX7_init_66 : decode cX7_init 66 = .ok (.putfield 28, 3) := by decide +kernel
theorem dX7_init_69 : decode cX7_init 69 = .ok (.aload_n 0, 1) := by decide +kernel
theorem dX7_init_70 : decode cX7_init 70 = .ok (.bipush 8, 2) := by decide +kernel
theorem dX7_init_72 : decode cX7_init 72 = .ok (.newarray .int, 2) := by decide +kernel
theorem dX7_init_74 : decode cX7_init 74 = .ok (.putfield 32, 3) := by decide +kernel
theorem dX7_init_77 : decode cX7_init 77 = .ok (.aload_n 0, 1) := by decide +kernel
theorem dX7_init_78 : decode cX7_init 78 = .ok (.bipush 8, 2) := by decide +kernel
theorem dX7_init_80 : decode cX7_init 80 = .ok (.newarray .int, 2) := by decide +kernel
theorem dX7_init_82 : decode cX7_init 82 = .ok (.putfield 35, 3) := by decide +kernel
theorem dX7_init_85 : decode cX7_init 85 = .ok (.aload_n 0, 1) := by decide +kernel
theorem dX7_init_86 : decode cX7_init 86 = .ok (.bipush 8, 2) := by decide +kernel
theorem dX7_init_88 : decode cX7_init 88 = .ok (.newarray .int, 2) := by decide +kernel
theorem dX7_init_90 : decode cX7_init 90 = .ok (.putfield 38, 3) := by decide +kernel
theorem dX7_init_93 : decode cX7_init 93 = .ok (.return_, 1) := by decide +kernel
theorem dX7_thrown_0 : decode cX7_thrown 0 = .ok (.aload_n 0, 1) := by decide +kernel
theorem dX7_thrown_1 : decode cX7_thrown 1 = .ok (.getfield 41, 3) := by decide +kernel
theorem dX7_thrown_4 : decode cX7_thrown 4 = .ok (.ireturn, 1) := by decide +kernel
theorem dX7_refuse_0 : decode cX7_refuse 0 = .ok (.aload_n 0, 1) := by decide +kernel
theorem dX7_refuse_1 : decode cX7_refuse 1 = .ok (.iload_n 1, 1) := by decide +kernel
theorem dX7_refuse_2 : decode cX7_refuse 2 = .ok (.putfield 41, 3) := by decide +kernel
theorem dX7_refuse_5 : decode cX7_refuse 5 = .ok (.iconst 0, 1) := by decide +kernel
theorem dX7_refuse_6 : decode cX7_refuse 6 = .ok (.ireturn, 1) := by decide +kernel
theorem dX7_is_0 : decode cX7_is 0 = .ok (.iload_n 0, 1) := by decide +kernel
theorem dX7_is_1 : decode cX7_is 1 = .ok (.iload_n 1, 1) := by decide +kernel
theorem dX7_is_2 : decode cX7_is 2 = .ok (.if_icmp .lt 12, 3) := by decide +kernel
theorem dX7_is_5 : decode cX7_is 5 = .ok (.iload_n 0, 1) := by decide +kernel
theorem dX7_is_6 : decode cX7_is 6 = .ok (.iload_n 2, 1) := by decide +kernel
theorem dX7_is_7 : decode cX7_is 7 = .ok (.if_icmp .gt 7, 3) := by decide +kernel
theorem dX7_is_10 : decode cX7_is 10 = .ok (.iconst 1, 1) := by decide +kernel
theorem dX7_is_11 : decode cX7_is 11 = .ok (.goto 4, 3) := by decide +kernel
theorem dX7_is_14 : decode cX7_is 14 = .ok (.iconst 0, 1) := by decide +kernel
theorem dX7_is_15 : decode cX7_is 15 = .ok (.ireturn, 1) := by decide +kernel
theorem dX7_held_0 : decode cX7_held 0 = .ok (.iload_n 1, 1) := by decide +kernel
theorem dX7_held_1 : decode cX7_held 1 = .ok (.ineg, 1) := by decide +kernel
theorem dX7_held_2 : decode cX7_held 2 = .ok (.iload_n 1, 1) := by decide +kernel
theorem dX7_held_3 : decode cX7_held 3 = .ok (.iload_n 0, 1) := by decide +kernel
theorem dX7_held_4 : decode cX7_held 4 = .ok (.invokestatic 45, 3) := by decide +kernel
theorem dX7_held_7 : decode cX7_held 7 = .ok (.invokestatic 51, 3) := by decide +kernel
theorem dX7_held_10 : decode cX7_held 10 = .ok (.ireturn, 1) := by decide +kernel
theorem dX7_tOf_0 : decode cX7_tOf 0 = .ok (.iload_n 0, 1) := by decide +kernel
theorem dX7_tOf_1 : decode cX7_tOf 1 = .ok (.bipush 48, 2) := by decide +kernel
theorem dX7_tOf_3 : decode cX7_tOf 3 = .ok (.invokestatic 54, 3) := by decide +kernel
theorem dX7_tOf_6 : decode cX7_tOf 6 = .ok (.istore_n 1, 1) := by decide +kernel
theorem dX7_tOf_7 : decode cX7_tOf 7 = .ok (.iload_n 1, 1) := by decide +kernel
theorem dX7_tOf_8 : decode cX7_tOf 8 = .ok (.bipush 12, 2) := by decide +kernel
theorem dX7_tOf_10 : decode cX7_tOf 10 = .ok (.if_icmp .gt 7, 3) := by decide +kernel
theorem dX7_tOf_13 : decode cX7_tOf 13 = .ok (.iload_n 1, 1) := by decide +kernel
theorem dX7_tOf_14 : decode cX7_tOf 14 = .ok (.goto 20, 3) := by decide +kernel
theorem dX7_tOf_17 : decode cX7_tOf 17 = .ok (.iload_n 1, 1) := by decide +kernel
theorem dX7_tOf_18 : decode cX7_tOf 18 = .ok (.bipush 36, 2) := by decide +kernel
theorem dX7_tOf_20 : decode cX7_tOf 20 = .ok (.if_icmp .gt 10, 3) := by decide +kernel
theorem dX7_tOf_23 : decode cX7_tOf 23 = .ok (.bipush 24, 2) := by decide +kernel
theorem dX7_tOf_25 : decode cX7_tOf 25 = .ok (.iload_n 1, 1) := by decide +kernel
theorem dX7_tOf_26 : decode cX7_tOf 26 = .ok (.isub, 1) := by decide +kernel
theorem dX7_tOf_27 : decode cX7_tOf 27 = .ok (.goto 7, 3) := by decide +kernel
theorem dX7_tOf_30 : decode cX7_tOf 30 = .ok (.iload_n 1, 1) := by decide +kernel
theorem dX7_tOf_31 : decode cX7_tOf 31 = .ok (.bipush 48, 2) := by decide +kernel
theorem dX7_tOf_33 : decode cX7_tOf 33 = .ok (.isub, 1) := by decide +kernel
theorem dX7_tOf_34 : decode cX7_tOf 34 = .ok (.ireturn, 1) := by decide +kernel
theorem dX7_xAt_0 : decode cX7_xAt 0 = .ok (.aload_n 0, 1) := by decide +kernel
theorem dX7_xAt_1 : decode cX7_xAt 1 = .ok (.getfield 11, 3) := by decide +kernel
theorem dX7_xAt_4 : decode cX7_xAt 4 = .ok (.iload_n 1, 1) := by decide +kernel
theorem dX7_xAt_5 : decode cX7_xAt 5 = .ok (.aaload, 1) := by decide +kernel
theorem dX7_xAt_6 : decode cX7_xAt 6 = .ok (.iconst 0, 1) := by decide +kernel
theorem dX7_xAt_7 : decode cX7_xAt 7 = .ok (.iaload, 1) := by decide +kernel
theorem dX7_xAt_8 : decode cX7_xAt 8 = .ok (.iload_n 2, 1) := by decide +kernel
theorem dX7_xAt_9 : decode cX7_xAt 9 = .ok (.invokestatic 57, 3) := by decide +kernel
theorem dX7_xAt_12 : decode cX7_xAt 12 = .ok (.imul, 1) := by decide +kernel
theorem dX7_xAt_13 : decode cX7_xAt 13 = .ok (.bipush 12, 2) := by decide +kernel
theorem dX7_xAt_15 : decode cX7_xAt 15 = .ok (.idiv, 1) := by decide +kernel
theorem dX7_xAt_16 : decode cX7_xAt 16 = .ok (.ireturn, 1) := by decide +kernel
theorem dX7_yAt_0 : decode cX7_yAt 0 = .ok (.aload_n 0, 1) := by decide +kernel
theorem dX7_yAt_1 : decode cX7_yAt 1 = .ok (.getfield 11, 3) := by decide +kernel
theorem dX7_yAt_4 : decode cX7_yAt 4 = .ok (.iload_n 1, 1) := by decide +kernel
theorem dX7_yAt_5 : decode cX7_yAt 5 = .ok (.aaload, 1) := by decide +kernel
theorem dX7_yAt_6 : decode cX7_yAt 6 = .ok (.iconst 0, 1) := by decide +kernel
theorem dX7_yAt_7 : decode cX7_yAt 7 = .ok (.iaload, 1) := by decide +kernel
theorem dX7_yAt_8 : decode cX7_yAt 8 = .ok (.iload_n 2, 1) := by decide +kernel
theorem dX7_yAt_9 : decode cX7_yAt 9 = .ok (.bipush 12, 2) := by decide +kernel
theorem dX7_yAt_11 : decode cX7_yAt 11 = .ok (.iadd, 1) := by decide +kernel
theorem dX7_yAt_12 : decode cX7_yAt 12 = .ok (.invokestatic 57, 3) := by decide +kernel
theorem dX7_yAt_15 : decode cX7_yAt 15 = .ok (.imul, 1) := by decide +kernel
theorem dX7_yAt_16 : decode cX7_yAt 16 = .ok (.bipush 12, 2) := by decide +kernel
theorem dX7_yAt_18 : decode cX7_yAt 18 = .ok (.idiv, 1) := by decide +kernel
theorem dX7_yAt_19 : decode cX7_yAt 19 = .ok (.ireturn, 1) := by decide +kernel
theorem dX7_range_0 : decode cX7_range 0 = .ok (.iload_n 0, 1) := by decide +kernel
theorem dX7_range_1 : decode cX7_range 1 = .ok (.iload_n 2, 1) := by decide +kernel
theorem dX7_range_2 : decode cX7_range 2 = .ok (.isub, 1) := by decide +kernel
theorem dX7_range_3 : decode cX7_range 3 = .ok (.invokestatic 61, 3) := by decide +kernel
theorem dX7_range_6 : decode cX7_range 6 = .ok (.iload_n 1, 1) := by decide +kernel
theorem dX7_range_7 : decode cX7_range 7 = .ok (.iload_n 3, 1) := by decide +kernel
theorem dX7_range_8 : decode cX7_range 8 = .ok (.isub, 1) := by decide +kernel
theorem dX7_range_9 : decode cX7_range 9 = .ok (.invokestatic 61, 3) := by decide +kernel
theorem dX7_range_12 : decode cX7_range 12 = .ok (.invokestatic 51, 3) := by decide +kernel
theorem dX7_range_15 : decode cX7_range 15 = .ok (.ireturn, 1) := by decide +kernel
theorem dX7_phaseIn_0 : decode cX7_phaseIn 0 = .ok (.aload_n 0, 1) := by decide +kernel
theorem dX7_phaseIn_1 : decode cX7_phaseIn 1 = .ok (.getfield 11, 3) := by decide +kernel
theorem dX7_phaseIn_4 : decode cX7_phaseIn 4 = .ok (.iload_n 1, 1) := by decide +kernel
theorem dX7_phaseIn_5 : decode cX7_phaseIn 5 = .ok (.aaload, 1) := by decide +kernel
theorem dX7_phaseIn_6 : decode cX7_phaseIn 6 = .ok (.iconst 1, 1) := by decide +kernel
theorem dX7_phaseIn_7 : decode cX7_phaseIn 7 = .ok (.iaload, 1) := by decide +kernel
theorem dX7_phaseIn_8 : decode cX7_phaseIn 8 = .ok (.iload_n 2, 1) := by decide +kernel
theorem dX7_phaseIn_9 : decode cX7_phaseIn 9 = .ok (.aload_n 0, 1) := by decide +kernel
theorem dX7_phaseIn_10 : decode cX7_phaseIn 10 = .ok (.getfield 11, 3) := by decide +kernel
theorem dX7_phaseIn_13 : decode cX7_phaseIn 13 = .ok (.iload_n 1, 1) := by decide +kernel
theorem dX7_phaseIn_14 : decode cX7_phaseIn 14 = .ok (.aaload, 1) := by decide +kernel
theorem dX7_phaseIn_15 : decode cX7_phaseIn 15 = .ok (.iconst 2, 1) := by decide +kernel
theorem dX7_phaseIn_16 : decode cX7_phaseIn 16 = .ok (.iaload, 1) := by decide +kernel
theorem dX7_phaseIn_17 : decode cX7_phaseIn 17 = .ok (.imul, 1) := by decide +kernel
theorem dX7_phaseIn_18 : decode cX7_phaseIn 18 = .ok (.iadd, 1) := by decide +kernel
theorem dX7_phaseIn_19 : decode cX7_phaseIn 19 = .ok (.ireturn, 1) := by decide +kernel
theorem dX7_since_0 : decode cX7_since 0 = .ok (.aload_n 0, 1) := by decide +kernel
theorem dX7_since_1 : decode cX7_since 1 = .ok (.getfield 64, 3) := by decide +kernel
theorem dX7_since_4 : decode cX7_since 4 = .ok (.aload_n 0, 1) := by decide +kernel
theorem dX7_since_5 : decode cX7_since 5 = .ok (.getfield 14, 3) := by decide +kernel
theorem dX7_since_8 : decode cX7_since 8 = .ok (.iload_n 1, 1) := by decide +kernel
theorem dX7_since_9 : decode cX7_since 9 = .ok (.aaload, 1) := by decide +kernel
theorem dX7_since_10 : decode cX7_since 10 = .ok (.iconst 1, 1) := by decide +kernel
theorem dX7_since_11 : decode cX7_since 11 = .ok (.iaload, 1) := by decide +kernel
theorem dX7_since_12 : decode cX7_since 12 = .ok (.isub, 1) := by decide +kernel
theorem dX7_since_13 : decode cX7_since 13 = .ok (.ireturn, 1) := by decide +kernel
theorem dX7_toldPhase_0 : decode cX7_toldPhase 0 = .ok (.aload_n 0, 1) := by decide +kernel
theorem dX7_toldPhase_1 : decode cX7_toldPhase 1 = .ok (.getfield 14, 3) := by decide +kernel
theorem dX7_toldPhase_4 : decode cX7_toldPhase 4 = .ok (.iload_n 1, 1) := by decide +kernel
theorem dX7_toldPhase_5 : decode cX7_toldPhase 5 = .ok (.aaload, 1) := by decide +kernel
theorem dX7_toldPhase_6 : decode cX7_toldPhase 6 = .ok (.iconst 2, 1) := by decide +kernel
theorem dX7_toldPhase_7 : decode cX7_toldPhase 7 = .ok (.iaload, 1) := by decide +kernel
theorem dX7_toldPhase_8 : decode cX7_toldPhase 8 = .ok (.aload_n 0, 1) := by decide +kernel
theorem dX7_toldPhase_9 : decode cX7_toldPhase 9 = .ok (.iload_n 1, 1) := by decide +kernel
theorem dX7_toldPhase_10 : decode cX7_toldPhase 10 = .ok (.invokevirtual 67, 3) := by decide +kernel
theorem dX7_toldPhase_13 : decode cX7_toldPhase 13 = .ok (.aload_n 0, 1) := by decide +kernel
theorem dX7_toldPhase_14 : decode cX7_toldPhase 14 = .ok (.getfield 11, 3) := by decide +kernel
theorem dX7_toldPhase_17 : decode cX7_toldPhase 17 = .ok (.iload_n 1, 1) := by decide +kernel
theorem dX7_toldPhase_18 : decode cX7_toldPhase 18 = .ok (.aaload, 1) := by decide +kernel
theorem dX7_toldPhase_19 : decode cX7_toldPhase 19 = .ok (.iconst 2, 1) := by decide +kernel
theorem dX7_toldPhase_20 : decode cX7_toldPhase 20 = .ok (.iaload, 1) := by decide +kernel
theorem dX7_toldPhase_21 : decode cX7_toldPhase 21 = .ok (.imul, 1) := by decide +kernel
theorem dX7_toldPhase_22 : decode cX7_toldPhase 22 = .ok (.iadd, 1) := by decide +kernel
theorem dX7_toldPhase_23 : decode cX7_toldPhase 23 = .ok (.ireturn, 1) := by decide +kernel
theorem dX7_toldOffset_0 : decode cX7_toldOffset 0 = .ok (.aload_n 0, 1) := by decide +kernel
theorem dX7_toldOffset_1 : decode cX7_toldOffset 1 = .ok (.getfield 14, 3) := by decide +kernel
theorem dX7_toldOffset_4 : decode cX7_toldOffset 4 = .ok (.iload_n 1, 1) := by decide +kernel
theorem dX7_toldOffset_5 : decode cX7_toldOffset 5 = .ok (.aaload, 1) := by decide +kernel
theorem dX7_toldOffset_6 : decode cX7_toldOffset 6 = .ok (.iconst 3, 1) := by decide +kernel
theorem dX7_toldOffset_7 : decode cX7_toldOffset 7 = .ok (.iaload, 1) := by decide +kernel
theorem dX7_toldOffset_8 : decode cX7_toldOffset 8 = .ok (.aload_n 0, 1) := by decide +kernel
theorem dX7_toldOffset_9 : decode cX7_toldOffset 9 = .ok (.iload_n 1, 1) := by decide +kernel
theorem dX7_toldOffset_10 : decode cX7_toldOffset 10 = .ok (.invokevirtual 67, 3) := by decide +kernel
theorem dX7_toldOffset_13 : decode cX7_toldOffset 13 = .ok (.aload_n 0, 1) := by decide +kernel
theorem dX7_toldOffset_14 : decode cX7_toldOffset 14 = .ok (.getfield 14, 3) := by decide +kernel
theorem dX7_toldOffset_17 : decode cX7_toldOffset 17 = .ok (.iload_n 1, 1) := by decide +kernel
theorem dX7_toldOffset_18 : decode cX7_toldOffset 18 = .ok (.aaload, 1) := by decide +kernel
theorem dX7_toldOffset_19 : decode cX7_toldOffset 19 = .ok (.iconst 4, 1) := by decide +kernel
theorem dX7_toldOffset_20 : decode cX7_toldOffset 20 = .ok (.iaload, 1) := by decide +kernel
theorem dX7_toldOffset_21 : decode cX7_toldOffset 21 = .ok (.imul, 1) := by decide +kernel
theorem dX7_toldOffset_22 : decode cX7_toldOffset 22 = .ok (.iadd, 1) := by decide +kernel
theorem dX7_toldOffset_23 : decode cX7_toldOffset 23 = .ok (.ireturn, 1) := by decide +kernel
theorem dX7_holds_0 : decode cX7_holds 0 = .ok (.aload_n 0, 1) := by decide +kernel
theorem dX7_holds_1 : decode cX7_holds 1 = .ok (.getfield 14, 3) := by decide +kernel
theorem dX7_holds_4 : decode cX7_holds 4 = .ok (.iload_n 1, 1) := by decide +kernel
theorem dX7_holds_5 : decode cX7_holds 5 = .ok (.aaload, 1) := by decide +kernel
theorem dX7_holds_6 : decode cX7_holds 6 = .ok (.iconst 0, 1) := by decide +kernel
theorem dX7_holds_7 : decode cX7_holds 7 = .ok (.iaload, 1) := by decide +kernel
theorem dX7_holds_8 : decode cX7_holds 8 = .ok (.ifCond .le 17, 3) := by decide +kernel
theorem dX7_holds_11 : decode cX7_holds 11 = .ok (.aload_n 0, 1) := by decide +kernel
theorem dX7_holds_12 : decode cX7_holds 12 = .ok (.iload_n 1, 1) := by decide +kernel
theorem dX7_holds_13 : decode cX7_holds 13 = .ok (.invokevirtual 67, 3) := by decide +kernel
theorem dX7_holds_16 : decode cX7_holds 16 = .ok (.bipush 12, 2) := by decide +kernel
theorem dX7_holds_18 : decode cX7_holds 18 = .ok (.if_icmp .gt 7, 3) := by decide +kernel
theorem dX7_holds_21 : decode cX7_holds 21 = .ok (.iconst 1, 1) := by decide +kernel
theorem dX7_holds_22 : decode cX7_holds 22 = .ok (.goto 4, 3) := by decide +kernel
theorem dX7_holds_25 : decode cX7_holds 25 = .ok (.iconst 0, 1) := by decide +kernel
theorem dX7_holds_26 : decode cX7_holds 26 = .ok (.ireturn, 1) := by decide +kernel
theorem dX7_isHeard_0 : decode cX7_isHeard 0 = .ok (.aload_n 0, 1) := by decide +kernel
theorem dX7_isHeard_1 : decode cX7_isHeard 1 = .ok (.iload_n 1, 1) := by decide +kernel
theorem dX7_isHeard_2 : decode cX7_isHeard 2 = .ok (.aload_n 0, 1) := by decide +kernel
theorem dX7_isHeard_3 : decode cX7_isHeard 3 = .ok (.iload_n 1, 1) := by decide +kernel
theorem dX7_isHeard_4 : decode cX7_isHeard 4 = .ok (.iload_n 3, 1) := by decide +kernel
theorem dX7_isHeard_5 : decode cX7_isHeard 5 = .ok (.invokevirtual 70, 3) := by decide +kernel
theorem dX7_isHeard_8 : decode cX7_isHeard 8 = .ok (.invokevirtual 73, 3) := by decide +kernel
theorem dX7_isHeard_11 : decode cX7_isHeard 11 = .ok (.istore 4, 2) := by decide +kernel
theorem dX7_isHeard_13 : decode cX7_isHeard 13 = .ok (.aload_n 0, 1) := by decide +kernel
theorem dX7_isHeard_14 : decode cX7_isHeard 14 = .ok (.getfield 11, 3) := by decide +kernel
theorem dX7_isHeard_17 : decode cX7_isHeard 17 = .ok (.iload_n 1, 1) := by decide +kernel
theorem dX7_isHeard_18 : decode cX7_isHeard 18 = .ok (.aaload, 1) := by decide +kernel
theorem dX7_isHeard_19 : decode cX7_isHeard 19 = .ok (.iconst 5, 1) := by decide +kernel
theorem dX7_isHeard_20 : decode cX7_isHeard 20 = .ok (.iaload, 1) := by decide +kernel
theorem dX7_isHeard_21 : decode cX7_isHeard 21 = .ok (.iconst 1, 1) := by decide +kernel
theorem dX7_isHeard_22 : decode cX7_isHeard 22 = .ok (.if_icmp .ne 44, 3) := by decide +kernel
theorem dX7_isHeard_25 : decode cX7_isHeard 25 = .ok (.iload 4, 2) := by decide +kernel
theorem dX7_isHeard_27 : decode cX7_isHeard 27 = .ok (.bipush 10, 2) := by decide +kernel
theorem dX7_isHeard_29 : decode cX7_isHeard 29 = .ok (.if_icmp .lt 37, 3) := by decide +kernel
theorem dX7_isHeard_32 : decode cX7_isHeard 32 = .ok (.aload_n 0, 1) := by decide +kernel
theorem dX7_isHeard_33 : decode cX7_isHeard 33 = .ok (.iload_n 1, 1) := by decide +kernel
theorem dX7_isHeard_34 : decode cX7_isHeard 34 = .ok (.aload_n 0, 1) := by decide +kernel
theorem dX7_isHeard_35 : decode cX7_isHeard 35 = .ok (.iload_n 1, 1) := by decide +kernel
theorem dX7_isHeard_36 : decode cX7_isHeard 36 = .ok (.iload_n 3, 1) := by decide +kernel
theorem dX7_isHeard_37 : decode cX7_isHeard 37 = .ok (.invokevirtual 70, 3) := by decide +kernel
theorem dX7_isHeard_40 : decode cX7_isHeard 40 = .ok (.invokevirtual 76, 3) := by decide +kernel
theorem dX7_isHeard_43 : decode cX7_isHeard 43 = .ok (.aload_n 0, 1) := by decide +kernel
theorem dX7_isHeard_44 : decode cX7_isHeard 44 = .ok (.getfield 17, 3) := by decide +kernel
theorem dX7_isHeard_47 : decode cX7_isHeard 47 = .ok (.iload_n 2, 1) := by decide +kernel
theorem dX7_isHeard_48 : decode cX7_isHeard 48 = .ok (.aaload, 1) := by decide +kernel
theorem dX7_isHeard_49 : decode cX7_isHeard 49 = .ok (.iconst 0, 1) := by decide +kernel
theorem dX7_isHeard_50 : decode cX7_isHeard 50 = .ok (.iaload, 1) := by decide +kernel
theorem dX7_isHeard_51 : decode cX7_isHeard 51 = .ok (.isub, 1) := by decide +kernel
theorem dX7_isHeard_52 : decode cX7_isHeard 52 = .ok (.invokestatic 61, 3) := by decide +kernel
theorem dX7_isHeard_55 : decode cX7_isHeard 55 = .ok (.iconst 2, 1) := by decide +kernel
theorem dX7_isHeard_56 : decode cX7_isHeard 56 = .ok (.iload 4, 2) := by decide +kernel
theorem dX7_isHeard_58 : decode cX7_isHeard 58 = .ok (.imul, 1) := by decide +kernel
theorem dX7_isHeard_59 : decode cX7_isHeard 59 = .ok (.if_icmp .gt 7, 3) := by decide +kernel
theorem dX7_isHeard_62 : decode cX7_isHeard 62 = .ok (.iconst 1, 1) := by decide +kernel
theorem dX7_isHeard_63 : decode cX7_isHeard 63 = .ok (.goto 4, 3) := by decide +kernel
theorem dX7_isHeard_66 : decode cX7_isHeard 66 = .ok (.iconst 0, 1) := by decide +kernel
theorem dX7_isHeard_67 : decode cX7_isHeard 67 = .ok (.ireturn, 1) := by decide +kernel
theorem dX7_sees_0 : decode cX7_sees 0 = .ok (.aload_n 0, 1) := by decide +kernel
theorem dX7_sees_1 : decode cX7_sees 1 = .ok (.getfield 20, 3) := by decide +kernel
theorem dX7_sees_4 : decode cX7_sees 4 = .ok (.iload_n 1, 1) := by decide +kernel
theorem dX7_sees_5 : decode cX7_sees 5 = .ok (.aaload, 1) := by decide +kernel
theorem dX7_sees_6 : decode cX7_sees 6 = .ok (.astore 4, 2) := by decide +kernel
theorem dX7_sees_8 : decode cX7_sees 8 = .ok (.aload_n 0, 1) := by decide +kernel
theorem dX7_sees_9 : decode cX7_sees 9 = .ok (.iload_n 2, 1) := by decide +kernel
theorem dX7_sees_10 : decode cX7_sees 10 = .ok (.iload_n 3, 1) := by decide +kernel
theorem dX7_sees_11 : decode cX7_sees 11 = .ok (.invokevirtual 70, 3) := by decide +kernel
theorem dX7_sees_14 : decode cX7_sees 14 = .ok (.istore 5, 2) := by decide +kernel
theorem dX7_sees_16 : decode cX7_sees 16 = .ok (.aload_n 0, 1) := by decide +kernel
theorem dX7_sees_17 : decode cX7_sees 17 = .ok (.iload_n 2, 1) := by decide +kernel
theorem dX7_sees_18 : decode cX7_sees 18 = .ok (.iload 5, 2) := by decide +kernel
theorem dX7_sees_20 : decode cX7_sees 20 = .ok (.invokevirtual 76, 3) := by decide +kernel
theorem dX7_sees_23 : decode cX7_sees 23 = .ok (.aload 4, 2) := by decide +kernel
theorem dX7_sees_25 : decode cX7_sees 25 = .ok (.iconst 0, 1) := by decide +kernel
theorem dX7_sees_26 : decode cX7_sees 26 = .ok (.iaload, 1) := by decide +kernel
theorem dX7_sees_27 : decode cX7_sees 27 = .ok (.if_icmp .ge 10, 3) := by decide +kernel
theorem dX7_sees_30 : decode cX7_sees 30 = .ok (.aload 4, 2) := by decide +kernel
theorem dX7_sees_32 : decode cX7_sees 32 = .ok (.iconst 3, 1) := by decide +kernel
theorem dX7_sees_33 : decode cX7_sees 33 = .ok (.iaload, 1) := by decide +kernel
theorem dX7_sees_34 : decode cX7_sees 34 = .ok (.goto 7, 3) := by decide +kernel
theorem dX7_sees_37 : decode cX7_sees 37 = .ok (.aload 4, 2) := by decide +kernel
theorem dX7_sees_39 : decode cX7_sees 39 = .ok (.iconst 4, 1) := by decide +kernel
theorem dX7_sees_40 : decode cX7_sees 40 = .ok (.iaload, 1) := by decide +kernel
theorem dX7_sees_41 : decode cX7_sees 41 = .ok (.istore 6, 2) := by decide +kernel
theorem dX7_sees_43 : decode cX7_sees 43 = .ok (.aload_n 0, 1) := by decide +kernel
theorem dX7_sees_44 : decode cX7_sees 44 = .ok (.getfield 11, 3) := by decide +kernel
theorem dX7_sees_47 : decode cX7_sees 47 = .ok (.iload_n 2, 1) := by decide +kernel
theorem dX7_sees_48 : decode cX7_sees 48 = .ok (.aaload, 1) := by decide +kernel
theorem dX7_sees_49 : decode cX7_sees 49 = .ok (.iconst 5, 1) := by decide +kernel
theorem dX7_sees_50 : decode cX7_sees 50 = .ok (.iaload, 1) := by decide +kernel
theorem dX7_sees_51 : decode cX7_sees 51 = .ok (.iconst 1, 1) := by decide +kernel
theorem dX7_sees_52 : decode cX7_sees 52 = .ok (.if_icmp .ne 24, 3) := by decide +kernel
theorem dX7_sees_55 : decode cX7_sees 55 = .ok (.aload_n 0, 1) := by decide +kernel
theorem dX7_sees_56 : decode cX7_sees 56 = .ok (.iload_n 2, 1) := by decide +kernel
theorem dX7_sees_57 : decode cX7_sees 57 = .ok (.iload 5, 2) := by decide +kernel
theorem dX7_sees_59 : decode cX7_sees 59 = .ok (.invokevirtual 73, 3) := by decide +kernel
theorem dX7_sees_62 : decode cX7_sees 62 = .ok (.aload 4, 2) := by decide +kernel
theorem dX7_sees_64 : decode cX7_sees 64 = .ok (.iconst 1, 1) := by decide +kernel
theorem dX7_sees_65 : decode cX7_sees 65 = .ok (.iaload, 1) := by decide +kernel
theorem dX7_sees_66 : decode cX7_sees 66 = .ok (.isub, 1) := by decide +kernel
theorem dX7_sees_67 : decode cX7_sees 67 = .ok (.iload 6, 2) := by decide +kernel
theorem dX7_sees_69 : decode cX7_sees 69 = .ok (.if_icmp .lt 7, 3) := by decide +kernel
theorem dX7_sees_72 : decode cX7_sees 72 = .ok (.iconst 1, 1) := by decide +kernel
theorem dX7_sees_73 : decode cX7_sees 73 = .ok (.goto 4, 3) := by decide +kernel
theorem dX7_sees_76 : decode cX7_sees 76 = .ok (.iconst 0, 1) := by decide +kernel
theorem dX7_sees_77 : decode cX7_sees 77 = .ok (.ireturn, 1) := by decide +kernel
theorem dX7_setSeen_0 : decode cX7_setSeen 0 = .ok (.iconst 0, 1) := by decide +kernel
theorem dX7_setSeen_1 : decode cX7_setSeen 1 = .ok (.istore_n 3, 1) := by decide +kernel
theorem dX7_setSeen_2 : decode cX7_setSeen 2 = .ok (.iconst 0, 1) := by decide +kernel
theorem dX7_setSeen_3 : decode cX7_setSeen 3 = .ok (.istore 4, 2) := by decide +kernel
theorem dX7_setSeen_5 : decode cX7_setSeen 5 = .ok (.iload 4, 2) := by decide +kernel
theorem dX7_setSeen_7 : decode cX7_setSeen 7 = .ok (.aload_n 0, 1) := by decide +kernel
theorem dX7_setSeen_8 : decode cX7_setSeen 8 = .ok (.getfield 79, 3) := by decide +kernel
theorem dX7_setSeen_11 : decode cX7_setSeen 11 = .ok (.if_icmp .ge 31, 3) := by decide +kernel
theorem dX7_setSeen_14 : decode cX7_setSeen 14 = .ok (.iload_n 3, 1) := by decide +kernel
theorem dX7_setSeen_15 : decode cX7_setSeen 15 = .ok (.aload_n 0, 1) := by decide +kernel
theorem dX7_setSeen_16 : decode cX7_setSeen 16 = .ok (.iload_n 1, 1) := by decide +kernel
theorem dX7_setSeen_17 : decode cX7_setSeen 17 = .ok (.iload 4, 2) := by decide +kernel
theorem dX7_setSeen_19 : decode cX7_setSeen 19 = .ok (.iload_n 2, 1) := by decide +kernel
theorem dX7_setSeen_20 : decode cX7_setSeen 20 = .ok (.invokevirtual 82, 3) := by decide +kernel
theorem dX7_setSeen_23 : decode cX7_setSeen 23 = .ok (.ifCond .eq 10, 3) := by decide +kernel
theorem dX7_setSeen_26 : decode cX7_setSeen 26 = .ok (.iconst 1, 1) := by decide +kernel
theorem dX7_setSeen_27 : decode cX7_setSeen 27 = .ok (.iload 4, 2) := by decide +kernel
theorem dX7_setSeen_29 : decode cX7_setSeen 29 = .ok (.ishl, 1) := by decide +kernel
theorem dX7_setSeen_30 : decode cX7_setSeen 30 = .ok (.goto 4, 3) := by decide +kernel
theorem dX7_setSeen_33 : decode cX7_setSeen 33 = .ok (.iconst 0, 1) := by decide +kernel
theorem dX7_setSeen_34 : decode cX7_setSeen 34 = .ok (.ior, 1) := by decide +kernel
theorem dX7_setSeen_35 : decode cX7_setSeen 35 = .ok (.istore_n 3, 1) := by decide +kernel
theorem dX7_setSeen_36 : decode cX7_setSeen 36 = .ok (.iinc 4 1, 3) := by decide +kernel
theorem dX7_setSeen_39 : decode cX7_setSeen 39 = .ok (.goto (-34), 3) := by decide +kernel
theorem dX7_setSeen_42 : decode cX7_setSeen 42 = .ok (.iload_n 3, 1) := by decide +kernel
theorem dX7_setSeen_43 : decode cX7_setSeen 43 = .ok (.ireturn, 1) := by decide +kernel
theorem dX7_isStar_0 : decode cX7_isStar 0 = .ok (.iload_n 1, 1) := by decide +kernel
theorem dX7_isStar_1 : decode cX7_isStar 1 = .ok (.iconst 0, 1) := by decide +kernel
theorem dX7_isStar_2 : decode cX7_isStar 2 = .ok (.aload_n 0, 1) := by decide +kernel
theorem dX7_isStar_3 : decode cX7_isStar 3 = .ok (.getfield 79, 3) := by decide +kernel
theorem dX7_isStar_6 : decode cX7_isStar 6 = .ok (.iconst 1, 1) := by decide +kernel
theorem dX7_isStar_7 : decode cX7_isStar 7 = .ok (.isub, 1) := by decide +kernel
theorem dX7_isStar_8 : decode cX7_isStar 8 = .ok (.invokestatic 86, 3) := by decide +kernel
theorem dX7_isStar_11 : decode cX7_isStar 11 = .ok (.ireturn, 1) := by decide +kernel
theorem dX7_isStation_0 : decode cX7_isStation 0 = .ok (.iload_n 1, 1) := by decide +kernel
theorem dX7_isStation_1 : decode cX7_isStation 1 = .ok (.iconst 0, 1) := by decide +kernel
theorem dX7_isStation_2 : decode cX7_isStation 2 = .ok (.aload_n 0, 1) := by decide +kernel
theorem dX7_isStation_3 : decode cX7_isStation 3 = .ok (.getfield 89, 3) := by decide +kernel
theorem dX7_isStation_6 : decode cX7_isStation 6 = .ok (.iconst 1, 1) := by decide +kernel
theorem dX7_isStation_7 : decode cX7_isStation 7 = .ok (.isub, 1) := by decide +kernel
theorem dX7_isStation_8 : decode cX7_isStation 8 = .ok (.invokestatic 86, 3) := by decide +kernel
theorem dX7_isStation_11 : decode cX7_isStation 11 = .ok (.ireturn, 1) := by decide +kernel
theorem dX7_isReceiver_0 : decode cX7_isReceiver 0 = .ok (.iload_n 1, 1) := by decide +kernel
theorem dX7_isReceiver_1 : decode cX7_isReceiver 1 = .ok (.iconst 0, 1) := by decide +kernel
theorem dX7_isReceiver_2 : decode cX7_isReceiver 2 = .ok (.aload_n 0, 1) := by decide +kernel
theorem dX7_isReceiver_3 : decode cX7_isReceiver 3 = .ok (.getfield 92, 3) := by decide +kernel
theorem dX7_isReceiver_6 : decode cX7_isReceiver 6 = .ok (.iconst 1, 1) := by decide +kernel
theorem dX7_isReceiver_7 : decode cX7_isReceiver 7 = .ok (.isub, 1) := by decide +kernel
theorem dX7_isReceiver_8 : decode cX7_isReceiver 8 = .ok (.invokestatic 86, 3) := by decide +kernel
theorem dX7_isReceiver_11 : decode cX7_isReceiver 11 = .ok (.ireturn, 1) := by decide +kernel
theorem dX7_star_0 : decode cX7_star 0 = .ok (.aload_n 0, 1) := by decide +kernel
theorem dX7_star_1 : decode cX7_star 1 = .ok (.iconst 0, 1) := by decide +kernel
theorem dX7_star_2 : decode cX7_star 2 = .ok (.putfield 41, 3) := by decide +kernel
theorem dX7_star_5 : decode cX7_star 5 = .ok (.iload_n 1, 1) := by decide +kernel
theorem dX7_star_6 : decode cX7_star 6 = .ok (.bipush 60, 2) := by decide +kernel
theorem dX7_star_8 : decode cX7_star 8 = .ok (.sipush 200, 3) := by decide +kernel
theorem dX7_star_11 : decode cX7_star 11 = .ok (.invokestatic 86, 3) := by decide +kernel
theorem dX7_star_14 : decode cX7_star 14 = .ok (.ifCond .eq 48, 3) := by decide +kernel
theorem dX7_star_17 : decode cX7_star 17 = .ok (.iload_n 2, 1) := by decide +kernel
theorem dX7_star_18 : decode cX7_star 18 = .ok (.iconst 0, 1) := by decide +kernel
theorem dX7_star_19 : decode cX7_star 19 = .ok (.bipush 47, 2) := by decide +kernel
theorem dX7_star_21 : decode cX7_star 21 = .ok (.invokestatic 86, 3) := by decide +kernel
theorem dX7_star_24 : decode cX7_star 24 = .ok (.ifCond .eq 38, 3) := by decide +kernel
theorem dX7_star_27 : decode cX7_star 27 = .ok (.iload_n 3, 1) := by decide +kernel
theorem dX7_star_28 : decode cX7_star 28 = .ok (.bipush (-3), 2) := by decide +kernel
theorem dX7_star_30 : decode cX7_star 30 = .ok (.iconst 3, 1) := by decide +kernel
theorem dX7_star_31 : decode cX7_star 31 = .ok (.invokestatic 86, 3) := by decide +kernel
theorem dX7_star_34 : decode cX7_star 34 = .ok (.ifCond .eq 28, 3) := by decide +kernel
theorem dX7_star_37 : decode cX7_star 37 = .ok (.iload 4, 2) := by decide +kernel
theorem dX7_star_39 : decode cX7_star 39 = .ok (.sipush (-500), 3) := by decide +kernel
theorem dX7_star_42 : decode cX7_star 42 = .ok (.sipush 500, 3) := by decide +kernel
theorem dX7_star_45 : decode cX7_star 45 = .ok (.invokestatic 86, 3) := by decide +kernel
theorem dX7_star_48 : decode cX7_star 48 = .ok (.ifCond .eq 14, 3) := by decide +kernel
theorem dX7_star_51 : decode cX7_star 51 = .ok (.iload 5, 2) := by decide +kernel
theorem dX7_star_53 : decode cX7_star 53 = .ok (.bipush (-3), 2) := by decide +kernel
theorem dX7_star_55 : decode cX7_star 55 = .ok (.iconst 3, 1) := by decide +kernel
theorem dX7_star_56 : decode cX7_star 56 = .ok (.invokestatic 86, 3) := by decide +kernel
theorem dX7_star_59 : decode cX7_star 59 = .ok (.ifCond .ne 9, 3) := by decide +kernel
theorem dX7_star_62 : decode cX7_star 62 = .ok (.aload_n 0, 1) := by decide +kernel
theorem dX7_star_63 : decode cX7_star 63 = .ok (.iconst 1, 1) := by decide +kernel
theorem dX7_star_64 : decode cX7_star 64 = .ok (.invokevirtual 95, 3) := by decide +kernel
theorem dX7_star_67 : decode cX7_star 67 = .ok (.ireturn, 1) := by decide +kernel
theorem dX7_star_68 : decode cX7_star 68 = .ok (.aload_n 0, 1) := by decide +kernel
theorem dX7_star_69 : decode cX7_star 69 = .ok (.getfield 79, 3) := by decide +kernel
theorem dX7_star_72 : decode cX7_star 72 = .ok (.bipush 8, 2) := by decide +kernel
theorem dX7_star_74 : decode cX7_star 74 = .ok (.if_icmp .ne 9, 3) := by decide +kernel
theorem dX7_star_77 : decode cX7_star 77 = .ok (.aload_n 0, 1) := by decide +kernel
theorem dX7_star_78 : decode cX7_star 78 = .ok (.iconst 2, 1) := by decide +kernel
theorem dX7_star_79 : decode cX7_star 79 = .ok (.invokevirtual 95, 3) := by decide +kernel
theorem dX7_star_82 : decode cX7_star 82 = .ok (.ireturn, 1) := by decide +kernel
theorem dX7_star_83 : decode cX7_star 83 = .ok (.aload_n 0, 1) := by decide +kernel
theorem dX7_star_84 : decode cX7_star 84 = .ok (.getfield 11, 3) := by decide +kernel
theorem dX7_star_87 : decode cX7_star 87 = .ok (.aload_n 0, 1) := by decide +kernel
theorem dX7_star_88 : decode cX7_star 88 = .ok (.getfield 79, 3) := by decide +kernel
theorem dX7_star_91 : decode cX7_star 91 = .ok (.aaload, 1) := by decide +kernel
theorem dX7_star_92 : decode cX7_star 92 = .ok (.astore 6, 2) := by decide +kernel
theorem dX7_star_94 : decode cX7_star 94 = .ok (.aload 6, 2) := by decide +kernel
theorem dX7_star_96 : decode cX7_star 96 = .ok (.iconst 0, 1) := by decide +kernel
theorem dX7_star_97 : decode cX7_star 97 = .ok (.iload_n 1, 1) := by decide +kernel
theorem dX7_star_98 : decode cX7_star 98 = .ok (.iastore, 1) := by decide +kernel
theorem dX7_star_99 : decode cX7_star 99 = .ok (.aload 6, 2) := by decide +kernel
theorem dX7_star_101 : decode cX7_star 101 = .ok (.iconst 1, 1) := by decide +kernel
theorem dX7_star_102 : decode cX7_star 102 = .ok (.iload_n 2, 1) := by decide +kernel
theorem dX7_star_103 : decode cX7_star 103 = .ok (.iastore, 1) := by decide +kernel
theorem dX7_star_104 : decode cX7_star 104 = .ok (.aload 6, 2) := by decide +kernel
theorem dX7_star_106 : decode cX7_star 106 = .ok (.iconst 2, 1) := by decide +kernel
theorem dX7_star_107 : decode cX7_star 107 = .ok (.iload_n 3, 1) := by decide +kernel
theorem dX7_star_108 : decode cX7_star 108 = .ok (.iastore, 1) := by decide +kernel
theorem dX7_star_109 : decode cX7_star 109 = .ok (.aload 6, 2) := by decide +kernel
theorem dX7_star_111 : decode cX7_star 111 = .ok (.iconst 3, 1) := by decide +kernel
theorem dX7_star_112 : decode cX7_star 112 = .ok (.iload 4, 2) := by decide +kernel
theorem dX7_star_114 : decode cX7_star 114 = .ok (.iastore, 1) := by decide +kernel
theorem dX7_star_115 : decode cX7_star 115 = .ok (.aload 6, 2) := by decide +kernel
theorem dX7_star_117 : decode cX7_star 117 = .ok (.iconst 4, 1) := by decide +kernel
theorem dX7_star_118 : decode cX7_star 118 = .ok (.iload 5, 2) := by decide +kernel
theorem dX7_star_120 : decode cX7_star 120 = .ok (.iastore, 1) := by decide +kernel
theorem dX7_star_121 : decode cX7_star 121 = .ok (.aload 6, 2) := by decide +kernel
theorem dX7_star_123 : decode cX7_star 123 = .ok (.iconst 5, 1) := by decide +kernel
theorem dX7_star_124 : decode cX7_star 124 = .ok (.iconst 1, 1) := by decide +kernel
theorem dX7_star_125 : decode cX7_star 125 = .ok (.iastore, 1) := by decide +kernel
theorem dX7_star_126 : decode cX7_star 126 = .ok (.aload_n 0, 1) := by decide +kernel
theorem dX7_star_127 : decode cX7_star 127 = .ok (.getfield 14, 3) := by decide +kernel
theorem dX7_star_130 : decode cX7_star 130 = .ok (.aload_n 0, 1) := by decide +kernel
theorem dX7_star_131 : decode cX7_star 131 = .ok (.getfield 79, 3) := by decide +kernel
theorem dX7_star_134 : decode cX7_star 134 = .ok (.aaload, 1) := by decide +kernel
theorem dX7_star_135 : decode cX7_star 135 = .ok (.iconst 1, 1) := by decide +kernel
theorem dX7_star_136 : decode cX7_star 136 = .ok (.iconst (-1), 1) := by decide +kernel
theorem dX7_star_137 : decode cX7_star 137 = .ok (.iastore, 1) := by decide +kernel
theorem dX7_star_138 : decode cX7_star 138 = .ok (.aload_n 0, 1) := by decide +kernel
theorem dX7_star_139 : decode cX7_star 139 = .ok (.getfield 14, 3) := by decide +kernel
theorem dX7_star_142 : decode cX7_star 142 = .ok (.aload_n 0, 1) := by decide +kernel
theorem dX7_star_143 : decode cX7_star 143 = .ok (.getfield 79, 3) := by decide +kernel
theorem dX7_star_146 : decode cX7_star 146 = .ok (.aaload, 1) := by decide +kernel
theorem dX7_star_147 : decode cX7_star 147 = .ok (.iconst 2, 1) := by decide +kernel
theorem dX7_star_148 : decode cX7_star 148 = .ok (.iconst (-1), 1) := by decide +kernel
theorem dX7_star_149 : decode cX7_star 149 = .ok (.iastore, 1) := by decide +kernel
theorem dX7_star_150 : decode cX7_star 150 = .ok (.aload_n 0, 1) := by decide +kernel
theorem dX7_star_151 : decode cX7_star 151 = .ok (.dup, 1) := by decide +kernel
theorem dX7_star_152 : decode cX7_star 152 = .ok (.getfield 79, 3) := by decide +kernel
theorem dX7_star_155 : decode cX7_star 155 = .ok (.iconst 1, 1) := by decide +kernel
theorem dX7_star_156 : decode cX7_star 156 = .ok (.iadd, 1) := by decide +kernel
theorem dX7_star_157 : decode cX7_star 157 = .ok (.putfield 79, 3) := by decide +kernel
theorem dX7_star_160 : decode cX7_star 160 = .ok (.aload_n 0, 1) := by decide +kernel
theorem dX7_star_161 : decode cX7_star 161 = .ok (.getfield 79, 3) := by decide +kernel
theorem dX7_star_164 : decode cX7_star 164 = .ok (.iconst 1, 1) := by decide +kernel
theorem dX7_star_165 : decode cX7_star 165 = .ok (.isub, 1) := by decide +kernel
theorem dX7_star_166 : decode cX7_star 166 = .ok (.ireturn, 1) := by decide +kernel
theorem dX7_push_0 : decode cX7_push 0 = .ok (.aload_n 0, 1) := by decide +kernel
theorem dX7_push_1 : decode cX7_push 1 = .ok (.iconst 0, 1) := by decide +kernel
theorem dX7_push_2 : decode cX7_push 2 = .ok (.putfield 41, 3) := by decide +kernel
theorem dX7_push_5 : decode cX7_push 5 = .ok (.aload_n 0, 1) := by decide +kernel
theorem dX7_push_6 : decode cX7_push 6 = .ok (.iload_n 1, 1) := by decide +kernel
theorem dX7_push_7 : decode cX7_push 7 = .ok (.invokevirtual 98, 3) := by decide +kernel
theorem dX7_push_10 : decode cX7_push 10 = .ok (.ifCond .ne 9, 3) := by decide +kernel
theorem dX7_push_13 : decode cX7_push 13 = .ok (.aload_n 0, 1) := by decide +kernel
theorem dX7_push_14 : decode cX7_push 14 = .ok (.iconst 1, 1) := by decide +kernel
theorem dX7_push_15 : decode cX7_push 15 = .ok (.invokevirtual 95, 3) := by decide +kernel
theorem dX7_push_18 : decode cX7_push 18 = .ok (.ireturn, 1) := by decide +kernel
theorem dX7_push_19 : decode cX7_push 19 = .ok (.iload_n 2, 1) := by decide +kernel
theorem dX7_push_20 : decode cX7_push 20 = .ok (.bipush (-5), 2) := by decide +kernel
theorem dX7_push_22 : decode cX7_push 22 = .ok (.iconst 5, 1) := by decide +kernel
theorem dX7_push_23 : decode cX7_push 23 = .ok (.invokestatic 86, 3) := by decide +kernel
theorem dX7_push_26 : decode cX7_push 26 = .ok (.ifCond .ne 9, 3) := by decide +kernel
theorem dX7_push_29 : decode cX7_push 29 = .ok (.aload_n 0, 1) := by decide +kernel
theorem dX7_push_30 : decode cX7_push 30 = .ok (.iconst 2, 1) := by decide +kernel
theorem dX7_push_31 : decode cX7_push 31 = .ok (.invokevirtual 95, 3) := by decide +kernel
theorem dX7_push_34 : decode cX7_push 34 = .ok (.ireturn, 1) := by decide +kernel
theorem dX7_push_35 : decode cX7_push 35 = .ok (.aload_n 0, 1) := by decide +kernel
theorem dX7_push_36 : decode cX7_push 36 = .ok (.getfield 11, 3) := by decide +kernel
theorem dX7_push_39 : decode cX7_push 39 = .ok (.iload_n 1, 1) := by decide +kernel
theorem dX7_push_40 : decode cX7_push 40 = .ok (.aaload, 1) := by decide +kernel
theorem dX7_push_41 : decode cX7_push 41 = .ok (.iconst 1, 1) := by decide +kernel
theorem dX7_push_42 : decode cX7_push 42 = .ok (.aload_n 0, 1) := by decide +kernel
theorem dX7_push_43 : decode cX7_push 43 = .ok (.getfield 11, 3) := by decide +kernel
theorem dX7_push_46 : decode cX7_push 46 = .ok (.iload_n 1, 1) := by decide +kernel
theorem dX7_push_47 : decode cX7_push 47 = .ok (.aaload, 1) := by decide +kernel
theorem dX7_push_48 : decode cX7_push 48 = .ok (.iconst 1, 1) := by decide +kernel
theorem dX7_push_49 : decode cX7_push 49 = .ok (.iaload, 1) := by decide +kernel
theorem dX7_push_50 : decode cX7_push 50 = .ok (.iload_n 2, 1) := by decide +kernel
theorem dX7_push_51 : decode cX7_push 51 = .ok (.iadd, 1) := by decide +kernel
theorem dX7_push_52 : decode cX7_push 52 = .ok (.bipush 48, 2) := by decide +kernel
theorem dX7_push_54 : decode cX7_push 54 = .ok (.invokestatic 54, 3) := by decide +kernel
theorem dX7_push_57 : decode cX7_push 57 = .ok (.iastore, 1) := by decide +kernel
theorem dX7_push_58 : decode cX7_push 58 = .ok (.aload_n 0, 1) := by decide +kernel
theorem dX7_push_59 : decode cX7_push 59 = .ok (.getfield 11, 3) := by decide +kernel
theorem dX7_push_62 : decode cX7_push 62 = .ok (.iload_n 1, 1) := by decide +kernel
theorem dX7_push_63 : decode cX7_push 63 = .ok (.aaload, 1) := by decide +kernel
theorem dX7_push_64 : decode cX7_push 64 = .ok (.iconst 1, 1) := by decide +kernel
theorem dX7_push_65 : decode cX7_push 65 = .ok (.iaload, 1) := by decide +kernel
theorem dX7_push_66 : decode cX7_push 66 = .ok (.ireturn, 1) := by decide +kernel
theorem dX7_jump_0 : decode cX7_jump 0 = .ok (.aload_n 0, 1) := by decide +kernel
theorem dX7_jump_1 : decode cX7_jump 1 = .ok (.iconst 0, 1) := by decide +kernel
theorem dX7_jump_2 : decode cX7_jump 2 = .ok (.putfield 41, 3) := by decide +kernel
theorem dX7_jump_5 : decode cX7_jump 5 = .ok (.aload_n 0, 1) := by decide +kernel
theorem dX7_jump_6 : decode cX7_jump 6 = .ok (.iload_n 1, 1) := by decide +kernel
theorem dX7_jump_7 : decode cX7_jump 7 = .ok (.invokevirtual 98, 3) := by decide +kernel
theorem dX7_jump_10 : decode cX7_jump 10 = .ok (.ifCond .ne 9, 3) := by decide +kernel
theorem dX7_jump_13 : decode cX7_jump 13 = .ok (.aload_n 0, 1) := by decide +kernel
theorem dX7_jump_14 : decode cX7_jump 14 = .ok (.iconst 1, 1) := by decide +kernel
theorem dX7_jump_15 : decode cX7_jump 15 = .ok (.invokevirtual 95, 3) := by decide +kernel
theorem dX7_jump_18 : decode cX7_jump 18 = .ok (.ireturn, 1) := by decide +kernel
theorem dX7_jump_19 : decode cX7_jump 19 = .ok (.iload_n 2, 1) := by decide +kernel
theorem dX7_jump_20 : decode cX7_jump 20 = .ok (.bipush (-99), 2) := by decide +kernel
theorem dX7_jump_22 : decode cX7_jump 22 = .ok (.bipush 99, 2) := by decide +kernel
theorem dX7_jump_24 : decode cX7_jump 24 = .ok (.invokestatic 86, 3) := by decide +kernel
theorem dX7_jump_27 : decode cX7_jump 27 = .ok (.ifCond .eq 13, 3) := by decide +kernel
theorem dX7_jump_30 : decode cX7_jump 30 = .ok (.iload_n 3, 1) := by decide +kernel
theorem dX7_jump_31 : decode cX7_jump 31 = .ok (.bipush (-3), 2) := by decide +kernel
theorem dX7_jump_33 : decode cX7_jump 33 = .ok (.iconst 3, 1) := by decide +kernel
theorem dX7_jump_34 : decode cX7_jump 34 = .ok (.invokestatic 86, 3) := by decide +kernel
theorem dX7_jump_37 : decode cX7_jump 37 = .ok (.ifCond .ne 9, 3) := by decide +kernel
theorem dX7_jump_40 : decode cX7_jump 40 = .ok (.aload_n 0, 1) := by decide +kernel
theorem dX7_jump_41 : decode cX7_jump 41 = .ok (.iconst 2, 1) := by decide +kernel
theorem dX7_jump_42 : decode cX7_jump 42 = .ok (.invokevirtual 95, 3) := by decide +kernel
theorem dX7_jump_45 : decode cX7_jump 45 = .ok (.ireturn, 1) := by decide +kernel
theorem dX7_jump_46 : decode cX7_jump 46 = .ok (.aload_n 0, 1) := by decide +kernel
theorem dX7_jump_47 : decode cX7_jump 47 = .ok (.getfield 11, 3) := by decide +kernel
theorem dX7_jump_50 : decode cX7_jump 50 = .ok (.iload_n 1, 1) := by decide +kernel
theorem dX7_jump_51 : decode cX7_jump 51 = .ok (.aaload, 1) := by decide +kernel
theorem dX7_jump_52 : decode cX7_jump 52 = .ok (.iconst 3, 1) := by decide +kernel
theorem dX7_jump_53 : decode cX7_jump 53 = .ok (.aload_n 0, 1) := by decide +kernel
theorem dX7_jump_54 : decode cX7_jump 54 = .ok (.getfield 11, 3) := by decide +kernel
theorem dX7_jump_57 : decode cX7_jump 57 = .ok (.iload_n 1, 1) := by decide +kernel
theorem dX7_jump_58 : decode cX7_jump 58 = .ok (.aaload, 1) := by decide +kernel
theorem dX7_jump_59 : decode cX7_jump 59 = .ok (.iconst 3, 1) := by decide +kernel
theorem dX7_jump_60 : decode cX7_jump 60 = .ok (.iaload, 1) := by decide +kernel
theorem dX7_jump_61 : decode cX7_jump 61 = .ok (.iload_n 2, 1) := by decide +kernel
theorem dX7_jump_62 : decode cX7_jump 62 = .ok (.iadd, 1) := by decide +kernel
theorem dX7_jump_63 : decode cX7_jump 63 = .ok (.sipush 999, 3) := by decide +kernel
theorem dX7_jump_66 : decode cX7_jump 66 = .ok (.invokestatic 102, 3) := by decide +kernel
theorem dX7_jump_69 : decode cX7_jump 69 = .ok (.iastore, 1) := by decide +kernel
theorem dX7_jump_70 : decode cX7_jump 70 = .ok (.aload_n 0, 1) := by decide +kernel
theorem dX7_jump_71 : decode cX7_jump 71 = .ok (.getfield 11, 3) := by decide +kernel
theorem dX7_jump_74 : decode cX7_jump 74 = .ok (.iload_n 1, 1) := by decide +kernel
theorem dX7_jump_75 : decode cX7_jump 75 = .ok (.aaload, 1) := by decide +kernel
theorem dX7_jump_76 : decode cX7_jump 76 = .ok (.iconst 4, 1) := by decide +kernel
theorem dX7_jump_77 : decode cX7_jump 77 = .ok (.iload_n 3, 1) := by decide +kernel
theorem dX7_jump_78 : decode cX7_jump 78 = .ok (.iastore, 1) := by decide +kernel
theorem dX7_jump_79 : decode cX7_jump 79 = .ok (.aload_n 0, 1) := by decide +kernel
theorem dX7_jump_80 : decode cX7_jump 80 = .ok (.getfield 11, 3) := by decide +kernel
theorem dX7_jump_83 : decode cX7_jump 83 = .ok (.iload_n 1, 1) := by decide +kernel
theorem dX7_jump_84 : decode cX7_jump 84 = .ok (.aaload, 1) := by decide +kernel
theorem dX7_jump_85 : decode cX7_jump 85 = .ok (.iconst 3, 1) := by decide +kernel
theorem dX7_jump_86 : decode cX7_jump 86 = .ok (.iaload, 1) := by decide +kernel
theorem dX7_jump_87 : decode cX7_jump 87 = .ok (.ireturn, 1) := by decide +kernel
theorem dX7_health_0 : decode cX7_health 0 = .ok (.aload_n 0, 1) := by decide +kernel
theorem dX7_health_1 : decode cX7_health 1 = .ok (.aload_n 0, 1) := by decide +kernel
theorem dX7_health_2 : decode cX7_health 2 = .ok (.iload_n 1, 1) := by decide +kernel
theorem dX7_health_3 : decode cX7_health 3 = .ok (.invokevirtual 98, 3) := by decide +kernel
theorem dX7_health_6 : decode cX7_health 6 = .ok (.ifCond .eq 7, 3) := by decide +kernel
theorem dX7_health_9 : decode cX7_health 9 = .ok (.iconst 0, 1) := by decide +kernel
theorem dX7_health_10 : decode cX7_health 10 = .ok (.goto 4, 3) := by decide +kernel
theorem dX7_health_13 : decode cX7_health 13 = .ok (.iconst 1, 1) := by decide +kernel
theorem dX7_health_14 : decode cX7_health 14 = .ok (.putfield 41, 3) := by decide +kernel
theorem dX7_health_17 : decode cX7_health 17 = .ok (.aload_n 0, 1) := by decide +kernel
theorem dX7_health_18 : decode cX7_health 18 = .ok (.getfield 41, 3) := by decide +kernel
theorem dX7_health_21 : decode cX7_health 21 = .ok (.ifCond .le 5, 3) := by decide +kernel
theorem dX7_health_24 : decode cX7_health 24 = .ok (.iconst 0, 1) := by decide +kernel
theorem dX7_health_25 : decode cX7_health 25 = .ok (.ireturn, 1) := by decide +kernel
theorem dX7_health_26 : decode cX7_health 26 = .ok (.aload_n 0, 1) := by decide +kernel
theorem dX7_health_27 : decode cX7_health 27 = .ok (.getfield 11, 3) := by decide +kernel
theorem dX7_health_30 : decode cX7_health 30 = .ok (.iload_n 1, 1) := by decide +kernel
theorem dX7_health_31 : decode cX7_health 31 = .ok (.aaload, 1) := by decide +kernel
theorem dX7_health_32 : decode cX7_health 32 = .ok (.iconst 5, 1) := by decide +kernel
theorem dX7_health_33 : decode cX7_health 33 = .ok (.iaload, 1) := by decide +kernel
theorem dX7_health_34 : decode cX7_health 34 = .ok (.iconst 1, 1) := by decide +kernel
theorem dX7_health_35 : decode cX7_health 35 = .ok (.if_icmp .ne 7, 3) := by decide +kernel
theorem dX7_health_38 : decode cX7_health 38 = .ok (.iconst 1, 1) := by decide +kernel
theorem dX7_health_39 : decode cX7_health 39 = .ok (.goto 4, 3) := by decide +kernel
theorem dX7_health_42 : decode cX7_health 42 = .ok (.iconst 0, 1) := by decide +kernel
theorem dX7_health_43 : decode cX7_health 43 = .ok (.istore_n 3, 1) := by decide +kernel
theorem dX7_health_44 : decode cX7_health 44 = .ok (.aload_n 0, 1) := by decide +kernel
theorem dX7_health_45 : decode cX7_health 45 = .ok (.getfield 11, 3) := by decide +kernel
theorem dX7_health_48 : decode cX7_health 48 = .ok (.iload_n 1, 1) := by decide +kernel
theorem dX7_health_49 : decode cX7_health 49 = .ok (.aaload, 1) := by decide +kernel
theorem dX7_health_50 : decode cX7_health 50 = .ok (.iconst 5, 1) := by decide +kernel
theorem dX7_health_51 : decode cX7_health 51 = .ok (.iload_n 2, 1) := by decide +kernel
theorem dX7_health_52 : decode cX7_health 52 = .ok (.ifCond .eq 7, 3) := by decide +kernel
theorem dX7_health_55 : decode cX7_health 55 = .ok (.iconst 1, 1) := by decide +kernel
theorem dX7_health_56 : decode cX7_health 56 = .ok (.goto 4, 3) := by decide +kernel
theorem dX7_health_59 : decode cX7_health 59 = .ok (.iconst 0, 1) := by decide +kernel
theorem dX7_health_60 : decode cX7_health 60 = .ok (.iastore, 1) := by decide +kernel
theorem dX7_health_61 : decode cX7_health 61 = .ok (.iload_n 3, 1) := by decide +kernel
theorem dX7_health_62 : decode cX7_health 62 = .ok (.ireturn, 1) := by decide +kernel
theorem dX7_station_0 : decode cX7_station 0 = .ok (.aload_n 0, 1) := by decide +kernel
theorem dX7_station_1 : decode cX7_station 1 = .ok (.iconst 0, 1) := by decide +kernel
theorem dX7_station_2 : decode cX7_station 2 = .ok (.putfield 41, 3) := by decide +kernel
theorem dX7_station_5 : decode cX7_station 5 = .ok (.iload_n 1, 1) := by decide +kernel
theorem dX7_station_6 : decode cX7_station 6 = .ok (.bipush (-50), 2) := by decide +kernel
theorem dX7_station_8 : decode cX7_station 8 = .ok (.bipush 50, 2) := by decide +kernel
theorem dX7_station_10 : decode cX7_station 10 = .ok (.invokestatic 86, 3) := by decide +kernel
theorem dX7_station_13 : decode cX7_station 13 = .ok (.ifCond .eq 13, 3) := by decide +kernel
theorem dX7_station_16 : decode cX7_station 16 = .ok (.iload_n 2, 1) := by decide +kernel
theorem dX7_station_17 : decode cX7_station 17 = .ok (.iconst 0, 1) := by decide +kernel
theorem dX7_station_18 : decode cX7_station 18 = .ok (.bipush 9, 2) := by decide +kernel
theorem dX7_station_20 : decode cX7_station 20 = .ok (.invokestatic 86, 3) := by decide +kernel
theorem dX7_station_23 : decode cX7_station 23 = .ok (.ifCond .ne 9, 3) := by decide +kernel
theorem dX7_station_26 : decode cX7_station 26 = .ok (.aload_n 0, 1) := by decide +kernel
theorem dX7_station_27 : decode cX7_station 27 = .ok (.iconst 1, 1) := by decide +kernel
theorem dX7_station_28 : decode cX7_station 28 = .ok (.invokevirtual 95, 3) := by decide +kernel
theorem dX7_station_31 : decode cX7_station 31 = .ok (.ireturn, 1) := by decide +kernel
theorem dX7_station_32 : decode cX7_station 32 = .ok (.aload_n 0, 1) := by decide +kernel
theorem dX7_station_33 : decode cX7_station 33 = .ok (.getfield 89, 3) := by decide +kernel
theorem dX7_station_36 : decode cX7_station 36 = .ok (.iconst 3, 1) := by decide +kernel
theorem dX7_station_37 : decode cX7_station 37 = .ok (.if_icmp .ne 9, 3) := by decide +kernel
theorem dX7_station_40 : decode cX7_station 40 = .ok (.aload_n 0, 1) := by decide +kernel
theorem dX7_station_41 : decode cX7_station 41 = .ok (.iconst 2, 1) := by decide +kernel
theorem dX7_station_42 : decode cX7_station 42 = .ok (.invokevirtual 95, 3) := by decide +kernel
theorem dX7_station_45 : decode cX7_station 45 = .ok (.ireturn, 1) := by decide +kernel
theorem dX7_station_46 : decode cX7_station 46 = .ok (.aload_n 0, 1) := by decide +kernel
theorem dX7_station_47 : decode cX7_station 47 = .ok (.getfield 17, 3) := by decide +kernel
theorem dX7_station_50 : decode cX7_station 50 = .ok (.aload_n 0, 1) := by decide +kernel
theorem dX7_station_51 : decode cX7_station 51 = .ok (.getfield 89, 3) := by decide +kernel
theorem dX7_station_54 : decode cX7_station 54 = .ok (.aaload, 1) := by decide +kernel
theorem dX7_station_55 : decode cX7_station 55 = .ok (.iconst 0, 1) := by decide +kernel
theorem dX7_station_56 : decode cX7_station 56 = .ok (.iload_n 1, 1) := by decide +kernel
theorem dX7_station_57 : decode cX7_station 57 = .ok (.iastore, 1) := by decide +kernel
theorem dX7_station_58 : decode cX7_station 58 = .ok (.aload_n 0, 1) := by decide +kernel
theorem dX7_station_59 : decode cX7_station 59 = .ok (.getfield 17, 3) := by decide +kernel
theorem dX7_station_62 : decode cX7_station 62 = .ok (.aload_n 0, 1) := by decide +kernel
theorem dX7_station_63 : decode cX7_station 63 = .ok (.getfield 89, 3) := by decide +kernel
theorem dX7_station_66 : decode cX7_station 66 = .ok (.aaload, 1) := by decide +kernel
theorem dX7_station_67 : decode cX7_station 67 = .ok (.iconst 1, 1) := by decide +kernel
theorem dX7_station_68 : decode cX7_station 68 = .ok (.iload_n 2, 1) := by decide +kernel
theorem dX7_station_69 : decode cX7_station 69 = .ok (.iastore, 1) := by decide +kernel
theorem dX7_station_70 : decode cX7_station 70 = .ok (.aload_n 0, 1) := by decide +kernel
theorem dX7_station_71 : decode cX7_station 71 = .ok (.dup, 1) := by decide +kernel
theorem dX7_station_72 : decode cX7_station 72 = .ok (.getfield 89, 3) := by decide +kernel
theorem dX7_station_75 : decode cX7_station 75 = .ok (.iconst 1, 1) := by decide +kernel
theorem dX7_station_76 : decode cX7_station 76 = .ok (.iadd, 1) := by decide +kernel
theorem dX7_station_77 : decode cX7_station 77 = .ok (.putfield 89, 3) := by decide +kernel
theorem dX7_station_80 : decode cX7_station 80 = .ok (.aload_n 0, 1) := by decide +kernel
theorem dX7_station_81 : decode cX7_station 81 = .ok (.getfield 89, 3) := by decide +kernel
theorem dX7_station_84 : decode cX7_station 84 = .ok (.iconst 1, 1) := by decide +kernel
theorem dX7_station_85 : decode cX7_station 85 = .ok (.isub, 1) := by decide +kernel
theorem dX7_station_86 : decode cX7_station 86 = .ok (.ireturn, 1) := by decide +kernel
theorem dX7_listen_0 : decode cX7_listen 0 = .ok (.aload_n 0, 1) := by decide +kernel
theorem dX7_listen_1 : decode cX7_listen 1 = .ok (.iconst 0, 1) := by decide +kernel
theorem dX7_listen_2 : decode cX7_listen 2 = .ok (.putfield 41, 3) := by decide +kernel
theorem dX7_listen_5 : decode cX7_listen 5 = .ok (.aload_n 0, 1) := by decide +kernel
theorem dX7_listen_6 : decode cX7_listen 6 = .ok (.iload_n 1, 1) := by decide +kernel
theorem dX7_listen_7 : decode cX7_listen 7 = .ok (.invokevirtual 105, 3) := by decide +kernel
theorem dX7_listen_10 : decode cX7_listen 10 = .ok (.ifCond .eq 11, 3) := by decide +kernel
theorem dX7_listen_13 : decode cX7_listen 13 = .ok (.aload_n 0, 1) := by decide +kernel
theorem dX7_listen_14 : decode cX7_listen 14 = .ok (.iload_n 2, 1) := by decide +kernel
theorem dX7_listen_15 : decode cX7_listen 15 = .ok (.invokevirtual 98, 3) := by decide +kernel
theorem dX7_listen_18 : decode cX7_listen 18 = .ok (.ifCond .ne 9, 3) := by decide +kernel
theorem dX7_listen_21 : decode cX7_listen 21 = .ok (.aload_n 0, 1) := by decide +kernel
theorem dX7_listen_22 : decode cX7_listen 22 = .ok (.iconst 1, 1) := by decide +kernel
theorem dX7_listen_23 : decode cX7_listen 23 = .ok (.invokevirtual 95, 3) := by decide +kernel
theorem dX7_listen_26 : decode cX7_listen 26 = .ok (.ireturn, 1) := by decide +kernel
theorem dX7_listen_27 : decode cX7_listen 27 = .ok (.aload_n 0, 1) := by decide +kernel
theorem dX7_listen_28 : decode cX7_listen 28 = .ok (.iload_n 2, 1) := by decide +kernel
theorem dX7_listen_29 : decode cX7_listen 29 = .ok (.iload_n 1, 1) := by decide +kernel
theorem dX7_listen_30 : decode cX7_listen 30 = .ok (.iconst 0, 1) := by decide +kernel
theorem dX7_listen_31 : decode cX7_listen 31 = .ok (.invokevirtual 108, 3) := by decide +kernel
theorem dX7_listen_34 : decode cX7_listen 34 = .ok (.ifCond .ne 9, 3) := by decide +kernel
theorem dX7_listen_37 : decode cX7_listen 37 = .ok (.aload_n 0, 1) := by decide +kernel
theorem dX7_listen_38 : decode cX7_listen 38 = .ok (.iconst 2, 1) := by decide +kernel
theorem dX7_listen_39 : decode cX7_listen 39 = .ok (.invokevirtual 95, 3) := by decide +kernel
theorem dX7_listen_42 : decode cX7_listen 42 = .ok (.ireturn, 1) := by decide +kernel
theorem dX7_listen_43 : decode cX7_listen 43 = .ok (.aload_n 0, 1) := by decide +kernel
theorem dX7_listen_44 : decode cX7_listen 44 = .ok (.getfield 14, 3) := by decide +kernel
theorem dX7_listen_47 : decode cX7_listen 47 = .ok (.iload_n 2, 1) := by decide +kernel
theorem dX7_listen_48 : decode cX7_listen 48 = .ok (.aaload, 1) := by decide +kernel
theorem dX7_listen_49 : decode cX7_listen 49 = .ok (.astore_n 3, 1) := by decide +kernel
theorem dX7_listen_50 : decode cX7_listen 50 = .ok (.aload_n 0, 1) := by decide +kernel
theorem dX7_listen_51 : decode cX7_listen 51 = .ok (.getfield 11, 3) := by decide +kernel
theorem dX7_listen_54 : decode cX7_listen 54 = .ok (.iload_n 2, 1) := by decide +kernel
theorem dX7_listen_55 : decode cX7_listen 55 = .ok (.aaload, 1) := by decide +kernel
theorem dX7_listen_56 : decode cX7_listen 56 = .ok (.iconst 3, 1) := by decide +kernel
theorem dX7_listen_57 : decode cX7_listen 57 = .ok (.iaload, 1) := by decide +kernel
theorem dX7_listen_58 : decode cX7_listen 58 = .ok (.aload_n 0, 1) := by decide +kernel
theorem dX7_listen_59 : decode cX7_listen 59 = .ok (.getfield 17, 3) := by decide +kernel
theorem dX7_listen_62 : decode cX7_listen 62 = .ok (.iload_n 1, 1) := by decide +kernel
theorem dX7_listen_63 : decode cX7_listen 63 = .ok (.aaload, 1) := by decide +kernel
theorem dX7_listen_64 : decode cX7_listen 64 = .ok (.iconst 1, 1) := by decide +kernel
theorem dX7_listen_65 : decode cX7_listen 65 = .ok (.iaload, 1) := by decide +kernel
theorem dX7_listen_66 : decode cX7_listen 66 = .ok (.iadd, 1) := by decide +kernel
theorem dX7_listen_67 : decode cX7_listen 67 = .ok (.istore 4, 2) := by decide +kernel
theorem dX7_listen_69 : decode cX7_listen 69 = .ok (.aload_n 3, 1) := by decide +kernel
theorem dX7_listen_70 : decode cX7_listen 70 = .ok (.iconst 0, 1) := by decide +kernel
theorem dX7_listen_71 : decode cX7_listen 71 = .ok (.iaload, 1) := by decide +kernel
theorem dX7_listen_72 : decode cX7_listen 72 = .ok (.ifCond .le 31, 3) := by decide +kernel
theorem dX7_listen_75 : decode cX7_listen 75 = .ok (.aload_n 0, 1) := by decide +kernel
theorem dX7_listen_76 : decode cX7_listen 76 = .ok (.iload_n 2, 1) := by decide +kernel
theorem dX7_listen_77 : decode cX7_listen 77 = .ok (.invokevirtual 67, 3) := by decide +kernel
theorem dX7_listen_80 : decode cX7_listen 80 = .ok (.ifCond .le 23, 3) := by decide +kernel
theorem dX7_listen_83 : decode cX7_listen 83 = .ok (.aload_n 3, 1) := by decide +kernel
theorem dX7_listen_84 : decode cX7_listen 84 = .ok (.iconst 4, 1) := by decide +kernel
theorem dX7_listen_85 : decode cX7_listen 85 = .ok (.iload 4, 2) := by decide +kernel
theorem dX7_listen_87 : decode cX7_listen 87 = .ok (.aload_n 3, 1) := by decide +kernel
theorem dX7_listen_88 : decode cX7_listen 88 = .ok (.iconst 3, 1) := by decide +kernel
theorem dX7_listen_89 : decode cX7_listen 89 = .ok (.iaload, 1) := by decide +kernel
theorem dX7_listen_90 : decode cX7_listen 90 = .ok (.isub, 1) := by decide +kernel
theorem dX7_listen_91 : decode cX7_listen 91 = .ok (.aload_n 0, 1) := by decide +kernel
theorem dX7_listen_92 : decode cX7_listen 92 = .ok (.iload_n 2, 1) := by decide +kernel
theorem dX7_listen_93 : decode cX7_listen 93 = .ok (.invokevirtual 67, 3) := by decide +kernel
theorem dX7_listen_96 : decode cX7_listen 96 = .ok (.idiv, 1) := by decide +kernel
theorem dX7_listen_97 : decode cX7_listen 97 = .ok (.bipush 9, 2) := by decide +kernel
theorem dX7_listen_99 : decode cX7_listen 99 = .ok (.invokestatic 102, 3) := by decide +kernel
theorem dX7_listen_102 : decode cX7_listen 102 = .ok (.iastore, 1) := by decide +kernel
theorem dX7_listen_103 : decode cX7_listen 103 = .ok (.aload_n 3, 1) := by decide +kernel
theorem dX7_listen_104 : decode cX7_listen 104 = .ok (.iconst 0, 1) := by decide +kernel
theorem dX7_listen_105 : decode cX7_listen 105 = .ok (.dup2, 1) := by decide +kernel
theorem dX7_listen_106 : decode cX7_listen 106 = .ok (.iaload, 1) := by decide +kernel
theorem dX7_listen_107 : decode cX7_listen 107 = .ok (.iconst 1, 1) := by decide +kernel
theorem dX7_listen_108 : decode cX7_listen 108 = .ok (.iadd, 1) := by decide +kernel
theorem dX7_listen_109 : decode cX7_listen 109 = .ok (.iastore, 1) := by decide +kernel
theorem dX7_listen_110 : decode cX7_listen 110 = .ok (.aload_n 3, 1) := by decide +kernel
theorem dX7_listen_111 : decode cX7_listen 111 = .ok (.iconst 1, 1) := by decide +kernel
theorem dX7_listen_112 : decode cX7_listen 112 = .ok (.aload_n 0, 1) := by decide +kernel
theorem dX7_listen_113 : decode cX7_listen 113 = .ok (.getfield 64, 3) := by decide +kernel
theorem dX7_listen_116 : decode cX7_listen 116 = .ok (.iastore, 1) := by decide +kernel
theorem dX7_listen_117 : decode cX7_listen 117 = .ok (.aload_n 3, 1) := by decide +kernel
theorem dX7_listen_118 : decode cX7_listen 118 = .ok (.iconst 2, 1) := by decide +kernel
theorem dX7_listen_119 : decode cX7_listen 119 = .ok (.aload_n 0, 1) := by decide +kernel
theorem dX7_listen_120 : decode cX7_listen 120 = .ok (.getfield 11, 3) := by decide +kernel
theorem dX7_listen_123 : decode cX7_listen 123 = .ok (.iload_n 2, 1) := by decide +kernel
theorem dX7_listen_124 : decode cX7_listen 124 = .ok (.aaload, 1) := by decide +kernel
theorem dX7_listen_125 : decode cX7_listen 125 = .ok (.iconst 1, 1) := by decide +kernel
theorem dX7_listen_126 : decode cX7_listen 126 = .ok (.iaload, 1) := by decide +kernel
theorem dX7_listen_127 : decode cX7_listen 127 = .ok (.iastore, 1) := by decide +kernel
theorem dX7_listen_128 : decode cX7_listen 128 = .ok (.aload_n 3, 1) := by decide +kernel
theorem dX7_listen_129 : decode cX7_listen 129 = .ok (.iconst 3, 1) := by decide +kernel
theorem dX7_listen_130 : decode cX7_listen 130 = .ok (.iload 4, 2) := by decide +kernel
theorem dX7_listen_132 : decode cX7_listen 132 = .ok (.iastore, 1) := by decide +kernel
theorem dX7_listen_133 : decode cX7_listen 133 = .ok (.aload_n 3, 1) := by decide +kernel
theorem dX7_listen_134 : decode cX7_listen 134 = .ok (.iconst 0, 1) := by decide +kernel
theorem dX7_listen_135 : decode cX7_listen 135 = .ok (.iaload, 1) := by decide +kernel
theorem dX7_listen_136 : decode cX7_listen 136 = .ok (.ireturn, 1) := by decide +kernel
theorem dX7_isPlace_0 : decode cX7_isPlace 0 = .ok (.iload_n 0, 1) := by decide +kernel
theorem dX7_isPlace_1 : decode cX7_isPlace 1 = .ok (.bipush (-12), 2) := by decide +kernel
theorem dX7_isPlace_3 : decode cX7_isPlace 3 = .ok (.bipush 12, 2) := by decide +kernel
theorem dX7_isPlace_5 : decode cX7_isPlace 5 = .ok (.invokestatic 86, 3) := by decide +kernel
theorem dX7_isPlace_8 : decode cX7_isPlace 8 = .ok (.ifCond .eq 17, 3) := by decide +kernel
theorem dX7_isPlace_11 : decode cX7_isPlace 11 = .ok (.iload_n 1, 1) := by decide +kernel
theorem dX7_isPlace_12 : decode cX7_isPlace 12 = .ok (.iconst 0, 1) := by decide +kernel
theorem dX7_isPlace_13 : decode cX7_isPlace 13 = .ok (.bipush 12, 2) := by decide +kernel
theorem dX7_isPlace_15 : decode cX7_isPlace 15 = .ok (.invokestatic 86, 3) := by decide +kernel
theorem dX7_isPlace_18 : decode cX7_isPlace 18 = .ok (.ifCond .eq 7, 3) := by decide +kernel
theorem dX7_isPlace_21 : decode cX7_isPlace 21 = .ok (.iconst 1, 1) := by decide +kernel
theorem dX7_isPlace_22 : decode cX7_isPlace 22 = .ok (.goto 4, 3) := by decide +kernel
theorem dX7_isPlace_25 : decode cX7_isPlace 25 = .ok (.iconst 0, 1) := by decide +kernel
theorem dX7_isPlace_26 : decode cX7_isPlace 26 = .ok (.ireturn, 1) := by decide +kernel
theorem dX7_receiver_0 : decode cX7_receiver 0 = .ok (.aload_n 0, 1) := by decide +kernel
theorem dX7_receiver_1 : decode cX7_receiver 1 = .ok (.iconst 0, 1) := by decide +kernel
theorem dX7_receiver_2 : decode cX7_receiver 2 = .ok (.putfield 41, 3) := by decide +kernel
theorem dX7_receiver_5 : decode cX7_receiver 5 = .ok (.iload_n 1, 1) := by decide +kernel
theorem dX7_receiver_6 : decode cX7_receiver 6 = .ok (.iload_n 2, 1) := by decide +kernel
theorem dX7_receiver_7 : decode cX7_receiver 7 = .ok (.invokestatic 111, 3) := by decide +kernel
theorem dX7_receiver_10 : decode cX7_receiver 10 = .ok (.ifCond .eq 14, 3) := by decide +kernel
theorem dX7_receiver_13 : decode cX7_receiver 13 = .ok (.iload_n 3, 1) := by decide +kernel
theorem dX7_receiver_14 : decode cX7_receiver 14 = .ok (.bipush (-99), 2) := by decide +kernel
theorem dX7_receiver_16 : decode cX7_receiver 16 = .ok (.bipush 99, 2) := by decide +kernel
theorem dX7_receiver_18 : decode cX7_receiver 18 = .ok (.invokestatic 86, 3) := by decide +kernel
theorem dX7_receiver_21 : decode cX7_receiver 21 = .ok (.ifCond .ne 9, 3) := by decide +kernel
theorem dX7_receiver_24 : decode cX7_receiver 24 = .ok (.aload_n 0, 1) := by decide +kernel
theorem dX7_receiver_25 : decode cX7_receiver 25 = .ok (.iconst 1, 1) := by decide +kernel
theorem dX7_receiver_26 : decode cX7_receiver 26 = .ok (.invokevirtual 95, 3) := by decide +kernel
theorem dX7_receiver_29 : decode cX7_receiver 29 = .ok (.ireturn, 1) := by decide +kernel
theorem dX7_receiver_30 : decode cX7_receiver 30 = .ok (.aload_n 0, 1) := by decide +kernel
theorem dX7_receiver_31 : decode cX7_receiver 31 = .ok (.getfield 92, 3) := by decide +kernel
theorem dX7_receiver_34 : decode cX7_receiver 34 = .ok (.iconst 3, 1) := by decide +kernel
theorem dX7_receiver_35 : decode cX7_receiver 35 = .ok (.if_icmp .ne 9, 3) := by decide +kernel
theorem dX7_receiver_38 : decode cX7_receiver 38 = .ok (.aload_n 0, 1) := by decide +kernel
theorem dX7_receiver_39 : decode cX7_receiver 39 = .ok (.iconst 2, 1) := by decide +kernel
theorem dX7_receiver_40 : decode cX7_receiver 40 = .ok (.invokevirtual 95, 3) := by decide +kernel
theorem dX7_receiver_43 : decode cX7_receiver 43 = .ok (.ireturn, 1) := by decide +kernel
theorem dX7_receiver_44 : decode cX7_receiver 44 = .ok (.aload_n 0, 1) := by decide +kernel
theorem dX7_receiver_45 : decode cX7_receiver 45 = .ok (.getfield 20, 3) := by decide +kernel
theorem dX7_receiver_48 : decode cX7_receiver 48 = .ok (.aload_n 0, 1) := by decide +kernel
theorem dX7_receiver_49 : decode cX7_receiver 49 = .ok (.getfield 92, 3) := by decide +kernel
theorem dX7_receiver_52 : decode cX7_receiver 52 = .ok (.aaload, 1) := by decide +kernel
theorem dX7_receiver_53 : decode cX7_receiver 53 = .ok (.astore 4, 2) := by decide +kernel
theorem dX7_receiver_55 : decode cX7_receiver 55 = .ok (.aload 4, 2) := by decide +kernel
theorem dX7_receiver_57 : decode cX7_receiver 57 = .ok (.iconst 0, 1) := by decide +kernel
theorem dX7_receiver_58 : decode cX7_receiver 58 = .ok (.iload_n 1, 1) := by decide +kernel
theorem dX7_receiver_59 : decode cX7_receiver 59 = .ok (.iastore, 1) := by decide +kernel
theorem dX7_receiver_60 : decode cX7_receiver 60 = .ok (.aload 4, 2) := by decide +kernel
theorem dX7_receiver_62 : decode cX7_receiver 62 = .ok (.iconst 1, 1) := by decide +kernel
theorem dX7_receiver_63 : decode cX7_receiver 63 = .ok (.iload_n 2, 1) := by decide +kernel
theorem dX7_receiver_64 : decode cX7_receiver 64 = .ok (.iastore, 1) := by decide +kernel
theorem dX7_receiver_65 : decode cX7_receiver 65 = .ok (.aload 4, 2) := by decide +kernel
theorem dX7_receiver_67 : decode cX7_receiver 67 = .ok (.iconst 2, 1) := by decide +kernel
theorem dX7_receiver_68 : decode cX7_receiver 68 = .ok (.iload_n 3, 1) := by decide +kernel
theorem dX7_receiver_69 : decode cX7_receiver 69 = .ok (.iastore, 1) := by decide +kernel
theorem dX7_receiver_70 : decode cX7_receiver 70 = .ok (.aload 4, 2) := by decide +kernel
theorem dX7_receiver_72 : decode cX7_receiver 72 = .ok (.iconst 3, 1) := by decide +kernel
theorem dX7_receiver_73 : decode cX7_receiver 73 = .ok (.iconst 5, 1) := by decide +kernel
theorem dX7_receiver_74 : decode cX7_receiver 74 = .ok (.iastore, 1) := by decide +kernel
theorem dX7_receiver_75 : decode cX7_receiver 75 = .ok (.aload 4, 2) := by decide +kernel
theorem dX7_receiver_77 : decode cX7_receiver 77 = .ok (.iconst 4, 1) := by decide +kernel
theorem dX7_receiver_78 : decode cX7_receiver 78 = .ok (.iconst 5, 1) := by decide +kernel
theorem dX7_receiver_79 : decode cX7_receiver 79 = .ok (.iastore, 1) := by decide +kernel
theorem dX7_receiver_80 : decode cX7_receiver 80 = .ok (.aload 4, 2) := by decide +kernel
theorem dX7_receiver_82 : decode cX7_receiver 82 = .ok (.bipush 6, 2) := by decide +kernel
theorem dX7_receiver_84 : decode cX7_receiver 84 = .ok (.iconst 1, 1) := by decide +kernel
theorem dX7_receiver_85 : decode cX7_receiver 85 = .ok (.iastore, 1) := by decide +kernel
theorem dX7_receiver_86 : decode cX7_receiver 86 = .ok (.aload 4, 2) := by decide +kernel
theorem dX7_receiver_88 : decode cX7_receiver 88 = .ok (.bipush 7, 2) := by decide +kernel
theorem dX7_receiver_90 : decode cX7_receiver 90 = .ok (.bipush 6, 2) := by decide +kernel
theorem dX7_receiver_92 : decode cX7_receiver 92 = .ok (.iastore, 1) := by decide +kernel
theorem dX7_receiver_93 : decode cX7_receiver 93 = .ok (.aload 4, 2) := by decide +kernel
theorem dX7_receiver_95 : decode cX7_receiver 95 = .ok (.bipush 9, 2) := by decide +kernel
theorem dX7_receiver_97 : decode cX7_receiver 97 = .ok (.iconst (-1), 1) := by decide +kernel
theorem dX7_receiver_98 : decode cX7_receiver 98 = .ok (.iastore, 1) := by decide +kernel
theorem dX7_receiver_99 : decode cX7_receiver 99 = .ok (.aload 4, 2) := by decide +kernel
theorem dX7_receiver_101 : decode cX7_receiver 101 = .ok (.bipush 10, 2) := by decide +kernel
theorem dX7_receiver_103 : decode cX7_receiver 103 = .ok (.iconst (-1), 1) := by decide +kernel
theorem dX7_receiver_104 : decode cX7_receiver 104 = .ok (.iastore, 1) := by decide +kernel
theorem dX7_receiver_105 : decode cX7_receiver 105 = .ok (.aload 4, 2) := by decide +kernel
theorem dX7_receiver_107 : decode cX7_receiver 107 = .ok (.bipush 16, 2) := by decide +kernel
theorem dX7_receiver_109 : decode cX7_receiver 109 = .ok (.bipush 99, 2) := by decide +kernel
theorem dX7_receiver_111 : decode cX7_receiver 111 = .ok (.iastore, 1) := by decide +kernel
theorem dX7_receiver_112 : decode cX7_receiver 112 = .ok (.aload 4, 2) := by decide +kernel
theorem dX7_receiver_114 : decode cX7_receiver 114 = .ok (.bipush 19, 2) := by decide +kernel
theorem dX7_receiver_116 : decode cX7_receiver 116 = .ok (.iconst (-1), 1) := by decide +kernel
theorem dX7_receiver_117 : decode cX7_receiver 117 = .ok (.iastore, 1) := by decide +kernel
theorem dX7_receiver_118 : decode cX7_receiver 118 = .ok (.aload_n 0, 1) := by decide +kernel
theorem dX7_receiver_119 : decode cX7_receiver 119 = .ok (.dup, 1) := by decide +kernel
theorem dX7_receiver_120 : decode cX7_receiver 120 = .ok (.getfield 92, 3) := by decide +kernel
theorem dX7_receiver_123 : decode cX7_receiver 123 = .ok (.iconst 1, 1) := by decide +kernel
theorem dX7_receiver_124 : decode cX7_receiver 124 = .ok (.iadd, 1) := by decide +kernel
theorem dX7_receiver_125 : decode cX7_receiver 125 = .ok (.putfield 92, 3) := by decide +kernel
theorem dX7_receiver_128 : decode cX7_receiver 128 = .ok (.aload_n 0, 1) := by decide +kernel
theorem dX7_receiver_129 : decode cX7_receiver 129 = .ok (.getfield 92, 3) := by decide +kernel
theorem dX7_receiver_132 : decode cX7_receiver 132 = .ok (.iconst 1, 1) := by decide +kernel
theorem dX7_receiver_133 : decode cX7_receiver 133 = .ok (.isub, 1) := by decide +kernel
theorem dX7_receiver_134 : decode cX7_receiver 134 = .ok (.ireturn, 1) := by decide +kernel
theorem dX7_go_0 : decode cX7_go 0 = .ok (.aload_n 0, 1) := by decide +kernel
theorem dX7_go_1 : decode cX7_go 1 = .ok (.iconst 0, 1) := by decide +kernel
theorem dX7_go_2 : decode cX7_go 2 = .ok (.putfield 41, 3) := by decide +kernel
theorem dX7_go_5 : decode cX7_go 5 = .ok (.aload_n 0, 1) := by decide +kernel
theorem dX7_go_6 : decode cX7_go 6 = .ok (.iload_n 1, 1) := by decide +kernel
theorem dX7_go_7 : decode cX7_go 7 = .ok (.invokevirtual 115, 3) := by decide +kernel
theorem dX7_go_10 : decode cX7_go 10 = .ok (.ifCond .ne 9, 3) := by decide +kernel
theorem dX7_go_13 : decode cX7_go 13 = .ok (.aload_n 0, 1) := by decide +kernel
theorem dX7_go_14 : decode cX7_go 14 = .ok (.iconst 1, 1) := by decide +kernel
theorem dX7_go_15 : decode cX7_go 15 = .ok (.invokevirtual 95, 3) := by decide +kernel
theorem dX7_go_18 : decode cX7_go 18 = .ok (.ireturn, 1) := by decide +kernel
theorem dX7_go_19 : decode cX7_go 19 = .ok (.iload_n 2, 1) := by decide +kernel
theorem dX7_go_20 : decode cX7_go 20 = .ok (.iload_n 3, 1) := by decide +kernel
theorem dX7_go_21 : decode cX7_go 21 = .ok (.invokestatic 111, 3) := by decide +kernel
theorem dX7_go_24 : decode cX7_go 24 = .ok (.ifCond .ne 9, 3) := by decide +kernel
theorem dX7_go_27 : decode cX7_go 27 = .ok (.aload_n 0, 1) := by decide +kernel
theorem dX7_go_28 : decode cX7_go 28 = .ok (.iconst 2, 1) := by decide +kernel
theorem dX7_go_29 : decode cX7_go 29 = .ok (.invokevirtual 95, 3) := by decide +kernel
theorem dX7_go_32 : decode cX7_go 32 = .ok (.ireturn, 1) := by decide +kernel
theorem dX7_go_33 : decode cX7_go 33 = .ok (.aload_n 0, 1) := by decide +kernel
theorem dX7_go_34 : decode cX7_go 34 = .ok (.getfield 20, 3) := by decide +kernel
theorem dX7_go_37 : decode cX7_go 37 = .ok (.iload_n 1, 1) := by decide +kernel
theorem dX7_go_38 : decode cX7_go 38 = .ok (.aaload, 1) := by decide +kernel
theorem dX7_go_39 : decode cX7_go 39 = .ok (.astore 4, 2) := by decide +kernel
theorem dX7_go_41 : decode cX7_go 41 = .ok (.aload 4, 2) := by decide +kernel
theorem dX7_go_43 : decode cX7_go 43 = .ok (.iconst 0, 1) := by decide +kernel
theorem dX7_go_44 : decode cX7_go 44 = .ok (.iaload, 1) := by decide +kernel
theorem dX7_go_45 : decode cX7_go 45 = .ok (.aload 4, 2) := by decide +kernel
theorem dX7_go_47 : decode cX7_go 47 = .ok (.iconst 1, 1) := by decide +kernel
theorem dX7_go_48 : decode cX7_go 48 = .ok (.iaload, 1) := by decide +kernel
theorem dX7_go_49 : decode cX7_go 49 = .ok (.iload_n 2, 1) := by decide +kernel
theorem dX7_go_50 : decode cX7_go 50 = .ok (.iload_n 3, 1) := by decide +kernel
theorem dX7_go_51 : decode cX7_go 51 = .ok (.invokestatic 118, 3) := by decide +kernel
theorem dX7_go_54 : decode cX7_go 54 = .ok (.istore 5, 2) := by decide +kernel
theorem dX7_go_56 : decode cX7_go 56 = .ok (.aload 4, 2) := by decide +kernel
theorem dX7_go_58 : decode cX7_go 58 = .ok (.iconst 0, 1) := by decide +kernel
theorem dX7_go_59 : decode cX7_go 59 = .ok (.iload_n 2, 1) := by decide +kernel
theorem dX7_go_60 : decode cX7_go 60 = .ok (.iastore, 1) := by decide +kernel
theorem dX7_go_61 : decode cX7_go 61 = .ok (.aload 4, 2) := by decide +kernel
theorem dX7_go_63 : decode cX7_go 63 = .ok (.iconst 1, 1) := by decide +kernel
theorem dX7_go_64 : decode cX7_go 64 = .ok (.iload_n 3, 1) := by decide +kernel
theorem dX7_go_65 : decode cX7_go 65 = .ok (.iastore, 1) := by decide +kernel
theorem dX7_go_66 : decode cX7_go 66 = .ok (.iload 5, 2) := by decide +kernel
theorem dX7_go_68 : decode cX7_go 68 = .ok (.ireturn, 1) := by decide +kernel
theorem dX7_hills_0 : decode cX7_hills 0 = .ok (.aload_n 0, 1) := by decide +kernel
theorem dX7_hills_1 : decode cX7_hills 1 = .ok (.iconst 0, 1) := by decide +kernel
theorem dX7_hills_2 : decode cX7_hills 2 = .ok (.putfield 41, 3) := by decide +kernel
theorem dX7_hills_5 : decode cX7_hills 5 = .ok (.aload_n 0, 1) := by decide +kernel
theorem dX7_hills_6 : decode cX7_hills 6 = .ok (.iload_n 1, 1) := by decide +kernel
theorem dX7_hills_7 : decode cX7_hills 7 = .ok (.invokevirtual 115, 3) := by decide +kernel
theorem dX7_hills_10 : decode cX7_hills 10 = .ok (.ifCond .ne 9, 3) := by decide +kernel
theorem dX7_hills_13 : decode cX7_hills 13 = .ok (.aload_n 0, 1) := by decide +kernel
theorem dX7_hills_14 : decode cX7_hills 14 = .ok (.iconst 1, 1) := by decide +kernel
theorem dX7_hills_15 : decode cX7_hills 15 = .ok (.invokevirtual 95, 3) := by decide +kernel
theorem dX7_hills_18 : decode cX7_hills 18 = .ok (.ireturn, 1) := by decide +kernel
theorem dX7_hills_19 : decode cX7_hills 19 = .ok (.iload_n 2, 1) := by decide +kernel
theorem dX7_hills_20 : decode cX7_hills 20 = .ok (.iconst 0, 1) := by decide +kernel
theorem dX7_hills_21 : decode cX7_hills 21 = .ok (.bipush 60, 2) := by decide +kernel
theorem dX7_hills_23 : decode cX7_hills 23 = .ok (.invokestatic 86, 3) := by decide +kernel
theorem dX7_hills_26 : decode cX7_hills 26 = .ok (.ifCond .eq 13, 3) := by decide +kernel
theorem dX7_hills_29 : decode cX7_hills 29 = .ok (.iload_n 3, 1) := by decide +kernel
theorem dX7_hills_30 : decode cX7_hills 30 = .ok (.iconst 0, 1) := by decide +kernel
theorem dX7_hills_31 : decode cX7_hills 31 = .ok (.bipush 60, 2) := by decide +kernel
theorem dX7_hills_33 : decode cX7_hills 33 = .ok (.invokestatic 86, 3) := by decide +kernel
theorem dX7_hills_36 : decode cX7_hills 36 = .ok (.ifCond .ne 9, 3) := by decide +kernel
theorem dX7_hills_39 : decode cX7_hills 39 = .ok (.aload_n 0, 1) := by decide +kernel
theorem dX7_hills_40 : decode cX7_hills 40 = .ok (.iconst 2, 1) := by decide +kernel
theorem dX7_hills_41 : decode cX7_hills 41 = .ok (.invokevirtual 95, 3) := by decide +kernel
theorem dX7_hills_44 : decode cX7_hills 44 = .ok (.ireturn, 1) := by decide +kernel
theorem dX7_hills_45 : decode cX7_hills 45 = .ok (.aload_n 0, 1) := by decide +kernel
theorem dX7_hills_46 : decode cX7_hills 46 = .ok (.getfield 20, 3) := by decide +kernel
theorem dX7_hills_49 : decode cX7_hills 49 = .ok (.iload_n 1, 1) := by decide +kernel
theorem dX7_hills_50 : decode cX7_hills 50 = .ok (.aaload, 1) := by decide +kernel
theorem dX7_hills_51 : decode cX7_hills 51 = .ok (.iconst 3, 1) := by decide +kernel
theorem dX7_hills_52 : decode cX7_hills 52 = .ok (.iload_n 2, 1) := by decide +kernel
theorem dX7_hills_53 : decode cX7_hills 53 = .ok (.iastore, 1) := by decide +kernel
theorem dX7_hills_54 : decode cX7_hills 54 = .ok (.aload_n 0, 1) := by decide +kernel
theorem dX7_hills_55 : decode cX7_hills 55 = .ok (.getfield 20, 3) := by decide +kernel
theorem dX7_hills_58 : decode cX7_hills 58 = .ok (.iload_n 1, 1) := by decide +kernel
theorem dX7_hills_59 : decode cX7_hills 59 = .ok (.aaload, 1) := by decide +kernel
theorem dX7_hills_60 : decode cX7_hills 60 = .ok (.iconst 4, 1) := by decide +kernel
theorem dX7_hills_61 : decode cX7_hills 61 = .ok (.iload_n 3, 1) := by decide +kernel
theorem dX7_hills_62 : decode cX7_hills 62 = .ok (.iastore, 1) := by decide +kernel
theorem dX7_hills_63 : decode cX7_hills 63 = .ok (.aload_n 0, 1) := by decide +kernel
theorem dX7_hills_64 : decode cX7_hills 64 = .ok (.iload_n 1, 1) := by decide +kernel
theorem dX7_hills_65 : decode cX7_hills 65 = .ok (.iconst 0, 1) := by decide +kernel
theorem dX7_hills_66 : decode cX7_hills 66 = .ok (.invokevirtual 122, 3) := by decide +kernel
theorem dX7_hills_69 : decode cX7_hills 69 = .ok (.invokestatic 125, 3) := by decide +kernel
theorem dX7_hills_72 : decode cX7_hills 72 = .ok (.ireturn, 1) := by decide +kernel
theorem dX7_change_0 : decode cX7_change 0 = .ok (.aload_n 0, 1) := by decide +kernel
theorem dX7_change_1 : decode cX7_change 1 = .ok (.getfield 20, 3) := by decide +kernel
theorem dX7_change_4 : decode cX7_change 4 = .ok (.iload_n 1, 1) := by decide +kernel
theorem dX7_change_5 : decode cX7_change 5 = .ok (.aaload, 1) := by decide +kernel
theorem dX7_change_6 : decode cX7_change 6 = .ok (.iload_n 2, 1) := by decide +kernel
theorem dX7_change_7 : decode cX7_change 7 = .ok (.iaload, 1) := by decide +kernel
theorem dX7_change_8 : decode cX7_change 8 = .ok (.istore 4, 2) := by decide +kernel
theorem dX7_change_10 : decode cX7_change 10 = .ok (.aload_n 0, 1) := by decide +kernel
theorem dX7_change_11 : decode cX7_change 11 = .ok (.getfield 20, 3) := by decide +kernel
theorem dX7_change_14 : decode cX7_change 14 = .ok (.iload_n 1, 1) := by decide +kernel
theorem dX7_change_15 : decode cX7_change 15 = .ok (.aaload, 1) := by decide +kernel
theorem dX7_change_16 : decode cX7_change 16 = .ok (.iload_n 2, 1) := by decide +kernel
theorem dX7_change_17 : decode cX7_change 17 = .ok (.iload_n 3, 1) := by decide +kernel
theorem dX7_change_18 : decode cX7_change 18 = .ok (.iastore, 1) := by decide +kernel
theorem dX7_change_19 : decode cX7_change 19 = .ok (.iload 4, 2) := by decide +kernel
theorem dX7_change_21 : decode cX7_change 21 = .ok (.ireturn, 1) := by decide +kernel
theorem dX7_air_0 : decode cX7_air 0 = .ok (.aload_n 0, 1) := by decide +kernel
theorem dX7_air_1 : decode cX7_air 1 = .ok (.iconst 0, 1) := by decide +kernel
theorem dX7_air_2 : decode cX7_air 2 = .ok (.putfield 41, 3) := by decide +kernel
theorem dX7_air_5 : decode cX7_air 5 = .ok (.aload_n 0, 1) := by decide +kernel
theorem dX7_air_6 : decode cX7_air 6 = .ok (.iload_n 1, 1) := by decide +kernel
theorem dX7_air_7 : decode cX7_air 7 = .ok (.invokevirtual 115, 3) := by decide +kernel
theorem dX7_air_10 : decode cX7_air 10 = .ok (.ifCond .ne 9, 3) := by decide +kernel
theorem dX7_air_13 : decode cX7_air 13 = .ok (.aload_n 0, 1) := by decide +kernel
theorem dX7_air_14 : decode cX7_air 14 = .ok (.iconst 1, 1) := by decide +kernel
theorem dX7_air_15 : decode cX7_air 15 = .ok (.invokevirtual 95, 3) := by decide +kernel
theorem dX7_air_18 : decode cX7_air 18 = .ok (.ireturn, 1) := by decide +kernel
theorem dX7_air_19 : decode cX7_air 19 = .ok (.iload_n 2, 1) := by decide +kernel
theorem dX7_air_20 : decode cX7_air 20 = .ok (.iconst 0, 1) := by decide +kernel
theorem dX7_air_21 : decode cX7_air 21 = .ok (.bipush 9, 2) := by decide +kernel
theorem dX7_air_23 : decode cX7_air 23 = .ok (.invokestatic 86, 3) := by decide +kernel
theorem dX7_air_26 : decode cX7_air 26 = .ok (.ifCond .ne 9, 3) := by decide +kernel
theorem dX7_air_29 : decode cX7_air 29 = .ok (.aload_n 0, 1) := by decide +kernel
theorem dX7_air_30 : decode cX7_air 30 = .ok (.iconst 2, 1) := by decide +kernel
theorem dX7_air_31 : decode cX7_air 31 = .ok (.invokevirtual 95, 3) := by decide +kernel
theorem dX7_air_34 : decode cX7_air 34 = .ok (.ireturn, 1) := by decide +kernel
theorem dX7_air_35 : decode cX7_air 35 = .ok (.aload_n 0, 1) := by decide +kernel
theorem dX7_air_36 : decode cX7_air 36 = .ok (.getfield 20, 3) := by decide +kernel
theorem dX7_air_39 : decode cX7_air 39 = .ok (.iload_n 1, 1) := by decide +kernel
theorem dX7_air_40 : decode cX7_air 40 = .ok (.aaload, 1) := by decide +kernel
theorem dX7_air_41 : decode cX7_air 41 = .ok (.bipush 6, 2) := by decide +kernel
theorem dX7_air_43 : decode cX7_air 43 = .ok (.iload_n 3, 1) := by decide +kernel
theorem dX7_air_44 : decode cX7_air 44 = .ok (.ifCond .eq 7, 3) := by decide +kernel
theorem dX7_air_47 : decode cX7_air 47 = .ok (.iconst 1, 1) := by decide +kernel
theorem dX7_air_48 : decode cX7_air 48 = .ok (.goto 4, 3) := by decide +kernel
theorem dX7_air_51 : decode cX7_air 51 = .ok (.iconst 0, 1) := by decide +kernel
theorem dX7_air_52 : decode cX7_air 52 = .ok (.iastore, 1) := by decide +kernel
theorem dX7_air_53 : decode cX7_air 53 = .ok (.aload_n 0, 1) := by decide +kernel
theorem dX7_air_54 : decode cX7_air 54 = .ok (.iload_n 1, 1) := by decide +kernel
theorem dX7_air_55 : decode cX7_air 55 = .ok (.iconst 5, 1) := by decide +kernel
theorem dX7_air_56 : decode cX7_air 56 = .ok (.iload_n 2, 1) := by decide +kernel
theorem dX7_air_57 : decode cX7_air 57 = .ok (.invokevirtual 130, 3) := by decide +kernel
theorem dX7_air_60 : decode cX7_air 60 = .ok (.ireturn, 1) := by decide +kernel
theorem dX7_alert_0 : decode cX7_alert 0 = .ok (.aload_n 0, 1) := by decide +kernel
theorem dX7_alert_1 : decode cX7_alert 1 = .ok (.iconst 0, 1) := by decide +kernel
theorem dX7_alert_2 : decode cX7_alert 2 = .ok (.putfield 41, 3) := by decide +kernel
theorem dX7_alert_5 : decode cX7_alert 5 = .ok (.aload_n 0, 1) := by decide +kernel
theorem dX7_alert_6 : decode cX7_alert 6 = .ok (.iload_n 1, 1) := by decide +kernel
theorem dX7_alert_7 : decode cX7_alert 7 = .ok (.invokevirtual 115, 3) := by decide +kernel
theorem dX7_alert_10 : decode cX7_alert 10 = .ok (.ifCond .ne 9, 3) := by decide +kernel
theorem dX7_alert_13 : decode cX7_alert 13 = .ok (.aload_n 0, 1) := by decide +kernel
theorem dX7_alert_14 : decode cX7_alert 14 = .ok (.iconst 1, 1) := by decide +kernel
theorem dX7_alert_15 : decode cX7_alert 15 = .ok (.invokevirtual 95, 3) := by decide +kernel
theorem dX7_alert_18 : decode cX7_alert 18 = .ok (.ireturn, 1) := by decide +kernel
theorem dX7_alert_19 : decode cX7_alert 19 = .ok (.iload_n 2, 1) := by decide +kernel
theorem dX7_alert_20 : decode cX7_alert 20 = .ok (.iconst 1, 1) := by decide +kernel
theorem dX7_alert_21 : decode cX7_alert 21 = .ok (.bipush 24, 2) := by decide +kernel
theorem dX7_alert_23 : decode cX7_alert 23 = .ok (.invokestatic 86, 3) := by decide +kernel
theorem dX7_alert_26 : decode cX7_alert 26 = .ok (.ifCond .eq 14, 3) := by decide +kernel
theorem dX7_alert_29 : decode cX7_alert 29 = .ok (.aload_n 0, 1) := by decide +kernel
theorem dX7_alert_30 : decode cX7_alert 30 = .ok (.iload_n 1, 1) := by decide +kernel
theorem dX7_alert_31 : decode cX7_alert 31 = .ok (.bipush 7, 2) := by decide +kernel
theorem dX7_alert_33 : decode cX7_alert 33 = .ok (.iload_n 2, 1) := by decide +kernel
theorem dX7_alert_34 : decode cX7_alert 34 = .ok (.invokevirtual 130, 3) := by decide +kernel
theorem dX7_alert_37 : decode cX7_alert 37 = .ok (.goto 8, 3) := by decide +kernel
theorem dX7_alert_40 : decode cX7_alert 40 = .ok (.aload_n 0, 1) := by decide +kernel
theorem dX7_alert_41 : decode cX7_alert 41 = .ok (.iconst 2, 1) := by decide +kernel
theorem dX7_alert_42 : decode cX7_alert 42 = .ok (.invokevirtual 95, 3) := by decide +kernel
theorem dX7_alert_45 : decode cX7_alert 45 = .ok (.ireturn, 1) := by decide +kernel
theorem dX7_spoof_0 : decode cX7_spoof 0 = .ok (.aload_n 0, 1) := by decide +kernel
theorem dX7_spoof_1 : decode cX7_spoof 1 = .ok (.iconst 0, 1) := by decide +kernel
theorem dX7_spoof_2 : decode cX7_spoof 2 = .ok (.putfield 41, 3) := by decide +kernel
theorem dX7_spoof_5 : decode cX7_spoof 5 = .ok (.aload_n 0, 1) := by decide +kernel
theorem dX7_spoof_6 : decode cX7_spoof 6 = .ok (.iload_n 1, 1) := by decide +kernel
theorem dX7_spoof_7 : decode cX7_spoof 7 = .ok (.invokevirtual 115, 3) := by decide +kernel
theorem dX7_spoof_10 : decode cX7_spoof 10 = .ok (.ifCond .ne 9, 3) := by decide +kernel
theorem dX7_spoof_13 : decode cX7_spoof 13 = .ok (.aload_n 0, 1) := by decide +kernel
theorem dX7_spoof_14 : decode cX7_spoof 14 = .ok (.iconst 1, 1) := by decide +kernel
theorem dX7_spoof_15 : decode cX7_spoof 15 = .ok (.invokevirtual 95, 3) := by decide +kernel
theorem dX7_spoof_18 : decode cX7_spoof 18 = .ok (.ireturn, 1) := by decide +kernel
theorem dX7_spoof_19 : decode cX7_spoof 19 = .ok (.iload_n 2, 1) := by decide +kernel
theorem dX7_spoof_20 : decode cX7_spoof 20 = .ok (.bipush (-30), 2) := by decide +kernel
theorem dX7_spoof_22 : decode cX7_spoof 22 = .ok (.bipush 30, 2) := by decide +kernel
theorem dX7_spoof_24 : decode cX7_spoof 24 = .ok (.invokestatic 86, 3) := by decide +kernel
theorem dX7_spoof_27 : decode cX7_spoof 27 = .ok (.ifCond .eq 14, 3) := by decide +kernel
theorem dX7_spoof_30 : decode cX7_spoof 30 = .ok (.aload_n 0, 1) := by decide +kernel
theorem dX7_spoof_31 : decode cX7_spoof 31 = .ok (.iload_n 1, 1) := by decide +kernel
theorem dX7_spoof_32 : decode cX7_spoof 32 = .ok (.bipush 8, 2) := by decide +kernel
theorem dX7_spoof_34 : decode cX7_spoof 34 = .ok (.iload_n 2, 1) := by decide +kernel
theorem dX7_spoof_35 : decode cX7_spoof 35 = .ok (.invokevirtual 130, 3) := by decide +kernel
theorem dX7_spoof_38 : decode cX7_spoof 38 = .ok (.goto 8, 3) := by decide +kernel
theorem dX7_spoof_41 : decode cX7_spoof 41 = .ok (.aload_n 0, 1) := by decide +kernel
theorem dX7_spoof_42 : decode cX7_spoof 42 = .ok (.iconst 2, 1) := by decide +kernel
theorem dX7_spoof_43 : decode cX7_spoof 43 = .ok (.invokevirtual 95, 3) := by decide +kernel
theorem dX7_spoof_46 : decode cX7_spoof 46 = .ok (.ireturn, 1) := by decide +kernel
theorem dX7_refer_0 : decode cX7_refer 0 = .ok (.aload_n 0, 1) := by decide +kernel
theorem dX7_refer_1 : decode cX7_refer 1 = .ok (.iconst 0, 1) := by decide +kernel
theorem dX7_refer_2 : decode cX7_refer 2 = .ok (.putfield 41, 3) := by decide +kernel
theorem dX7_refer_5 : decode cX7_refer 5 = .ok (.aload_n 0, 1) := by decide +kernel
theorem dX7_refer_6 : decode cX7_refer 6 = .ok (.iload_n 1, 1) := by decide +kernel
theorem dX7_refer_7 : decode cX7_refer 7 = .ok (.invokevirtual 115, 3) := by decide +kernel
theorem dX7_refer_10 : decode cX7_refer 10 = .ok (.ifCond .eq 16, 3) := by decide +kernel
theorem dX7_refer_13 : decode cX7_refer 13 = .ok (.iload_n 2, 1) := by decide +kernel
theorem dX7_refer_14 : decode cX7_refer 14 = .ok (.iconst (-1), 1) := by decide +kernel
theorem dX7_refer_15 : decode cX7_refer 15 = .ok (.if_icmp .eq 17, 3) := by decide +kernel
theorem dX7_refer_18 : decode cX7_refer 18 = .ok (.aload_n 0, 1) := by decide +kernel
theorem dX7_refer_19 : decode cX7_refer 19 = .ok (.iload_n 2, 1) := by decide +kernel
theorem dX7_refer_20 : decode cX7_refer 20 = .ok (.invokevirtual 115, 3) := by decide +kernel
theorem dX7_refer_23 : decode cX7_refer 23 = .ok (.ifCond .ne 9, 3) := by decide +kernel
theorem dX7_refer_26 : decode cX7_refer 26 = .ok (.aload_n 0, 1) := by decide +kernel
theorem dX7_refer_27 : decode cX7_refer 27 = .ok (.iconst 1, 1) := by decide +kernel
theorem dX7_refer_28 : decode cX7_refer 28 = .ok (.invokevirtual 95, 3) := by decide +kernel
theorem dX7_refer_31 : decode cX7_refer 31 = .ok (.ireturn, 1) := by decide +kernel
theorem dX7_refer_32 : decode cX7_refer 32 = .ok (.iload_n 1, 1) := by decide +kernel
theorem dX7_refer_33 : decode cX7_refer 33 = .ok (.iload_n 2, 1) := by decide +kernel
theorem dX7_refer_34 : decode cX7_refer 34 = .ok (.if_icmp .eq 14, 3) := by decide +kernel
theorem dX7_refer_37 : decode cX7_refer 37 = .ok (.aload_n 0, 1) := by decide +kernel
theorem dX7_refer_38 : decode cX7_refer 38 = .ok (.iload_n 1, 1) := by decide +kernel
theorem dX7_refer_39 : decode cX7_refer 39 = .ok (.bipush 9, 2) := by decide +kernel
theorem dX7_refer_41 : decode cX7_refer 41 = .ok (.iload_n 2, 1) := by decide +kernel
theorem dX7_refer_42 : decode cX7_refer 42 = .ok (.invokevirtual 130, 3) := by decide +kernel
theorem dX7_refer_45 : decode cX7_refer 45 = .ok (.goto 8, 3) := by decide +kernel
theorem dX7_refer_48 : decode cX7_refer 48 = .ok (.aload_n 0, 1) := by decide +kernel
theorem dX7_refer_49 : decode cX7_refer 49 = .ok (.iconst 2, 1) := by decide +kernel
theorem dX7_refer_50 : decode cX7_refer 50 = .ok (.invokevirtual 95, 3) := by decide +kernel
theorem dX7_refer_53 : decode cX7_refer 53 = .ok (.ireturn, 1) := by decide +kernel
theorem dX7_pass_0 : decode cX7_pass 0 = .ok (.aload_n 0, 1) := by decide +kernel
theorem dX7_pass_1 : decode cX7_pass 1 = .ok (.iconst 0, 1) := by decide +kernel
theorem dX7_pass_2 : decode cX7_pass 2 = .ok (.putfield 41, 3) := by decide +kernel
theorem dX7_pass_5 : decode cX7_pass 5 = .ok (.iload_n 1, 1) := by decide +kernel
theorem dX7_pass_6 : decode cX7_pass 6 = .ok (.iconst 1, 1) := by decide +kernel
theorem dX7_pass_7 : decode cX7_pass 7 = .ok (.bipush 48, 2) := by decide +kernel
theorem dX7_pass_9 : decode cX7_pass 9 = .ok (.invokestatic 86, 3) := by decide +kernel
theorem dX7_pass_12 : decode cX7_pass 12 = .ok (.ifCond .ne 9, 3) := by decide +kernel
theorem dX7_pass_15 : decode cX7_pass 15 = .ok (.aload_n 0, 1) := by decide +kernel
theorem dX7_pass_16 : decode cX7_pass 16 = .ok (.iconst 1, 1) := by decide +kernel
theorem dX7_pass_17 : decode cX7_pass 17 = .ok (.invokevirtual 95, 3) := by decide +kernel
theorem dX7_pass_20 : decode cX7_pass 20 = .ok (.ireturn, 1) := by decide +kernel
theorem dX7_pass_21 : decode cX7_pass 21 = .ok (.iconst 0, 1) := by decide +kernel
theorem dX7_pass_22 : decode cX7_pass 22 = .ok (.istore_n 2, 1) := by decide +kernel
theorem dX7_pass_23 : decode cX7_pass 23 = .ok (.iload_n 2, 1) := by decide +kernel
theorem dX7_pass_24 : decode cX7_pass 24 = .ok (.iload_n 1, 1) := by decide +kernel
theorem dX7_pass_25 : decode cX7_pass 25 = .ok (.if_icmp .ge 80, 3) := by decide +kernel
theorem dX7_pass_28 : decode cX7_pass 28 = .ok (.aload_n 0, 1) := by decide +kernel
theorem dX7_pass_29 : decode cX7_pass 29 = .ok (.dup, 1) := by decide +kernel
theorem dX7_pass_30 : decode cX7_pass 30 = .ok (.getfield 64, 3) := by decide +kernel
theorem dX7_pass_33 : decode cX7_pass 33 = .ok (.iconst 1, 1) := by decide +kernel
theorem dX7_pass_34 : decode cX7_pass 34 = .ok (.iadd, 1) := by decide +kernel
theorem dX7_pass_35 : decode cX7_pass 35 = .ok (.putfield 64, 3) := by decide +kernel
theorem dX7_pass_38 : decode cX7_pass 38 = .ok (.iconst 0, 1) := by decide +kernel
theorem dX7_pass_39 : decode cX7_pass 39 = .ok (.istore_n 3, 1) := by decide +kernel
theorem dX7_pass_40 : decode cX7_pass 40 = .ok (.iload_n 3, 1) := by decide +kernel
theorem dX7_pass_41 : decode cX7_pass 41 = .ok (.aload_n 0, 1) := by decide +kernel
theorem dX7_pass_42 : decode cX7_pass 42 = .ok (.getfield 79, 3) := by decide +kernel
theorem dX7_pass_45 : decode cX7_pass 45 = .ok (.if_icmp .ge 54, 3) := by decide +kernel
theorem dX7_pass_48 : decode cX7_pass 48 = .ok (.aload_n 0, 1) := by decide +kernel
theorem dX7_pass_49 : decode cX7_pass 49 = .ok (.getfield 11, 3) := by decide +kernel
theorem dX7_pass_52 : decode cX7_pass 52 = .ok (.iload_n 3, 1) := by decide +kernel
theorem dX7_pass_53 : decode cX7_pass 53 = .ok (.aaload, 1) := by decide +kernel
theorem dX7_pass_54 : decode cX7_pass 54 = .ok (.astore 4, 2) := by decide +kernel
theorem dX7_pass_56 : decode cX7_pass 56 = .ok (.aload 4, 2) := by decide +kernel
theorem dX7_pass_58 : decode cX7_pass 58 = .ok (.iconst 1, 1) := by decide +kernel
theorem dX7_pass_59 : decode cX7_pass 59 = .ok (.aload 4, 2) := by decide +kernel
theorem dX7_pass_61 : decode cX7_pass 61 = .ok (.iconst 1, 1) := by decide +kernel
theorem dX7_pass_62 : decode cX7_pass 62 = .ok (.iaload, 1) := by decide +kernel
theorem dX7_pass_63 : decode cX7_pass 63 = .ok (.aload 4, 2) := by decide +kernel
theorem dX7_pass_65 : decode cX7_pass 65 = .ok (.iconst 2, 1) := by decide +kernel
theorem dX7_pass_66 : decode cX7_pass 66 = .ok (.iaload, 1) := by decide +kernel
theorem dX7_pass_67 : decode cX7_pass 67 = .ok (.iadd, 1) := by decide +kernel
theorem dX7_pass_68 : decode cX7_pass 68 = .ok (.bipush 48, 2) := by decide +kernel
theorem dX7_pass_70 : decode cX7_pass 70 = .ok (.invokestatic 54, 3) := by decide +kernel
theorem dX7_pass_73 : decode cX7_pass 73 = .ok (.iastore, 1) := by decide +kernel
theorem dX7_pass_74 : decode cX7_pass 74 = .ok (.aload 4, 2) := by decide +kernel
theorem dX7_pass_76 : decode cX7_pass 76 = .ok (.iconst 3, 1) := by decide +kernel
theorem dX7_pass_77 : decode cX7_pass 77 = .ok (.aload 4, 2) := by decide +kernel
theorem dX7_pass_79 : decode cX7_pass 79 = .ok (.iconst 3, 1) := by decide +kernel
theorem dX7_pass_80 : decode cX7_pass 80 = .ok (.iaload, 1) := by decide +kernel
theorem dX7_pass_81 : decode cX7_pass 81 = .ok (.aload 4, 2) := by decide +kernel
theorem dX7_pass_83 : decode cX7_pass 83 = .ok (.iconst 4, 1) := by decide +kernel
theorem dX7_pass_84 : decode cX7_pass 84 = .ok (.iaload, 1) := by decide +kernel
theorem dX7_pass_85 : decode cX7_pass 85 = .ok (.iadd, 1) := by decide +kernel
theorem dX7_pass_86 : decode cX7_pass 86 = .ok (.sipush 999, 3) := by decide +kernel
theorem dX7_pass_89 : decode cX7_pass 89 = .ok (.invokestatic 102, 3) := by decide +kernel
theorem dX7_pass_92 : decode cX7_pass 92 = .ok (.iastore, 1) := by decide +kernel
theorem dX7_pass_93 : decode cX7_pass 93 = .ok (.iinc 3 1, 3) := by decide +kernel
theorem dX7_pass_96 : decode cX7_pass 96 = .ok (.goto (-56), 3) := by decide +kernel
theorem dX7_pass_99 : decode cX7_pass 99 = .ok (.iinc 2 1, 3) := by decide +kernel
theorem dX7_pass_102 : decode cX7_pass 102 = .ok (.goto (-79), 3) := by decide +kernel
theorem dX7_pass_105 : decode cX7_pass 105 = .ok (.aload_n 0, 1) := by decide +kernel
theorem dX7_pass_106 : decode cX7_pass 106 = .ok (.getfield 64, 3) := by decide +kernel
theorem dX7_pass_109 : decode cX7_pass 109 = .ok (.ireturn, 1) := by decide +kernel
theorem dX7_trueOf_0 : decode cX7_trueOf 0 = .ok (.aload_n 0, 1) := by decide +kernel
theorem dX7_trueOf_1 : decode cX7_trueOf 1 = .ok (.getfield 20, 3) := by decide +kernel
theorem dX7_trueOf_4 : decode cX7_trueOf 4 = .ok (.iload_n 1, 1) := by decide +kernel
theorem dX7_trueOf_5 : decode cX7_trueOf 5 = .ok (.aaload, 1) := by decide +kernel
theorem dX7_trueOf_6 : decode cX7_trueOf 6 = .ok (.astore_n 3, 1) := by decide +kernel
theorem dX7_trueOf_7 : decode cX7_trueOf 7 = .ok (.aload_n 0, 1) := by decide +kernel
theorem dX7_trueOf_8 : decode cX7_trueOf 8 = .ok (.iload_n 2, 1) := by decide +kernel
theorem dX7_trueOf_9 : decode cX7_trueOf 9 = .ok (.aload_n 0, 1) := by decide +kernel
theorem dX7_trueOf_10 : decode cX7_trueOf 10 = .ok (.getfield 11, 3) := by decide +kernel
theorem dX7_trueOf_13 : decode cX7_trueOf 13 = .ok (.iload_n 2, 1) := by decide +kernel
theorem dX7_trueOf_14 : decode cX7_trueOf 14 = .ok (.aaload, 1) := by decide +kernel
theorem dX7_trueOf_15 : decode cX7_trueOf 15 = .ok (.iconst 1, 1) := by decide +kernel
theorem dX7_trueOf_16 : decode cX7_trueOf 16 = .ok (.iaload, 1) := by decide +kernel
theorem dX7_trueOf_17 : decode cX7_trueOf 17 = .ok (.invokevirtual 76, 3) := by decide +kernel
theorem dX7_trueOf_20 : decode cX7_trueOf 20 = .ok (.istore 4, 2) := by decide +kernel
theorem dX7_trueOf_22 : decode cX7_trueOf 22 = .ok (.aload_n 3, 1) := by decide +kernel
theorem dX7_trueOf_23 : decode cX7_trueOf 23 = .ok (.iconst 0, 1) := by decide +kernel
theorem dX7_trueOf_24 : decode cX7_trueOf 24 = .ok (.iaload, 1) := by decide +kernel
theorem dX7_trueOf_25 : decode cX7_trueOf 25 = .ok (.aload_n 3, 1) := by decide +kernel
theorem dX7_trueOf_26 : decode cX7_trueOf 26 = .ok (.iconst 1, 1) := by decide +kernel
theorem dX7_trueOf_27 : decode cX7_trueOf 27 = .ok (.iaload, 1) := by decide +kernel
theorem dX7_trueOf_28 : decode cX7_trueOf 28 = .ok (.iload 4, 2) := by decide +kernel
theorem dX7_trueOf_30 : decode cX7_trueOf 30 = .ok (.aload_n 0, 1) := by decide +kernel
theorem dX7_trueOf_31 : decode cX7_trueOf 31 = .ok (.iload_n 2, 1) := by decide +kernel
theorem dX7_trueOf_32 : decode cX7_trueOf 32 = .ok (.aload_n 0, 1) := by decide +kernel
theorem dX7_trueOf_33 : decode cX7_trueOf 33 = .ok (.getfield 11, 3) := by decide +kernel
theorem dX7_trueOf_36 : decode cX7_trueOf 36 = .ok (.iload_n 2, 1) := by decide +kernel
theorem dX7_trueOf_37 : decode cX7_trueOf 37 = .ok (.aaload, 1) := by decide +kernel
theorem dX7_trueOf_38 : decode cX7_trueOf 38 = .ok (.iconst 1, 1) := by decide +kernel
theorem dX7_trueOf_39 : decode cX7_trueOf 39 = .ok (.iaload, 1) := by decide +kernel
theorem dX7_trueOf_40 : decode cX7_trueOf 40 = .ok (.invokevirtual 73, 3) := by decide +kernel
theorem dX7_trueOf_43 : decode cX7_trueOf 43 = .ok (.invokestatic 118, 3) := by decide +kernel
theorem dX7_trueOf_46 : decode cX7_trueOf 46 = .ok (.istore 5, 2) := by decide +kernel
theorem dX7_trueOf_48 : decode cX7_trueOf 48 = .ok (.iload 5, 2) := by decide +kernel
theorem dX7_trueOf_50 : decode cX7_trueOf 50 = .ok (.aload_n 0, 1) := by decide +kernel
theorem dX7_trueOf_51 : decode cX7_trueOf 51 = .ok (.getfield 11, 3) := by decide +kernel
theorem dX7_trueOf_54 : decode cX7_trueOf 54 = .ok (.iload_n 2, 1) := by decide +kernel
theorem dX7_trueOf_55 : decode cX7_trueOf 55 = .ok (.aaload, 1) := by decide +kernel
theorem dX7_trueOf_56 : decode cX7_trueOf 56 = .ok (.iconst 3, 1) := by decide +kernel
theorem dX7_trueOf_57 : decode cX7_trueOf 57 = .ok (.iaload, 1) := by decide +kernel
theorem dX7_trueOf_58 : decode cX7_trueOf 58 = .ok (.iadd, 1) := by decide +kernel
theorem dX7_trueOf_59 : decode cX7_trueOf 59 = .ok (.aload_n 3, 1) := by decide +kernel
theorem dX7_trueOf_60 : decode cX7_trueOf 60 = .ok (.iconst 2, 1) := by decide +kernel
theorem dX7_trueOf_61 : decode cX7_trueOf 61 = .ok (.iaload, 1) := by decide +kernel
theorem dX7_trueOf_62 : decode cX7_trueOf 62 = .ok (.iadd, 1) := by decide +kernel
theorem dX7_trueOf_63 : decode cX7_trueOf 63 = .ok (.iload 4, 2) := by decide +kernel
theorem dX7_trueOf_65 : decode cX7_trueOf 65 = .ok (.aload_n 3, 1) := by decide +kernel
theorem dX7_trueOf_66 : decode cX7_trueOf 66 = .ok (.iconst 0, 1) := by decide +kernel
theorem dX7_trueOf_67 : decode cX7_trueOf 67 = .ok (.iaload, 1) := by decide +kernel
theorem dX7_trueOf_68 : decode cX7_trueOf 68 = .ok (.if_icmp .ge 10, 3) := by decide +kernel
theorem dX7_trueOf_71 : decode cX7_trueOf 71 = .ok (.aload_n 3, 1) := by decide +kernel
theorem dX7_trueOf_72 : decode cX7_trueOf 72 = .ok (.bipush 8, 2) := by decide +kernel
theorem dX7_trueOf_74 : decode cX7_trueOf 74 = .ok (.iaload, 1) := by decide +kernel
theorem dX7_trueOf_75 : decode cX7_trueOf 75 = .ok (.goto 8, 3) := by decide +kernel
theorem dX7_trueOf_78 : decode cX7_trueOf 78 = .ok (.aload_n 3, 1) := by decide +kernel
theorem dX7_trueOf_79 : decode cX7_trueOf 79 = .ok (.bipush 8, 2) := by decide +kernel
theorem dX7_trueOf_81 : decode cX7_trueOf 81 = .ok (.iaload, 1) := by decide +kernel
theorem dX7_trueOf_82 : decode cX7_trueOf 82 = .ok (.ineg, 1) := by decide +kernel
theorem dX7_trueOf_83 : decode cX7_trueOf 83 = .ok (.iadd, 1) := by decide +kernel
theorem dX7_trueOf_84 : decode cX7_trueOf 84 = .ok (.ireturn, 1) := by decide +kernel
theorem dX7_codeOf_0 : decode cX7_codeOf 0 = .ok (.aload_n 0, 1) := by decide +kernel
theorem dX7_codeOf_1 : decode cX7_codeOf 1 = .ok (.getfield 20, 3) := by decide +kernel
theorem dX7_codeOf_4 : decode cX7_codeOf 4 = .ok (.iload_n 1, 1) := by decide +kernel
theorem dX7_codeOf_5 : decode cX7_codeOf 5 = .ok (.aaload, 1) := by decide +kernel
theorem dX7_codeOf_6 : decode cX7_codeOf 6 = .ok (.astore_n 3, 1) := by decide +kernel
theorem dX7_codeOf_7 : decode cX7_codeOf 7 = .ok (.aload_n 0, 1) := by decide +kernel
theorem dX7_codeOf_8 : decode cX7_codeOf 8 = .ok (.iload_n 2, 1) := by decide +kernel
theorem dX7_codeOf_9 : decode cX7_codeOf 9 = .ok (.aload_n 0, 1) := by decide +kernel
theorem dX7_codeOf_10 : decode cX7_codeOf 10 = .ok (.getfield 11, 3) := by decide +kernel
theorem dX7_codeOf_13 : decode cX7_codeOf 13 = .ok (.iload_n 2, 1) := by decide +kernel
theorem dX7_codeOf_14 : decode cX7_codeOf 14 = .ok (.aaload, 1) := by decide +kernel
theorem dX7_codeOf_15 : decode cX7_codeOf 15 = .ok (.iconst 1, 1) := by decide +kernel
theorem dX7_codeOf_16 : decode cX7_codeOf 16 = .ok (.iaload, 1) := by decide +kernel
theorem dX7_codeOf_17 : decode cX7_codeOf 17 = .ok (.invokevirtual 76, 3) := by decide +kernel
theorem dX7_codeOf_20 : decode cX7_codeOf 20 = .ok (.aload_n 3, 1) := by decide +kernel
theorem dX7_codeOf_21 : decode cX7_codeOf 21 = .ok (.iconst 0, 1) := by decide +kernel
theorem dX7_codeOf_22 : decode cX7_codeOf 22 = .ok (.iaload, 1) := by decide +kernel
theorem dX7_codeOf_23 : decode cX7_codeOf 23 = .ok (.isub, 1) := by decide +kernel
theorem dX7_codeOf_24 : decode cX7_codeOf 24 = .ok (.invokestatic 61, 3) := by decide +kernel
theorem dX7_codeOf_27 : decode cX7_codeOf 27 = .ok (.istore 4, 2) := by decide +kernel
theorem dX7_codeOf_29 : decode cX7_codeOf 29 = .ok (.aload_n 0, 1) := by decide +kernel
theorem dX7_codeOf_30 : decode cX7_codeOf 30 = .ok (.iload_n 2, 1) := by decide +kernel
theorem dX7_codeOf_31 : decode cX7_codeOf 31 = .ok (.aload_n 0, 1) := by decide +kernel
theorem dX7_codeOf_32 : decode cX7_codeOf 32 = .ok (.getfield 11, 3) := by decide +kernel
theorem dX7_codeOf_35 : decode cX7_codeOf 35 = .ok (.iload_n 2, 1) := by decide +kernel
theorem dX7_codeOf_36 : decode cX7_codeOf 36 = .ok (.aaload, 1) := by decide +kernel
theorem dX7_codeOf_37 : decode cX7_codeOf 37 = .ok (.iconst 1, 1) := by decide +kernel
theorem dX7_codeOf_38 : decode cX7_codeOf 38 = .ok (.iaload, 1) := by decide +kernel
theorem dX7_codeOf_39 : decode cX7_codeOf 39 = .ok (.invokevirtual 73, 3) := by decide +kernel
theorem dX7_codeOf_42 : decode cX7_codeOf 42 = .ok (.aload_n 3, 1) := by decide +kernel
theorem dX7_codeOf_43 : decode cX7_codeOf 43 = .ok (.iconst 1, 1) := by decide +kernel
theorem dX7_codeOf_44 : decode cX7_codeOf 44 = .ok (.iaload, 1) := by decide +kernel
theorem dX7_codeOf_45 : decode cX7_codeOf 45 = .ok (.isub, 1) := by decide +kernel
theorem dX7_codeOf_46 : decode cX7_codeOf 46 = .ok (.invokestatic 61, 3) := by decide +kernel
theorem dX7_codeOf_49 : decode cX7_codeOf 49 = .ok (.istore 5, 2) := by decide +kernel
theorem dX7_codeOf_51 : decode cX7_codeOf 51 = .ok (.aload_n 3, 1) := by decide +kernel
theorem dX7_codeOf_52 : decode cX7_codeOf 52 = .ok (.bipush 6, 2) := by decide +kernel
theorem dX7_codeOf_54 : decode cX7_codeOf 54 = .ok (.iaload, 1) := by decide +kernel
theorem dX7_codeOf_55 : decode cX7_codeOf 55 = .ok (.iconst 1, 1) := by decide +kernel
theorem dX7_codeOf_56 : decode cX7_codeOf 56 = .ok (.if_icmp .ne 7, 3) := by decide +kernel
theorem dX7_codeOf_59 : decode cX7_codeOf 59 = .ok (.iconst 0, 1) := by decide +kernel
theorem dX7_codeOf_60 : decode cX7_codeOf 60 = .ok (.goto 21, 3) := by decide +kernel
theorem dX7_codeOf_63 : decode cX7_codeOf 63 = .ok (.iload 4, 2) := by decide +kernel
theorem dX7_codeOf_65 : decode cX7_codeOf 65 = .ok (.iload 5, 2) := by decide +kernel
theorem dX7_codeOf_67 : decode cX7_codeOf 67 = .ok (.if_icmp .le 11, 3) := by decide +kernel
theorem dX7_codeOf_70 : decode cX7_codeOf 70 = .ok (.iconst 2, 1) := by decide +kernel
theorem dX7_codeOf_71 : decode cX7_codeOf 71 = .ok (.aload_n 3, 1) := by decide +kernel
theorem dX7_codeOf_72 : decode cX7_codeOf 72 = .ok (.iconst 5, 1) := by decide +kernel
theorem dX7_codeOf_73 : decode cX7_codeOf 73 = .ok (.iaload, 1) := by decide +kernel
theorem dX7_codeOf_74 : decode cX7_codeOf 74 = .ok (.imul, 1) := by decide +kernel
theorem dX7_codeOf_75 : decode cX7_codeOf 75 = .ok (.goto 6, 3) := by decide +kernel
theorem dX7_codeOf_78 : decode cX7_codeOf 78 = .ok (.aload_n 3, 1) := by decide +kernel
theorem dX7_codeOf_79 : decode cX7_codeOf 79 = .ok (.iconst 5, 1) := by decide +kernel
theorem dX7_codeOf_80 : decode cX7_codeOf 80 = .ok (.iaload, 1) := by decide +kernel
theorem dX7_codeOf_81 : decode cX7_codeOf 81 = .ok (.istore 6, 2) := by decide +kernel
theorem dX7_codeOf_83 : decode cX7_codeOf 83 = .ok (.aload_n 0, 1) := by decide +kernel
theorem dX7_codeOf_84 : decode cX7_codeOf 84 = .ok (.iload_n 1, 1) := by decide +kernel
theorem dX7_codeOf_85 : decode cX7_codeOf 85 = .ok (.iload_n 2, 1) := by decide +kernel
theorem dX7_codeOf_86 : decode cX7_codeOf 86 = .ok (.invokevirtual 134, 3) := by decide +kernel
theorem dX7_codeOf_89 : decode cX7_codeOf 89 = .ok (.iload 6, 2) := by decide +kernel
theorem dX7_codeOf_91 : decode cX7_codeOf 91 = .ok (.iadd, 1) := by decide +kernel
theorem dX7_codeOf_92 : decode cX7_codeOf 92 = .ok (.bipush 7, 2) := by decide +kernel
theorem dX7_codeOf_94 : decode cX7_codeOf 94 = .ok (.aload_n 0, 1) := by decide +kernel
theorem dX7_codeOf_95 : decode cX7_codeOf 95 = .ok (.getfield 64, 3) := by decide +kernel
theorem dX7_codeOf_98 : decode cX7_codeOf 98 = .ok (.imul, 1) := by decide +kernel
theorem dX7_codeOf_99 : decode cX7_codeOf 99 = .ok (.iconst 3, 1) := by decide +kernel
theorem dX7_codeOf_100 : decode cX7_codeOf 100 = .ok (.iload_n 2, 1) := by decide +kernel
theorem dX7_codeOf_101 : decode cX7_codeOf 101 = .ok (.imul, 1) := by decide +kernel
theorem dX7_codeOf_102 : decode cX7_codeOf 102 = .ok (.iadd, 1) := by decide +kernel
theorem dX7_codeOf_103 : decode cX7_codeOf 103 = .ok (.iconst 2, 1) := by decide +kernel
theorem dX7_codeOf_104 : decode cX7_codeOf 104 = .ok (.iload_n 1, 1) := by decide +kernel
theorem dX7_codeOf_105 : decode cX7_codeOf 105 = .ok (.imul, 1) := by decide +kernel
theorem dX7_codeOf_106 : decode cX7_codeOf 106 = .ok (.iadd, 1) := by decide +kernel
theorem dX7_codeOf_107 : decode cX7_codeOf 107 = .ok (.iconst 5, 1) := by decide +kernel
theorem dX7_codeOf_108 : decode cX7_codeOf 108 = .ok (.invokestatic 54, 3) := by decide +kernel
theorem dX7_codeOf_111 : decode cX7_codeOf 111 = .ok (.iadd, 1) := by decide +kernel
theorem dX7_codeOf_112 : decode cX7_codeOf 112 = .ok (.iconst 2, 1) := by decide +kernel
theorem dX7_codeOf_113 : decode cX7_codeOf 113 = .ok (.isub, 1) := by decide +kernel
theorem dX7_codeOf_114 : decode cX7_codeOf 114 = .ok (.ireturn, 1) := by decide +kernel
theorem dX7_correction_0 : decode cX7_correction 0 = .ok (.aload_n 0, 1) := by decide +kernel
theorem dX7_correction_1 : decode cX7_correction 1 = .ok (.getfield 20, 3) := by decide +kernel
theorem dX7_correction_4 : decode cX7_correction 4 = .ok (.iload_n 1, 1) := by decide +kernel
theorem dX7_correction_5 : decode cX7_correction 5 = .ok (.aaload, 1) := by decide +kernel
theorem dX7_correction_6 : decode cX7_correction 6 = .ok (.bipush 9, 2) := by decide +kernel
theorem dX7_correction_8 : decode cX7_correction 8 = .ok (.iaload, 1) := by decide +kernel
theorem dX7_correction_9 : decode cX7_correction 9 = .ok (.istore_n 3, 1) := by decide +kernel
theorem dX7_correction_10 : decode cX7_correction 10 = .ok (.iload_n 3, 1) := by decide +kernel
theorem dX7_correction_11 : decode cX7_correction 11 = .ok (.iconst (-1), 1) := by decide +kernel
theorem dX7_correction_12 : decode cX7_correction 12 = .ok (.if_icmp .ne 5, 3) := by decide +kernel
theorem dX7_correction_15 : decode cX7_correction 15 = .ok (.iconst 0, 1) := by decide +kernel
theorem dX7_correction_16 : decode cX7_correction 16 = .ok (.ireturn, 1) := by decide +kernel
theorem dX7_correction_17 : decode cX7_correction 17 = .ok (.aload_n 0, 1) := by decide +kernel
theorem dX7_correction_18 : decode cX7_correction 18 = .ok (.getfield 20, 3) := by decide +kernel
theorem dX7_correction_21 : decode cX7_correction 21 = .ok (.iload_n 3, 1) := by decide +kernel
theorem dX7_correction_22 : decode cX7_correction 22 = .ok (.aaload, 1) := by decide +kernel
theorem dX7_correction_23 : decode cX7_correction 23 = .ok (.astore 4, 2) := by decide +kernel
theorem dX7_correction_25 : decode cX7_correction 25 = .ok (.aload_n 0, 1) := by decide +kernel
theorem dX7_correction_26 : decode cX7_correction 26 = .ok (.getfield 25, 3) := by decide +kernel
theorem dX7_correction_29 : decode cX7_correction 29 = .ok (.iload_n 3, 1) := by decide +kernel
theorem dX7_correction_30 : decode cX7_correction 30 = .ok (.aaload, 1) := by decide +kernel
theorem dX7_correction_31 : decode cX7_correction 31 = .ok (.iload_n 2, 1) := by decide +kernel
theorem dX7_correction_32 : decode cX7_correction 32 = .ok (.aaload, 1) := by decide +kernel
theorem dX7_correction_33 : decode cX7_correction 33 = .ok (.astore 5, 2) := by decide +kernel
theorem dX7_correction_35 : decode cX7_correction 35 = .ok (.aload 4, 2) := by decide +kernel
theorem dX7_correction_37 : decode cX7_correction 37 = .ok (.bipush 10, 2) := by decide +kernel
theorem dX7_correction_39 : decode cX7_correction 39 = .ok (.iaload, 1) := by decide +kernel
theorem dX7_correction_40 : decode cX7_correction 40 = .ok (.iconst (-1), 1) := by decide +kernel
theorem dX7_correction_41 : decode cX7_correction 41 = .ok (.if_icmp .eq 25, 3) := by decide +kernel
theorem dX7_correction_44 : decode cX7_correction 44 = .ok (.aload_n 0, 1) := by decide +kernel
theorem dX7_correction_45 : decode cX7_correction 45 = .ok (.getfield 64, 3) := by decide +kernel
theorem dX7_correction_48 : decode cX7_correction 48 = .ok (.aload 4, 2) := by decide +kernel
theorem dX7_correction_50 : decode cX7_correction 50 = .ok (.bipush 10, 2) := by decide +kernel
theorem dX7_correction_52 : decode cX7_correction 52 = .ok (.iaload, 1) := by decide +kernel
theorem dX7_correction_53 : decode cX7_correction 53 = .ok (.isub, 1) := by decide +kernel
theorem dX7_correction_54 : decode cX7_correction 54 = .ok (.iconst 5, 1) := by decide +kernel
theorem dX7_correction_55 : decode cX7_correction 55 = .ok (.if_icmp .gt 11, 3) := by decide +kernel
theorem dX7_correction_58 : decode cX7_correction 58 = .ok (.aload 5, 2) := by decide +kernel
theorem dX7_correction_60 : decode cX7_correction 60 = .ok (.bipush 6, 2) := by decide +kernel
theorem dX7_correction_62 : decode cX7_correction 62 = .ok (.iaload, 1) := by decide +kernel
theorem dX7_correction_63 : decode cX7_correction 63 = .ok (.ifCond .ne 5, 3) := by decide +kernel
theorem dX7_correction_66 : decode cX7_correction 66 = .ok (.iconst 0, 1) := by decide +kernel
theorem dX7_correction_67 : decode cX7_correction 67 = .ok (.ireturn, 1) := by decide +kernel
theorem dX7_correction_68 : decode cX7_correction 68 = .ok (.iconst 0, 1) := by decide +kernel
theorem dX7_correction_69 : decode cX7_correction 69 = .ok (.istore 6, 2) := by decide +kernel
theorem dX7_correction_71 : decode cX7_correction 71 = .ok (.iconst 0, 1) := by decide +kernel
theorem dX7_correction_72 : decode cX7_correction 72 = .ok (.istore 7, 2) := by decide +kernel
theorem dX7_correction_74 : decode cX7_correction 74 = .ok (.iload 7, 2) := by decide +kernel
theorem dX7_correction_76 : decode cX7_correction 76 = .ok (.aload_n 0, 1) := by decide +kernel
theorem dX7_correction_77 : decode cX7_correction 77 = .ok (.getfield 79, 3) := by decide +kernel
theorem dX7_correction_80 : decode cX7_correction 80 = .ok (.if_icmp .ge 46, 3) := by decide +kernel
theorem dX7_correction_83 : decode cX7_correction 83 = .ok (.iload 6, 2) := by decide +kernel
theorem dX7_correction_85 : decode cX7_correction 85 = .ok (.aload_n 0, 1) := by decide +kernel
theorem dX7_correction_86 : decode cX7_correction 86 = .ok (.getfield 25, 3) := by decide +kernel
theorem dX7_correction_89 : decode cX7_correction 89 = .ok (.iload_n 3, 1) := by decide +kernel
theorem dX7_correction_90 : decode cX7_correction 90 = .ok (.aaload, 1) := by decide +kernel
theorem dX7_correction_91 : decode cX7_correction 91 = .ok (.iload 7, 2) := by decide +kernel
theorem dX7_correction_93 : decode cX7_correction 93 = .ok (.aaload, 1) := by decide +kernel
theorem dX7_correction_94 : decode cX7_correction 94 = .ok (.bipush 6, 2) := by decide +kernel
theorem dX7_correction_96 : decode cX7_correction 96 = .ok (.iaload, 1) := by decide +kernel
theorem dX7_correction_97 : decode cX7_correction 97 = .ok (.iconst 1, 1) := by decide +kernel
theorem dX7_correction_98 : decode cX7_correction 98 = .ok (.if_icmp .ne 18, 3) := by decide +kernel
theorem dX7_correction_101 : decode cX7_correction 101 = .ok (.aload_n 0, 1) := by decide +kernel
theorem dX7_correction_102 : decode cX7_correction 102 = .ok (.getfield 25, 3) := by decide +kernel
theorem dX7_correction_105 : decode cX7_correction 105 = .ok (.iload_n 3, 1) := by decide +kernel
theorem dX7_correction_106 : decode cX7_correction 106 = .ok (.aaload, 1) := by decide +kernel
theorem dX7_correction_107 : decode cX7_correction 107 = .ok (.iload 7, 2) := by decide +kernel
theorem dX7_correction_109 : decode cX7_correction 109 = .ok (.aaload, 1) := by decide +kernel
theorem dX7_correction_110 : decode cX7_correction 110 = .ok (.bipush 10, 2) := by decide +kernel
theorem dX7_correction_112 : decode cX7_correction 112 = .ok (.iaload, 1) := by decide +kernel
theorem dX7_correction_113 : decode cX7_correction 113 = .ok (.goto 4, 3) := by decide +kernel
theorem dX7_correction_116 : decode cX7_correction 116 = .ok (.iconst 0, 1) := by decide +kernel
theorem dX7_correction_117 : decode cX7_correction 117 = .ok (.iadd, 1) := by decide +kernel
theorem dX7_correction_118 : decode cX7_correction 118 = .ok (.istore 6, 2) := by decide +kernel
theorem dX7_correction_120 : decode cX7_correction 120 = .ok (.iinc 7 1, 3) := by decide +kernel
theorem dX7_correction_123 : decode cX7_correction 123 = .ok (.goto (-49), 3) := by decide +kernel
theorem dX7_correction_126 : decode cX7_correction 126 = .ok (.aload 5, 2) := by decide +kernel
theorem dX7_correction_128 : decode cX7_correction 128 = .ok (.bipush 10, 2) := by decide +kernel
theorem dX7_correction_130 : decode cX7_correction 130 = .ok (.iaload, 1) := by decide +kernel
theorem dX7_correction_131 : decode cX7_correction 131 = .ok (.iload 6, 2) := by decide +kernel
theorem dX7_correction_133 : decode cX7_correction 133 = .ok (.aload 4, 2) := by decide +kernel
theorem dX7_correction_135 : decode cX7_correction 135 = .ok (.bipush 11, 2) := by decide +kernel
theorem dX7_correction_137 : decode cX7_correction 137 = .ok (.iaload, 1) := by decide +kernel
theorem dX7_correction_138 : decode cX7_correction 138 = .ok (.invokestatic 137, 3) := by decide +kernel
theorem dX7_correction_141 : decode cX7_correction 141 = .ok (.isub, 1) := by decide +kernel
theorem dX7_correction_142 : decode cX7_correction 142 = .ok (.ireturn, 1) := by decide +kernel
theorem dX7_solve_0 : decode cX7_solve 0 = .ok (.aload_n 0, 1) := by decide +kernel
theorem dX7_solve_1 : decode cX7_solve 1 = .ok (.ldc2_w 142, 3) := by decide +kernel
theorem dX7_solve_4 : decode cX7_solve 4 = .ok (.putfield 144, 3) := by decide +kernel
theorem dX7_solve_7 : decode cX7_solve 7 = .ok (.iconst 0, 1) := by decide +kernel
theorem dX7_solve_8 : decode cX7_solve 8 = .ok (.istore_n 1, 1) := by decide +kernel
theorem dX7_solve_9 : decode cX7_solve 9 = .ok (.iload_n 1, 1) := by decide +kernel
theorem dX7_solve_10 : decode cX7_solve 10 = .ok (.bipush 12, 2) := by decide +kernel
theorem dX7_solve_12 : decode cX7_solve 12 = .ok (.if_icmp .gt 30, 3) := by decide +kernel
theorem dX7_solve_15 : decode cX7_solve 15 = .ok (.bipush (-12), 2) := by decide +kernel
theorem dX7_solve_17 : decode cX7_solve 17 = .ok (.istore_n 2, 1) := by decide +kernel
theorem dX7_solve_18 : decode cX7_solve 18 = .ok (.iload_n 2, 1) := by decide +kernel
theorem dX7_solve_19 : decode cX7_solve 19 = .ok (.bipush 12, 2) := by decide +kernel
theorem dX7_solve_21 : decode cX7_solve 21 = .ok (.if_icmp .gt 15, 3) := by decide +kernel
theorem dX7_solve_24 : decode cX7_solve 24 = .ok (.aload_n 0, 1) := by decide +kernel
theorem dX7_solve_25 : decode cX7_solve 25 = .ok (.iload_n 2, 1) := by decide +kernel
theorem dX7_solve_26 : decode cX7_solve 26 = .ok (.iload_n 1, 1) := by decide +kernel
theorem dX7_solve_27 : decode cX7_solve 27 = .ok (.invokevirtual 148, 3) := by decide +kernel
theorem dX7_solve_30 : decode cX7_solve 30 = .ok (.iinc 2 1, 3) := by decide +kernel
theorem dX7_solve_33 : decode cX7_solve 33 = .ok (.goto (-15), 3) := by decide +kernel
theorem dX7_solve_36 : decode cX7_solve 36 = .ok (.iinc 1 1, 3) := by decide +kernel
theorem dX7_solve_39 : decode cX7_solve 39 = .ok (.goto (-30), 3) := by decide +kernel
theorem dX7_solve_42 : decode cX7_solve 42 = .ok (.return_, 1) := by decide +kernel
theorem dX7_over_0 : decode cX7_over 0 = .ok (.aload_n 0, 1) := by decide +kernel
theorem dX7_over_1 : decode cX7_over 1 = .ok (.getfield 35, 3) := by decide +kernel
theorem dX7_over_4 : decode cX7_over 4 = .ok (.iload_n 1, 1) := by decide +kernel
theorem dX7_over_5 : decode cX7_over 5 = .ok (.iaload, 1) := by decide +kernel
theorem dX7_over_6 : decode cX7_over 6 = .ok (.iload_n 2, 1) := by decide +kernel
theorem dX7_over_7 : decode cX7_over 7 = .ok (.iload_n 3, 1) := by decide +kernel
theorem dX7_over_8 : decode cX7_over 8 = .ok (.aload_n 0, 1) := by decide +kernel
theorem dX7_over_9 : decode cX7_over 9 = .ok (.getfield 28, 3) := by decide +kernel
theorem dX7_over_12 : decode cX7_over 12 = .ok (.iload_n 1, 1) := by decide +kernel
theorem dX7_over_13 : decode cX7_over 13 = .ok (.iaload, 1) := by decide +kernel
theorem dX7_over_14 : decode cX7_over 14 = .ok (.aload_n 0, 1) := by decide +kernel
theorem dX7_over_15 : decode cX7_over 15 = .ok (.getfield 32, 3) := by decide +kernel
theorem dX7_over_18 : decode cX7_over 18 = .ok (.iload_n 1, 1) := by decide +kernel
theorem dX7_over_19 : decode cX7_over 19 = .ok (.iaload, 1) := by decide +kernel
theorem dX7_over_20 : decode cX7_over 20 = .ok (.invokestatic 118, 3) := by decide +kernel
theorem dX7_over_23 : decode cX7_over 23 = .ok (.isub, 1) := by decide +kernel
theorem dX7_over_24 : decode cX7_over 24 = .ok (.ireturn, 1) := by decide +kernel
theorem dX7_look_0 : decode cX7_look 0 = .ok (.iconst 0, 1) := by decide +kernel
theorem dX7_look_1 : decode cX7_look 1 = .ok (.istore_n 3, 1) := by decide +kernel
theorem dX7_look_2 : decode cX7_look 2 = .ok (.iconst 0, 1) := by decide +kernel
theorem dX7_look_3 : decode cX7_look 3 = .ok (.istore 4, 2) := by decide +kernel
theorem dX7_look_5 : decode cX7_look 5 = .ok (.iconst 0, 1) := by decide +kernel
theorem dX7_look_6 : decode cX7_look 6 = .ok (.istore 5, 2) := by decide +kernel
theorem dX7_look_8 : decode cX7_look 8 = .ok (.iload 5, 2) := by decide +kernel
theorem dX7_look_10 : decode cX7_look 10 = .ok (.aload_n 0, 1) := by decide +kernel
theorem dX7_look_11 : decode cX7_look 11 = .ok (.getfield 79, 3) := by decide +kernel
theorem dX7_look_14 : decode cX7_look 14 = .ok (.if_icmp .ge 53, 3) := by decide +kernel
theorem dX7_look_17 : decode cX7_look 17 = .ok (.aload_n 0, 1) := by decide +kernel
theorem dX7_look_18 : decode cX7_look 18 = .ok (.getfield 38, 3) := by decide +kernel
theorem dX7_look_21 : decode cX7_look 21 = .ok (.iload 5, 2) := by decide +kernel
theorem dX7_look_23 : decode cX7_look 23 = .ok (.iaload, 1) := by decide +kernel
theorem dX7_look_24 : decode cX7_look 24 = .ok (.ifCond .ne 6, 3) := by decide +kernel
theorem dX7_look_27 : decode cX7_look 27 = .ok (.goto 34, 3) := by decide +kernel
theorem dX7_look_30 : decode cX7_look 30 = .ok (.iload_n 3, 1) := by decide +kernel
theorem dX7_look_31 : decode cX7_look 31 = .ok (.aload_n 0, 1) := by decide +kernel
theorem dX7_look_32 : decode cX7_look 32 = .ok (.getfield 38, 3) := by decide +kernel
theorem dX7_look_35 : decode cX7_look 35 = .ok (.iload 5, 2) := by decide +kernel
theorem dX7_look_37 : decode cX7_look 37 = .ok (.iaload, 1) := by decide +kernel
theorem dX7_look_38 : decode cX7_look 38 = .ok (.aload_n 0, 1) := by decide +kernel
theorem dX7_look_39 : decode cX7_look 39 = .ok (.iload 5, 2) := by decide +kernel
theorem dX7_look_41 : decode cX7_look 41 = .ok (.iload_n 1, 1) := by decide +kernel
theorem dX7_look_42 : decode cX7_look 42 = .ok (.iload_n 2, 1) := by decide +kernel
theorem dX7_look_43 : decode cX7_look 43 = .ok (.invokevirtual 152, 3) := by decide +kernel
theorem dX7_look_46 : decode cX7_look 46 = .ok (.imul, 1) := by decide +kernel
theorem dX7_look_47 : decode cX7_look 47 = .ok (.iadd, 1) := by decide +kernel
theorem dX7_look_48 : decode cX7_look 48 = .ok (.istore_n 3, 1) := by decide +kernel
theorem dX7_look_49 : decode cX7_look 49 = .ok (.iload 4, 2) := by decide +kernel
theorem dX7_look_51 : decode cX7_look 51 = .ok (.aload_n 0, 1) := by decide +kernel
theorem dX7_look_52 : decode cX7_look 52 = .ok (.getfield 38, 3) := by decide +kernel
theorem dX7_look_55 : decode cX7_look 55 = .ok (.iload 5, 2) := by decide +kernel
theorem dX7_look_57 : decode cX7_look 57 = .ok (.iaload, 1) := by decide +kernel
theorem dX7_look_58 : decode cX7_look 58 = .ok (.iadd, 1) := by decide +kernel
theorem dX7_look_59 : decode cX7_look 59 = .ok (.istore 4, 2) := by decide +kernel
theorem dX7_look_61 : decode cX7_look 61 = .ok (.iinc 5 1, 3) := by decide +kernel
theorem dX7_look_64 : decode cX7_look 64 = .ok (.goto (-56), 3) := by decide +kernel
theorem dX7_look_67 : decode cX7_look 67 = .ok (.iload_n 3, 1) := by decide +kernel
theorem dX7_look_68 : decode cX7_look 68 = .ok (.iload 4, 2) := by decide +kernel
theorem dX7_look_70 : decode cX7_look 70 = .ok (.invokestatic 137, 3) := by decide +kernel
theorem dX7_look_73 : decode cX7_look 73 = .ok (.istore 5, 2) := by decide +kernel
theorem dX7_look_75 : decode cX7_look 75 = .ok (.lconst 0, 1) := by decide +kernel
theorem dX7_look_76 : decode cX7_look 76 = .ok (.lstore 6, 2) := by decide +kernel
theorem dX7_look_78 : decode cX7_look 78 = .ok (.iconst 0, 1) := by decide +kernel
theorem dX7_look_79 : decode cX7_look 79 = .ok (.istore 8, 2) := by decide +kernel
theorem dX7_look_81 : decode cX7_look 81 = .ok (.iload 8, 2) := by decide +kernel
theorem dX7_look_83 : decode cX7_look 83 = .ok (.aload_n 0, 1) := by decide +kernel
theorem dX7_look_84 : decode cX7_look 84 = .ok (.getfield 79, 3) := by decide +kernel
theorem dX7_look_87 : decode cX7_look 87 = .ok (.if_icmp .ge 55, 3) := by decide +kernel
theorem dX7_look_90 : decode cX7_look 90 = .ok (.aload_n 0, 1) := by decide +kernel
theorem dX7_look_91 : decode cX7_look 91 = .ok (.getfield 38, 3) := by decide +kernel
theorem dX7_look_94 : decode cX7_look 94 = .ok (.iload 8, 2) := by decide +kernel
theorem dX7_look_96 : decode cX7_look 96 = .ok (.iaload, 1) := by decide +kernel
theorem dX7_look_97 : decode cX7_look 97 = .ok (.ifCond .ne 6, 3) := by decide +kernel
theorem dX7_look_100 : decode cX7_look 100 = .ok (.goto 36, 3) := by decide +kernel
theorem dX7_look_103 : decode cX7_look 103 = .ok (.aload_n 0, 1) := by decide +kernel
theorem dX7_look_104 : decode cX7_look 104 = .ok (.iload 8, 2) := by decide +kernel
theorem dX7_look_106 : decode cX7_look 106 = .ok (.iload_n 1, 1) := by decide +kernel
theorem dX7_look_107 : decode cX7_look 107 = .ok (.iload_n 2, 1) := by decide +kernel
theorem dX7_look_108 : decode cX7_look 108 = .ok (.invokevirtual 152, 3) := by decide +kernel
theorem dX7_look_111 : decode cX7_look 111 = .ok (.iload 5, 2) := by decide +kernel
theorem dX7_look_113 : decode cX7_look 113 = .ok (.isub, 1) := by decide +kernel
theorem dX7_look_114 : decode cX7_look 114 = .ok (.i2l, 1) := by decide +kernel
theorem dX7_look_115 : decode cX7_look 115 = .ok (.lstore 9, 2) := by decide +kernel
theorem dX7_look_117 : decode cX7_look 117 = .ok (.lload 6, 2) := by decide +kernel
theorem dX7_look_119 : decode cX7_look 119 = .ok (.aload_n 0, 1) := by decide +kernel
theorem dX7_look_120 : decode cX7_look 120 = .ok (.getfield 38, 3) := by decide +kernel
theorem dX7_look_123 : decode cX7_look 123 = .ok (.iload 8, 2) := by decide +kernel
theorem dX7_look_125 : decode cX7_look 125 = .ok (.iaload, 1) := by decide +kernel
theorem dX7_look_126 : decode cX7_look 126 = .ok (.i2l, 1) := by decide +kernel
theorem dX7_look_127 : decode cX7_look 127 = .ok (.lload 9, 2) := by decide +kernel
theorem dX7_look_129 : decode cX7_look 129 = .ok (.lmul, 1) := by decide +kernel
theorem dX7_look_130 : decode cX7_look 130 = .ok (.lload 9, 2) := by decide +kernel
theorem dX7_look_132 : decode cX7_look 132 = .ok (.lmul, 1) := by decide +kernel
theorem dX7_look_133 : decode cX7_look 133 = .ok (.ladd, 1) := by decide +kernel
theorem dX7_look_134 : decode cX7_look 134 = .ok (.lstore 6, 2) := by decide +kernel
theorem dX7_look_136 : decode cX7_look 136 = .ok (.iinc 8 1, 3) := by decide +kernel
theorem dX7_look_139 : decode cX7_look 139 = .ok (.goto (-58), 3) := by decide +kernel
theorem dX7_look_142 : decode cX7_look 142 = .ok (.lload 6, 2) := by decide +kernel
theorem dX7_look_144 : decode cX7_look 144 = .ok (.aload_n 0, 1) := by decide +kernel
theorem dX7_look_145 : decode cX7_look 145 = .ok (.getfield 144, 3) := by decide +kernel
theorem dX7_look_148 : decode cX7_look 148 = .ok (.lcmp, 1) := by decide +kernel
theorem dX7_look_149 : decode cX7_look 149 = .ok (.ifCond .lt 4, 3) := by decide +kernel
theorem dX7_look_152 : decode cX7_look 152 = .ok (.return_, 1) := by decide +kernel
theorem dX7_look_153 : decode cX7_look 153 = .ok (.aload_n 0, 1) := by decide +kernel
theorem dX7_look_154 : decode cX7_look 154 = .ok (.lload 6, 2) := by decide +kernel
theorem dX7_look_156 : decode cX7_look 156 = .ok (.putfield 144, 3) := by decide +kernel
theorem dX7_look_159 : decode cX7_look 159 = .ok (.aload_n 0, 1) := by decide +kernel
theorem dX7_look_160 : decode cX7_look 160 = .ok (.iload_n 1, 1) := by decide +kernel
theorem dX7_look_161 : decode cX7_look 161 = .ok (.putfield 155, 3) := by decide +kernel
theorem dX7_look_164 : decode cX7_look 164 = .ok (.aload_n 0, 1) := by decide +kernel
theorem dX7_look_165 : decode cX7_look 165 = .ok (.iload_n 2, 1) := by decide +kernel
theorem dX7_look_166 : decode cX7_look 166 = .ok (.putfield 158, 3) := by decide +kernel
theorem dX7_look_169 : decode cX7_look 169 = .ok (.aload_n 0, 1) := by decide +kernel
theorem dX7_look_170 : decode cX7_look 170 = .ok (.iload 5, 2) := by decide +kernel
theorem dX7_look_172 : decode cX7_look 172 = .ok (.putfield 161, 3) := by decide +kernel
theorem dX7_look_175 : decode cX7_look 175 = .ok (.return_, 1) := by decide +kernel
theorem dX7_lay_0 : decode cX7_lay 0 = .ok (.iconst 0, 1) := by decide +kernel
theorem dX7_lay_1 : decode cX7_lay 1 = .ok (.istore 4, 2) := by decide +kernel
theorem dX7_lay_3 : decode cX7_lay 3 = .ok (.iconst 0, 1) := by decide +kernel
theorem dX7_lay_4 : decode cX7_lay 4 = .ok (.istore 5, 2) := by decide +kernel
theorem dX7_lay_6 : decode cX7_lay 6 = .ok (.iload 5, 2) := by decide +kernel
theorem dX7_lay_8 : decode cX7_lay 8 = .ok (.aload_n 0, 1) := by decide +kernel
theorem dX7_lay_9 : decode cX7_lay 9 = .ok (.getfield 79, 3) := by decide +kernel
theorem dX7_lay_12 : decode cX7_lay 12 = .ok (.if_icmp .ge 207, 3) := by decide +kernel
theorem dX7_lay_15 : decode cX7_lay 15 = .ok (.aload_n 0, 1) := by decide +kernel
theorem dX7_lay_16 : decode cX7_lay 16 = .ok (.getfield 38, 3) := by decide +kernel
theorem dX7_lay_19 : decode cX7_lay 19 = .ok (.iload 5, 2) := by decide +kernel
theorem dX7_lay_21 : decode cX7_lay 21 = .ok (.iconst 0, 1) := by decide +kernel
theorem dX7_lay_22 : decode cX7_lay 22 = .ok (.iastore, 1) := by decide +kernel
theorem dX7_lay_23 : decode cX7_lay 23 = .ok (.iload 5, 2) := by decide +kernel
theorem dX7_lay_25 : decode cX7_lay 25 = .ok (.iload_n 3, 1) := by decide +kernel
theorem dX7_lay_26 : decode cX7_lay 26 = .ok (.if_icmp .eq 187, 3) := by decide +kernel
theorem dX7_lay_29 : decode cX7_lay 29 = .ok (.aload_n 0, 1) := by decide +kernel
theorem dX7_lay_30 : decode cX7_lay 30 = .ok (.iload 5, 2) := by decide +kernel
theorem dX7_lay_32 : decode cX7_lay 32 = .ok (.invokevirtual 164, 3) := by decide +kernel
theorem dX7_lay_35 : decode cX7_lay 35 = .ok (.ifCond .eq 178, 3) := by decide +kernel
theorem dX7_lay_38 : decode cX7_lay 38 = .ok (.aload_n 0, 1) := by decide +kernel
theorem dX7_lay_39 : decode cX7_lay 39 = .ok (.iload_n 1, 1) := by decide +kernel
theorem dX7_lay_40 : decode cX7_lay 40 = .ok (.iload 5, 2) := by decide +kernel
theorem dX7_lay_42 : decode cX7_lay 42 = .ok (.iconst 0, 1) := by decide +kernel
theorem dX7_lay_43 : decode cX7_lay 43 = .ok (.invokevirtual 82, 3) := by decide +kernel
theorem dX7_lay_46 : decode cX7_lay 46 = .ok (.ifCond .ne 6, 3) := by decide +kernel
theorem dX7_lay_49 : decode cX7_lay 49 = .ok (.goto 164, 3) := by decide +kernel
theorem dX7_lay_52 : decode cX7_lay 52 = .ok (.aload_n 0, 1) := by decide +kernel
theorem dX7_lay_53 : decode cX7_lay 53 = .ok (.getfield 25, 3) := by decide +kernel
theorem dX7_lay_56 : decode cX7_lay 56 = .ok (.iload_n 1, 1) := by decide +kernel
theorem dX7_lay_57 : decode cX7_lay 57 = .ok (.aaload, 1) := by decide +kernel
theorem dX7_lay_58 : decode cX7_lay 58 = .ok (.iload 5, 2) := by decide +kernel
theorem dX7_lay_60 : decode cX7_lay 60 = .ok (.aaload, 1) := by decide +kernel
theorem dX7_lay_61 : decode cX7_lay 61 = .ok (.astore 6, 2) := by decide +kernel
theorem dX7_lay_63 : decode cX7_lay 63 = .ok (.iload_n 2, 1) := by decide +kernel
theorem dX7_lay_64 : decode cX7_lay 64 = .ok (.ifCond .eq 15, 3) := by decide +kernel
theorem dX7_lay_67 : decode cX7_lay 67 = .ok (.aload 6, 2) := by decide +kernel
theorem dX7_lay_69 : decode cX7_lay 69 = .ok (.iconst 5, 1) := by decide +kernel
theorem dX7_lay_70 : decode cX7_lay 70 = .ok (.iaload, 1) := by decide +kernel
theorem dX7_lay_71 : decode cX7_lay 71 = .ok (.iconst 1, 1) := by decide +kernel
theorem dX7_lay_72 : decode cX7_lay 72 = .ok (.if_icmp .ne 7, 3) := by decide +kernel
theorem dX7_lay_75 : decode cX7_lay 75 = .ok (.iconst 1, 1) := by decide +kernel
theorem dX7_lay_76 : decode cX7_lay 76 = .ok (.goto 4, 3) := by decide +kernel
theorem dX7_lay_79 : decode cX7_lay 79 = .ok (.iconst 0, 1) := by decide +kernel
theorem dX7_lay_80 : decode cX7_lay 80 = .ok (.istore 7, 2) := by decide +kernel
theorem dX7_lay_82 : decode cX7_lay 82 = .ok (.aload_n 0, 1) := by decide +kernel
theorem dX7_lay_83 : decode cX7_lay 83 = .ok (.getfield 28, 3) := by decide +kernel
theorem dX7_lay_86 : decode cX7_lay 86 = .ok (.iload 5, 2) := by decide +kernel
theorem dX7_lay_88 : decode cX7_lay 88 = .ok (.aload_n 0, 1) := by decide +kernel
theorem dX7_lay_89 : decode cX7_lay 89 = .ok (.iload 5, 2) := by decide +kernel
theorem dX7_lay_91 : decode cX7_lay 91 = .ok (.aload_n 0, 1) := by decide +kernel
theorem dX7_lay_92 : decode cX7_lay 92 = .ok (.iload 5, 2) := by decide +kernel
theorem dX7_lay_94 : decode cX7_lay 94 = .ok (.invokevirtual 167, 3) := by decide +kernel
theorem dX7_lay_97 : decode cX7_lay 97 = .ok (.invokevirtual 76, 3) := by decide +kernel
theorem dX7_lay_100 : decode cX7_lay 100 = .ok (.iastore, 1) := by decide +kernel
theorem dX7_lay_101 : decode cX7_lay 101 = .ok (.aload_n 0, 1) := by decide +kernel
theorem dX7_lay_102 : decode cX7_lay 102 = .ok (.getfield 32, 3) := by decide +kernel
theorem dX7_lay_105 : decode cX7_lay 105 = .ok (.iload 5, 2) := by decide +kernel
theorem dX7_lay_107 : decode cX7_lay 107 = .ok (.aload_n 0, 1) := by decide +kernel
theorem dX7_lay_108 : decode cX7_lay 108 = .ok (.iload 5, 2) := by decide +kernel
theorem dX7_lay_110 : decode cX7_lay 110 = .ok (.aload_n 0, 1) := by decide +kernel
theorem dX7_lay_111 : decode cX7_lay 111 = .ok (.iload 5, 2) := by decide +kernel
theorem dX7_lay_113 : decode cX7_lay 113 = .ok (.invokevirtual 167, 3) := by decide +kernel
theorem dX7_lay_116 : decode cX7_lay 116 = .ok (.invokevirtual 73, 3) := by decide +kernel
theorem dX7_lay_119 : decode cX7_lay 119 = .ok (.iastore, 1) := by decide +kernel
theorem dX7_lay_120 : decode cX7_lay 120 = .ok (.aload_n 0, 1) := by decide +kernel
theorem dX7_lay_121 : decode cX7_lay 121 = .ok (.getfield 35, 3) := by decide +kernel
theorem dX7_lay_124 : decode cX7_lay 124 = .ok (.iload 5, 2) := by decide +kernel
theorem dX7_lay_126 : decode cX7_lay 126 = .ok (.iload 7, 2) := by decide +kernel
theorem dX7_lay_128 : decode cX7_lay 128 = .ok (.ifCond .eq 18, 3) := by decide +kernel
theorem dX7_lay_131 : decode cX7_lay 131 = .ok (.aload 6, 2) := by decide +kernel
theorem dX7_lay_133 : decode cX7_lay 133 = .ok (.iconst 1, 1) := by decide +kernel
theorem dX7_lay_134 : decode cX7_lay 134 = .ok (.iaload, 1) := by decide +kernel
theorem dX7_lay_135 : decode cX7_lay 135 = .ok (.bipush 10, 2) := by decide +kernel
theorem dX7_lay_137 : decode cX7_lay 137 = .ok (.aload 6, 2) := by decide +kernel
theorem dX7_lay_139 : decode cX7_lay 139 = .ok (.iconst 2, 1) := by decide +kernel
theorem dX7_lay_140 : decode cX7_lay 140 = .ok (.iaload, 1) := by decide +kernel
theorem dX7_lay_141 : decode cX7_lay 141 = .ok (.imul, 1) := by decide +kernel
theorem dX7_lay_142 : decode cX7_lay 142 = .ok (.iadd, 1) := by decide +kernel
theorem dX7_lay_143 : decode cX7_lay 143 = .ok (.goto 10, 3) := by decide +kernel
theorem dX7_lay_146 : decode cX7_lay 146 = .ok (.aload_n 0, 1) := by decide +kernel
theorem dX7_lay_147 : decode cX7_lay 147 = .ok (.iload_n 1, 1) := by decide +kernel
theorem dX7_lay_148 : decode cX7_lay 148 = .ok (.iload 5, 2) := by decide +kernel
theorem dX7_lay_150 : decode cX7_lay 150 = .ok (.invokevirtual 170, 3) := by decide +kernel
theorem dX7_lay_153 : decode cX7_lay 153 = .ok (.aload_n 0, 1) := by decide +kernel
theorem dX7_lay_154 : decode cX7_lay 154 = .ok (.iload 5, 2) := by decide +kernel
theorem dX7_lay_156 : decode cX7_lay 156 = .ok (.invokevirtual 173, 3) := by decide +kernel
theorem dX7_lay_159 : decode cX7_lay 159 = .ok (.isub, 1) := by decide +kernel
theorem dX7_lay_160 : decode cX7_lay 160 = .ok (.aload_n 0, 1) := by decide +kernel
theorem dX7_lay_161 : decode cX7_lay 161 = .ok (.iload_n 1, 1) := by decide +kernel
theorem dX7_lay_162 : decode cX7_lay 162 = .ok (.iload 5, 2) := by decide +kernel
theorem dX7_lay_164 : decode cX7_lay 164 = .ok (.invokevirtual 176, 3) := by decide +kernel
theorem dX7_lay_167 : decode cX7_lay 167 = .ok (.isub, 1) := by decide +kernel
theorem dX7_lay_168 : decode cX7_lay 168 = .ok (.iastore, 1) := by decide +kernel
theorem dX7_lay_169 : decode cX7_lay 169 = .ok (.aload_n 0, 1) := by decide +kernel
theorem dX7_lay_170 : decode cX7_lay 170 = .ok (.getfield 38, 3) := by decide +kernel
theorem dX7_lay_173 : decode cX7_lay 173 = .ok (.iload 5, 2) := by decide +kernel
theorem dX7_lay_175 : decode cX7_lay 175 = .ok (.iload 7, 2) := by decide +kernel
theorem dX7_lay_177 : decode cX7_lay 177 = .ok (.ifCond .eq 7, 3) := by decide +kernel
theorem dX7_lay_180 : decode cX7_lay 180 = .ok (.iconst 4, 1) := by decide +kernel
theorem dX7_lay_181 : decode cX7_lay 181 = .ok (.goto 28, 3) := by decide +kernel
theorem dX7_lay_184 : decode cX7_lay 184 = .ok (.aload_n 0, 1) := by decide +kernel
theorem dX7_lay_185 : decode cX7_lay 185 = .ok (.getfield 32, 3) := by decide +kernel
theorem dX7_lay_188 : decode cX7_lay 188 = .ok (.iload 5, 2) := by decide +kernel
theorem dX7_lay_190 : decode cX7_lay 190 = .ok (.iaload, 1) := by decide +kernel
theorem dX7_lay_191 : decode cX7_lay 191 = .ok (.aload_n 0, 1) := by decide +kernel
theorem dX7_lay_192 : decode cX7_lay 192 = .ok (.getfield 28, 3) := by decide +kernel
theorem dX7_lay_195 : decode cX7_lay 195 = .ok (.iload 5, 2) := by decide +kernel
theorem dX7_lay_197 : decode cX7_lay 197 = .ok (.iaload, 1) := by decide +kernel
theorem dX7_lay_198 : decode cX7_lay 198 = .ok (.invokestatic 61, 3) := by decide +kernel
theorem dX7_lay_201 : decode cX7_lay 201 = .ok (.if_icmp .le 7, 3) := by decide +kernel
theorem dX7_lay_204 : decode cX7_lay 204 = .ok (.iconst 2, 1) := by decide +kernel
theorem dX7_lay_205 : decode cX7_lay 205 = .ok (.goto 4, 3) := by decide +kernel
theorem dX7_lay_208 : decode cX7_lay 208 = .ok (.iconst 1, 1) := by decide +kernel
theorem dX7_lay_209 : decode cX7_lay 209 = .ok (.iastore, 1) := by decide +kernel
theorem dX7_lay_210 : decode cX7_lay 210 = .ok (.iinc 4 1, 3) := by decide +kernel
theorem dX7_lay_213 : decode cX7_lay 213 = .ok (.iinc 5 1, 3) := by decide +kernel
theorem dX7_lay_216 : decode cX7_lay 216 = .ok (.goto (-210), 3) := by decide +kernel
theorem dX7_lay_219 : decode cX7_lay 219 = .ok (.iload 4, 2) := by decide +kernel
theorem dX7_lay_221 : decode cX7_lay 221 = .ok (.ireturn, 1) := by decide +kernel
theorem dX7_level_0 : decode cX7_level 0 = .ok (.iload_n 1, 1) := by decide +kernel
theorem dX7_level_1 : decode cX7_level 1 = .ok (.iconst 4, 1) := by decide +kernel
theorem dX7_level_2 : decode cX7_level 2 = .ok (.if_icmp .ge 6, 3) := by decide +kernel
theorem dX7_level_5 : decode cX7_level 5 = .ok (.bipush 99, 2) := by decide +kernel
theorem dX7_level_7 : decode cX7_level 7 = .ok (.ireturn, 1) := by decide +kernel
theorem dX7_level_8 : decode cX7_level 8 = .ok (.aload_n 0, 1) := by decide +kernel
theorem dX7_level_9 : decode cX7_level 9 = .ok (.getfield 155, 3) := by decide +kernel
theorem dX7_level_12 : decode cX7_level 12 = .ok (.istore_n 2, 1) := by decide +kernel
theorem dX7_level_13 : decode cX7_level 13 = .ok (.aload_n 0, 1) := by decide +kernel
theorem dX7_level_14 : decode cX7_level 14 = .ok (.getfield 158, 3) := by decide +kernel
theorem dX7_level_17 : decode cX7_level 17 = .ok (.istore_n 3, 1) := by decide +kernel
theorem dX7_level_18 : decode cX7_level 18 = .ok (.aload_n 0, 1) := by decide +kernel
theorem dX7_level_19 : decode cX7_level 19 = .ok (.getfield 161, 3) := by decide +kernel
theorem dX7_level_22 : decode cX7_level 22 = .ok (.istore 4, 2) := by decide +kernel
theorem dX7_level_24 : decode cX7_level 24 = .ok (.aload_n 0, 1) := by decide +kernel
theorem dX7_level_25 : decode cX7_level 25 = .ok (.getfield 144, 3) := by decide +kernel
theorem dX7_level_28 : decode cX7_level 28 = .ok (.lstore 5, 2) := by decide +kernel
theorem dX7_level_30 : decode cX7_level 30 = .ok (.iconst 0, 1) := by decide +kernel
theorem dX7_level_31 : decode cX7_level 31 = .ok (.istore 7, 2) := by decide +kernel
theorem dX7_level_33 : decode cX7_level 33 = .ok (.iconst 0, 1) := by decide +kernel
theorem dX7_level_34 : decode cX7_level 34 = .ok (.istore 8, 2) := by decide +kernel
theorem dX7_level_36 : decode cX7_level 36 = .ok (.iload 8, 2) := by decide +kernel
theorem dX7_level_38 : decode cX7_level 38 = .ok (.aload_n 0, 1) := by decide +kernel
theorem dX7_level_39 : decode cX7_level 39 = .ok (.getfield 79, 3) := by decide +kernel
theorem dX7_level_42 : decode cX7_level 42 = .ok (.if_icmp .ge 67, 3) := by decide +kernel
theorem dX7_level_45 : decode cX7_level 45 = .ok (.aload_n 0, 1) := by decide +kernel
theorem dX7_level_46 : decode cX7_level 46 = .ok (.getfield 38, 3) := by decide +kernel
theorem dX7_level_49 : decode cX7_level 49 = .ok (.iload 8, 2) := by decide +kernel
theorem dX7_level_51 : decode cX7_level 51 = .ok (.iaload, 1) := by decide +kernel
theorem dX7_level_52 : decode cX7_level 52 = .ok (.istore 9, 2) := by decide +kernel
theorem dX7_level_54 : decode cX7_level 54 = .ok (.iload 9, 2) := by decide +kernel
theorem dX7_level_56 : decode cX7_level 56 = .ok (.ifCond .ne 6, 3) := by decide +kernel
theorem dX7_level_59 : decode cX7_level 59 = .ok (.goto 44, 3) := by decide +kernel
theorem dX7_level_62 : decode cX7_level 62 = .ok (.aload_n 0, 1) := by decide +kernel
theorem dX7_level_63 : decode cX7_level 63 = .ok (.getfield 38, 3) := by decide +kernel
theorem dX7_level_66 : decode cX7_level 66 = .ok (.iload 8, 2) := by decide +kernel
theorem dX7_level_68 : decode cX7_level 68 = .ok (.iconst 0, 1) := by decide +kernel
theorem dX7_level_69 : decode cX7_level 69 = .ok (.iastore, 1) := by decide +kernel
theorem dX7_level_70 : decode cX7_level 70 = .ok (.aload_n 0, 1) := by decide +kernel
theorem dX7_level_71 : decode cX7_level 71 = .ok (.invokevirtual 179, 3) := by decide +kernel
theorem dX7_level_74 : decode cX7_level 74 = .ok (.iload 7, 2) := by decide +kernel
theorem dX7_level_76 : decode cX7_level 76 = .ok (.iload_n 2, 1) := by decide +kernel
theorem dX7_level_77 : decode cX7_level 77 = .ok (.iload_n 3, 1) := by decide +kernel
theorem dX7_level_78 : decode cX7_level 78 = .ok (.aload_n 0, 1) := by decide +kernel
theorem dX7_level_79 : decode cX7_level 79 = .ok (.getfield 155, 3) := by decide +kernel
theorem dX7_level_82 : decode cX7_level 82 = .ok (.aload_n 0, 1) := by decide +kernel
theorem dX7_level_83 : decode cX7_level 83 = .ok (.getfield 158, 3) := by decide +kernel
theorem dX7_level_86 : decode cX7_level 86 = .ok (.invokestatic 118, 3) := by decide +kernel
theorem dX7_level_89 : decode cX7_level 89 = .ok (.invokestatic 51, 3) := by decide +kernel
theorem dX7_level_92 : decode cX7_level 92 = .ok (.istore 7, 2) := by decide +kernel
theorem dX7_level_94 : decode cX7_level 94 = .ok (.aload_n 0, 1) := by decide +kernel
theorem dX7_level_95 : decode cX7_level 95 = .ok (.getfield 38, 3) := by decide +kernel
theorem dX7_level_98 : decode cX7_level 98 = .ok (.iload 8, 2) := by decide +kernel
theorem dX7_level_100 : decode cX7_level 100 = .ok (.iload 9, 2) := by decide +kernel
theorem dX7_level_102 : decode cX7_level 102 = .ok (.iastore, 1) := by decide +kernel
theorem dX7_level_103 : decode cX7_level 103 = .ok (.iinc 8 1, 3) := by decide +kernel
theorem dX7_level_106 : decode cX7_level 106 = .ok (.goto (-70), 3) := by decide +kernel
theorem dX7_level_109 : decode cX7_level 109 = .ok (.aload_n 0, 1) := by decide +kernel
theorem dX7_level_110 : decode cX7_level 110 = .ok (.iload_n 2, 1) := by decide +kernel
theorem dX7_level_111 : decode cX7_level 111 = .ok (.putfield 155, 3) := by decide +kernel
theorem dX7_level_114 : decode cX7_level 114 = .ok (.aload_n 0, 1) := by decide +kernel
theorem dX7_level_115 : decode cX7_level 115 = .ok (.iload_n 3, 1) := by decide +kernel
theorem dX7_level_116 : decode cX7_level 116 = .ok (.putfield 158, 3) := by decide +kernel
theorem dX7_level_119 : decode cX7_level 119 = .ok (.aload_n 0, 1) := by decide +kernel
theorem dX7_level_120 : decode cX7_level 120 = .ok (.iload 4, 2) := by decide +kernel
theorem dX7_level_122 : decode cX7_level 122 = .ok (.putfield 161, 3) := by decide +kernel
theorem dX7_level_125 : decode cX7_level 125 = .ok (.aload_n 0, 1) := by decide +kernel
theorem dX7_level_126 : decode cX7_level 126 = .ok (.lload 5, 2) := by decide +kernel
theorem dX7_level_128 : decode cX7_level 128 = .ok (.putfield 144, 3) := by decide +kernel
theorem dX7_level_131 : decode cX7_level 131 = .ok (.iconst 3, 1) := by decide +kernel
theorem dX7_level_132 : decode cX7_level 132 = .ok (.iload 7, 2) := by decide +kernel
theorem dX7_level_134 : decode cX7_level 134 = .ok (.iadd, 1) := by decide +kernel
theorem dX7_level_135 : decode cX7_level 135 = .ok (.ireturn, 1) := by decide +kernel
theorem dX7_alarm_0 : decode cX7_alarm 0 = .ok (.iload_n 2, 1) := by decide +kernel
theorem dX7_alarm_1 : decode cX7_alarm 1 = .ok (.iconst 4, 1) := by decide +kernel
theorem dX7_alarm_2 : decode cX7_alarm 2 = .ok (.if_icmp .ge 7, 3) := by decide +kernel
theorem dX7_alarm_5 : decode cX7_alarm 5 = .ok (.iconst 1, 1) := by decide +kernel
theorem dX7_alarm_6 : decode cX7_alarm 6 = .ok (.goto 39, 3) := by decide +kernel
theorem dX7_alarm_9 : decode cX7_alarm 9 = .ok (.aload_n 0, 1) := by decide +kernel
theorem dX7_alarm_10 : decode cX7_alarm 10 = .ok (.getfield 144, 3) := by decide +kernel
theorem dX7_alarm_13 : decode cX7_alarm 13 = .ok (.ldc2_w 182, 3) := by decide +kernel
theorem dX7_alarm_16 : decode cX7_alarm 16 = .ok (.iload_n 2, 1) := by decide +kernel
theorem dX7_alarm_17 : decode cX7_alarm 17 = .ok (.i2l, 1) := by decide +kernel
theorem dX7_alarm_18 : decode cX7_alarm 18 = .ok (.lmul, 1) := by decide +kernel
theorem dX7_alarm_19 : decode cX7_alarm 19 = .ok (.lcmp, 1) := by decide +kernel
theorem dX7_alarm_20 : decode cX7_alarm 20 = .ok (.ifCond .le 7, 3) := by decide +kernel
theorem dX7_alarm_23 : decode cX7_alarm 23 = .ok (.iconst 2, 1) := by decide +kernel
theorem dX7_alarm_24 : decode cX7_alarm 24 = .ok (.goto 21, 3) := by decide +kernel
theorem dX7_alarm_27 : decode cX7_alarm 27 = .ok (.iload_n 3, 1) := by decide +kernel
theorem dX7_alarm_28 : decode cX7_alarm 28 = .ok (.aload_n 0, 1) := by decide +kernel
theorem dX7_alarm_29 : decode cX7_alarm 29 = .ok (.getfield 20, 3) := by decide +kernel
theorem dX7_alarm_32 : decode cX7_alarm 32 = .ok (.iload_n 1, 1) := by decide +kernel
theorem dX7_alarm_33 : decode cX7_alarm 33 = .ok (.aaload, 1) := by decide +kernel
theorem dX7_alarm_34 : decode cX7_alarm 34 = .ok (.bipush 7, 2) := by decide +kernel
theorem dX7_alarm_36 : decode cX7_alarm 36 = .ok (.iaload, 1) := by decide +kernel
theorem dX7_alarm_37 : decode cX7_alarm 37 = .ok (.if_icmp .le 7, 3) := by decide +kernel
theorem dX7_alarm_40 : decode cX7_alarm 40 = .ok (.iconst 3, 1) := by decide +kernel
theorem dX7_alarm_41 : decode cX7_alarm 41 = .ok (.goto 4, 3) := by decide +kernel
theorem dX7_alarm_44 : decode cX7_alarm 44 = .ok (.iconst 0, 1) := by decide +kernel
theorem dX7_alarm_45 : decode cX7_alarm 45 = .ok (.ireturn, 1) := by decide +kernel
theorem dX7_see_0 : decode cX7_see 0 = .ok (.aload_n 0, 1) := by decide +kernel
theorem dX7_see_1 : decode cX7_see 1 = .ok (.getfield 25, 3) := by decide +kernel
theorem dX7_see_4 : decode cX7_see 4 = .ok (.iload_n 1, 1) := by decide +kernel
theorem dX7_see_5 : decode cX7_see 5 = .ok (.aaload, 1) := by decide +kernel
theorem dX7_see_6 : decode cX7_see 6 = .ok (.iload_n 2, 1) := by decide +kernel
theorem dX7_see_7 : decode cX7_see 7 = .ok (.aaload, 1) := by decide +kernel
theorem dX7_see_8 : decode cX7_see 8 = .ok (.astore 4, 2) := by decide +kernel
theorem dX7_see_10 : decode cX7_see 10 = .ok (.iload_n 3, 1) := by decide +kernel
theorem dX7_see_11 : decode cX7_see 11 = .ok (.ifCond .eq 16, 3) := by decide +kernel
theorem dX7_see_14 : decode cX7_see 14 = .ok (.aload 4, 2) := by decide +kernel
theorem dX7_see_16 : decode cX7_see 16 = .ok (.bipush 11, 2) := by decide +kernel
theorem dX7_see_18 : decode cX7_see 18 = .ok (.iaload, 1) := by decide +kernel
theorem dX7_see_19 : decode cX7_see 19 = .ok (.iconst 1, 1) := by decide +kernel
theorem dX7_see_20 : decode cX7_see 20 = .ok (.if_icmp .ne 7, 3) := by decide +kernel
theorem dX7_see_23 : decode cX7_see 23 = .ok (.iconst 1, 1) := by decide +kernel
theorem dX7_see_24 : decode cX7_see 24 = .ok (.goto 4, 3) := by decide +kernel
theorem dX7_see_27 : decode cX7_see 27 = .ok (.iconst 0, 1) := by decide +kernel
theorem dX7_see_28 : decode cX7_see 28 = .ok (.istore 5, 2) := by decide +kernel
theorem dX7_see_30 : decode cX7_see 30 = .ok (.aload 4, 2) := by decide +kernel
theorem dX7_see_32 : decode cX7_see 32 = .ok (.bipush 11, 2) := by decide +kernel
theorem dX7_see_34 : decode cX7_see 34 = .ok (.aload_n 0, 1) := by decide +kernel
theorem dX7_see_35 : decode cX7_see 35 = .ok (.iload_n 1, 1) := by decide +kernel
theorem dX7_see_36 : decode cX7_see 36 = .ok (.iload_n 2, 1) := by decide +kernel
theorem dX7_see_37 : decode cX7_see 37 = .ok (.iconst 0, 1) := by decide +kernel
theorem dX7_see_38 : decode cX7_see 38 = .ok (.invokevirtual 82, 3) := by decide +kernel
theorem dX7_see_41 : decode cX7_see 41 = .ok (.ifCond .eq 7, 3) := by decide +kernel
theorem dX7_see_44 : decode cX7_see 44 = .ok (.iconst 1, 1) := by decide +kernel
theorem dX7_see_45 : decode cX7_see 45 = .ok (.goto 4, 3) := by decide +kernel
theorem dX7_see_48 : decode cX7_see 48 = .ok (.iconst 0, 1) := by decide +kernel
theorem dX7_see_49 : decode cX7_see 49 = .ok (.iastore, 1) := by decide +kernel
theorem dX7_see_50 : decode cX7_see 50 = .ok (.aload 4, 2) := by decide +kernel
theorem dX7_see_52 : decode cX7_see 52 = .ok (.iconst 5, 1) := by decide +kernel
theorem dX7_see_53 : decode cX7_see 53 = .ok (.iconst 0, 1) := by decide +kernel
theorem dX7_see_54 : decode cX7_see 54 = .ok (.iastore, 1) := by decide +kernel
theorem dX7_see_55 : decode cX7_see 55 = .ok (.aload 4, 2) := by decide +kernel
theorem dX7_see_57 : decode cX7_see 57 = .ok (.bipush 6, 2) := by decide +kernel
theorem dX7_see_59 : decode cX7_see 59 = .ok (.iconst 0, 1) := by decide +kernel
theorem dX7_see_60 : decode cX7_see 60 = .ok (.iastore, 1) := by decide +kernel
theorem dX7_see_61 : decode cX7_see 61 = .ok (.aload 4, 2) := by decide +kernel
theorem dX7_see_63 : decode cX7_see 63 = .ok (.bipush 7, 2) := by decide +kernel
theorem dX7_see_65 : decode cX7_see 65 = .ok (.iconst 0, 1) := by decide +kernel
theorem dX7_see_66 : decode cX7_see 66 = .ok (.iastore, 1) := by decide +kernel
theorem dX7_see_67 : decode cX7_see 67 = .ok (.aload 4, 2) := by decide +kernel
theorem dX7_see_69 : decode cX7_see 69 = .ok (.bipush 11, 2) := by decide +kernel
theorem dX7_see_71 : decode cX7_see 71 = .ok (.iaload, 1) := by decide +kernel
theorem dX7_see_72 : decode cX7_see 72 = .ok (.ifCond .ne 4, 3) := by decide +kernel
theorem dX7_see_75 : decode cX7_see 75 = .ok (.return_, 1) := by decide +kernel
theorem dX7_see_76 : decode cX7_see 76 = .ok (.aload 4, 2) := by decide +kernel
theorem dX7_see_78 : decode cX7_see 78 = .ok (.bipush 9, 2) := by decide +kernel
theorem dX7_see_80 : decode cX7_see 80 = .ok (.aload 4, 2) := by decide +kernel
theorem dX7_see_82 : decode cX7_see 82 = .ok (.bipush 8, 2) := by decide +kernel
theorem dX7_see_84 : decode cX7_see 84 = .ok (.iaload, 1) := by decide +kernel
theorem dX7_see_85 : decode cX7_see 85 = .ok (.iastore, 1) := by decide +kernel
theorem dX7_see_86 : decode cX7_see 86 = .ok (.aload 4, 2) := by decide +kernel
theorem dX7_see_88 : decode cX7_see 88 = .ok (.bipush 8, 2) := by decide +kernel
theorem dX7_see_90 : decode cX7_see 90 = .ok (.aload 4, 2) := by decide +kernel
theorem dX7_see_92 : decode cX7_see 92 = .ok (.iconst 3, 1) := by decide +kernel
theorem dX7_see_93 : decode cX7_see 93 = .ok (.iaload, 1) := by decide +kernel
theorem dX7_see_94 : decode cX7_see 94 = .ok (.iastore, 1) := by decide +kernel
theorem dX7_see_95 : decode cX7_see 95 = .ok (.aload 4, 2) := by decide +kernel
theorem dX7_see_97 : decode cX7_see 97 = .ok (.iconst 4, 1) := by decide +kernel
theorem dX7_see_98 : decode cX7_see 98 = .ok (.iload 5, 2) := by decide +kernel
theorem dX7_see_100 : decode cX7_see 100 = .ok (.ifCond .eq 12, 3) := by decide +kernel
theorem dX7_see_103 : decode cX7_see 103 = .ok (.aload 4, 2) := by decide +kernel
theorem dX7_see_105 : decode cX7_see 105 = .ok (.iconst 4, 1) := by decide +kernel
theorem dX7_see_106 : decode cX7_see 106 = .ok (.iaload, 1) := by decide +kernel
theorem dX7_see_107 : decode cX7_see 107 = .ok (.iconst 1, 1) := by decide +kernel
theorem dX7_see_108 : decode cX7_see 108 = .ok (.iadd, 1) := by decide +kernel
theorem dX7_see_109 : decode cX7_see 109 = .ok (.goto 4, 3) := by decide +kernel
theorem dX7_see_112 : decode cX7_see 112 = .ok (.iconst 1, 1) := by decide +kernel
theorem dX7_see_113 : decode cX7_see 113 = .ok (.iastore, 1) := by decide +kernel
theorem dX7_see_114 : decode cX7_see 114 = .ok (.aload 4, 2) := by decide +kernel
theorem dX7_see_116 : decode cX7_see 116 = .ok (.iconst 0, 1) := by decide +kernel
theorem dX7_see_117 : decode cX7_see 117 = .ok (.aload_n 0, 1) := by decide +kernel
theorem dX7_see_118 : decode cX7_see 118 = .ok (.iload_n 1, 1) := by decide +kernel
theorem dX7_see_119 : decode cX7_see 119 = .ok (.iload_n 2, 1) := by decide +kernel
theorem dX7_see_120 : decode cX7_see 120 = .ok (.invokevirtual 170, 3) := by decide +kernel
theorem dX7_see_123 : decode cX7_see 123 = .ok (.iastore, 1) := by decide +kernel
theorem dX7_see_124 : decode cX7_see 124 = .ok (.aload 4, 2) := by decide +kernel
theorem dX7_see_126 : decode cX7_see 126 = .ok (.iconst 1, 1) := by decide +kernel
theorem dX7_see_127 : decode cX7_see 127 = .ok (.aload_n 0, 1) := by decide +kernel
theorem dX7_see_128 : decode cX7_see 128 = .ok (.iload_n 1, 1) := by decide +kernel
theorem dX7_see_129 : decode cX7_see 129 = .ok (.iload_n 2, 1) := by decide +kernel
theorem dX7_see_130 : decode cX7_see 130 = .ok (.invokevirtual 134, 3) := by decide +kernel
theorem dX7_see_133 : decode cX7_see 133 = .ok (.bipush 10, 2) := by decide +kernel
theorem dX7_see_135 : decode cX7_see 135 = .ok (.invokestatic 54, 3) := by decide +kernel
theorem dX7_see_138 : decode cX7_see 138 = .ok (.iastore, 1) := by decide +kernel
theorem dX7_see_139 : decode cX7_see 139 = .ok (.aload 4, 2) := by decide +kernel
theorem dX7_see_141 : decode cX7_see 141 = .ok (.iconst 2, 1) := by decide +kernel
theorem dX7_see_142 : decode cX7_see 142 = .ok (.aload 4, 2) := by decide +kernel
theorem dX7_see_144 : decode cX7_see 144 = .ok (.iconst 0, 1) := by decide +kernel
theorem dX7_see_145 : decode cX7_see 145 = .ok (.iaload, 1) := by decide +kernel
theorem dX7_see_146 : decode cX7_see 146 = .ok (.aload 4, 2) := by decide +kernel
theorem dX7_see_148 : decode cX7_see 148 = .ok (.iconst 1, 1) := by decide +kernel
theorem dX7_see_149 : decode cX7_see 149 = .ok (.iaload, 1) := by decide +kernel
theorem dX7_see_150 : decode cX7_see 150 = .ok (.isub, 1) := by decide +kernel
theorem dX7_see_151 : decode cX7_see 151 = .ok (.iconst 5, 1) := by decide +kernel
theorem dX7_see_152 : decode cX7_see 152 = .ok (.iadd, 1) := by decide +kernel
theorem dX7_see_153 : decode cX7_see 153 = .ok (.bipush 10, 2) := by decide +kernel
theorem dX7_see_155 : decode cX7_see 155 = .ok (.invokestatic 137, 3) := by decide +kernel
theorem dX7_see_158 : decode cX7_see 158 = .ok (.iastore, 1) := by decide +kernel
theorem dX7_see_159 : decode cX7_see 159 = .ok (.aload 4, 2) := by decide +kernel
theorem dX7_see_161 : decode cX7_see 161 = .ok (.iconst 3, 1) := by decide +kernel
theorem dX7_see_162 : decode cX7_see 162 = .ok (.aload 4, 2) := by decide +kernel
theorem dX7_see_164 : decode cX7_see 164 = .ok (.iconst 0, 1) := by decide +kernel
theorem dX7_see_165 : decode cX7_see 165 = .ok (.iaload, 1) := by decide +kernel
theorem dX7_see_166 : decode cX7_see 166 = .ok (.aload 4, 2) := by decide +kernel
theorem dX7_see_168 : decode cX7_see 168 = .ok (.iconst 1, 1) := by decide +kernel
theorem dX7_see_169 : decode cX7_see 169 = .ok (.iaload, 1) := by decide +kernel
theorem dX7_see_170 : decode cX7_see 170 = .ok (.isub, 1) := by decide +kernel
theorem dX7_see_171 : decode cX7_see 171 = .ok (.bipush 10, 2) := by decide +kernel
theorem dX7_see_173 : decode cX7_see 173 = .ok (.aload 4, 2) := by decide +kernel
theorem dX7_see_175 : decode cX7_see 175 = .ok (.iconst 2, 1) := by decide +kernel
theorem dX7_see_176 : decode cX7_see 176 = .ok (.iaload, 1) := by decide +kernel
theorem dX7_see_177 : decode cX7_see 177 = .ok (.imul, 1) := by decide +kernel
theorem dX7_see_178 : decode cX7_see 178 = .ok (.isub, 1) := by decide +kernel
theorem dX7_see_179 : decode cX7_see 179 = .ok (.iastore, 1) := by decide +kernel
theorem dX7_see_180 : decode cX7_see 180 = .ok (.aload 4, 2) := by decide +kernel
theorem dX7_see_182 : decode cX7_see 182 = .ok (.iconst 5, 1) := by decide +kernel
theorem dX7_see_183 : decode cX7_see 183 = .ok (.aload 4, 2) := by decide +kernel
theorem dX7_see_185 : decode cX7_see 185 = .ok (.iconst 4, 1) := by decide +kernel
theorem dX7_see_186 : decode cX7_see 186 = .ok (.iaload, 1) := by decide +kernel
theorem dX7_see_187 : decode cX7_see 187 = .ok (.iconst 3, 1) := by decide +kernel
theorem dX7_see_188 : decode cX7_see 188 = .ok (.if_icmp .lt 48, 3) := by decide +kernel
theorem dX7_see_191 : decode cX7_see 191 = .ok (.aload 4, 2) := by decide +kernel
theorem dX7_see_193 : decode cX7_see 193 = .ok (.iconst 3, 1) := by decide +kernel
theorem dX7_see_194 : decode cX7_see 194 = .ok (.iaload, 1) := by decide +kernel
theorem dX7_see_195 : decode cX7_see 195 = .ok (.bipush (-2), 2) := by decide +kernel
theorem dX7_see_197 : decode cX7_see 197 = .ok (.iconst 2, 1) := by decide +kernel
theorem dX7_see_198 : decode cX7_see 198 = .ok (.invokestatic 86, 3) := by decide +kernel
theorem dX7_see_201 : decode cX7_see 201 = .ok (.ifCond .eq 35, 3) := by decide +kernel
theorem dX7_see_204 : decode cX7_see 204 = .ok (.aload 4, 2) := by decide +kernel
theorem dX7_see_206 : decode cX7_see 206 = .ok (.bipush 8, 2) := by decide +kernel
theorem dX7_see_208 : decode cX7_see 208 = .ok (.iaload, 1) := by decide +kernel
theorem dX7_see_209 : decode cX7_see 209 = .ok (.bipush (-2), 2) := by decide +kernel
theorem dX7_see_211 : decode cX7_see 211 = .ok (.iconst 2, 1) := by decide +kernel
theorem dX7_see_212 : decode cX7_see 212 = .ok (.invokestatic 86, 3) := by decide +kernel
theorem dX7_see_215 : decode cX7_see 215 = .ok (.ifCond .eq 21, 3) := by decide +kernel
theorem dX7_see_218 : decode cX7_see 218 = .ok (.aload 4, 2) := by decide +kernel
theorem dX7_see_220 : decode cX7_see 220 = .ok (.bipush 9, 2) := by decide +kernel
theorem dX7_see_222 : decode cX7_see 222 = .ok (.iaload, 1) := by decide +kernel
theorem dX7_see_223 : decode cX7_see 223 = .ok (.bipush (-2), 2) := by decide +kernel
theorem dX7_see_225 : decode cX7_see 225 = .ok (.iconst 2, 1) := by decide +kernel
theorem dX7_see_226 : decode cX7_see 226 = .ok (.invokestatic 86, 3) := by decide +kernel
theorem dX7_see_229 : decode cX7_see 229 = .ok (.ifCond .eq 7, 3) := by decide +kernel
theorem dX7_see_232 : decode cX7_see 232 = .ok (.iconst 1, 1) := by decide +kernel
theorem dX7_see_233 : decode cX7_see 233 = .ok (.goto 4, 3) := by decide +kernel
theorem dX7_see_236 : decode cX7_see 236 = .ok (.iconst 0, 1) := by decide +kernel
theorem dX7_see_237 : decode cX7_see 237 = .ok (.iastore, 1) := by decide +kernel
theorem dX7_see_238 : decode cX7_see 238 = .ok (.return_, 1) := by decide +kernel
theorem dX7_observe_0 : decode cX7_observe 0 = .ok (.aload_n 0, 1) := by decide +kernel
theorem dX7_observe_1 : decode cX7_observe 1 = .ok (.iconst 0, 1) := by decide +kernel
theorem dX7_observe_2 : decode cX7_observe 2 = .ok (.putfield 41, 3) := by decide +kernel
theorem dX7_observe_5 : decode cX7_observe 5 = .ok (.aload_n 0, 1) := by decide +kernel
theorem dX7_observe_6 : decode cX7_observe 6 = .ok (.iload_n 1, 1) := by decide +kernel
theorem dX7_observe_7 : decode cX7_observe 7 = .ok (.invokevirtual 115, 3) := by decide +kernel
theorem dX7_observe_10 : decode cX7_observe 10 = .ok (.ifCond .ne 9, 3) := by decide +kernel
theorem dX7_observe_13 : decode cX7_observe 13 = .ok (.aload_n 0, 1) := by decide +kernel
theorem dX7_observe_14 : decode cX7_observe 14 = .ok (.iconst 1, 1) := by decide +kernel
theorem dX7_observe_15 : decode cX7_observe 15 = .ok (.invokevirtual 95, 3) := by decide +kernel
theorem dX7_observe_18 : decode cX7_observe 18 = .ok (.ireturn, 1) := by decide +kernel
theorem dX7_observe_19 : decode cX7_observe 19 = .ok (.aload_n 0, 1) := by decide +kernel
theorem dX7_observe_20 : decode cX7_observe 20 = .ok (.getfield 20, 3) := by decide +kernel
theorem dX7_observe_23 : decode cX7_observe 23 = .ok (.iload_n 1, 1) := by decide +kernel
theorem dX7_observe_24 : decode cX7_observe 24 = .ok (.aaload, 1) := by decide +kernel
theorem dX7_observe_25 : decode cX7_observe 25 = .ok (.astore_n 2, 1) := by decide +kernel
theorem dX7_observe_26 : decode cX7_observe 26 = .ok (.aload_n 2, 1) := by decide +kernel
theorem dX7_observe_27 : decode cX7_observe 27 = .ok (.bipush 10, 2) := by decide +kernel
theorem dX7_observe_29 : decode cX7_observe 29 = .ok (.iaload, 1) := by decide +kernel
theorem dX7_observe_30 : decode cX7_observe 30 = .ok (.aload_n 0, 1) := by decide +kernel
theorem dX7_observe_31 : decode cX7_observe 31 = .ok (.getfield 64, 3) := by decide +kernel
theorem dX7_observe_34 : decode cX7_observe 34 = .ok (.if_icmp .ne 9, 3) := by decide +kernel
theorem dX7_observe_37 : decode cX7_observe 37 = .ok (.aload_n 0, 1) := by decide +kernel
theorem dX7_observe_38 : decode cX7_observe 38 = .ok (.iconst 2, 1) := by decide +kernel
theorem dX7_observe_39 : decode cX7_observe 39 = .ok (.invokevirtual 95, 3) := by decide +kernel
theorem dX7_observe_42 : decode cX7_observe 42 = .ok (.ireturn, 1) := by decide +kernel
theorem dX7_observe_43 : decode cX7_observe 43 = .ok (.aload_n 2, 1) := by decide +kernel
theorem dX7_observe_44 : decode cX7_observe 44 = .ok (.bipush 10, 2) := by decide +kernel
theorem dX7_observe_46 : decode cX7_observe 46 = .ok (.iaload, 1) := by decide +kernel
theorem dX7_observe_47 : decode cX7_observe 47 = .ok (.iconst (-1), 1) := by decide +kernel
theorem dX7_observe_48 : decode cX7_observe 48 = .ok (.if_icmp .eq 20, 3) := by decide +kernel
theorem dX7_observe_51 : decode cX7_observe 51 = .ok (.aload_n 2, 1) := by decide +kernel
theorem dX7_observe_52 : decode cX7_observe 52 = .ok (.bipush 10, 2) := by decide +kernel
theorem dX7_observe_54 : decode cX7_observe 54 = .ok (.iaload, 1) := by decide +kernel
theorem dX7_observe_55 : decode cX7_observe 55 = .ok (.aload_n 0, 1) := by decide +kernel
theorem dX7_observe_56 : decode cX7_observe 56 = .ok (.getfield 64, 3) := by decide +kernel
theorem dX7_observe_59 : decode cX7_observe 59 = .ok (.iconst 1, 1) := by decide +kernel
theorem dX7_observe_60 : decode cX7_observe 60 = .ok (.isub, 1) := by decide +kernel
theorem dX7_observe_61 : decode cX7_observe 61 = .ok (.if_icmp .ne 7, 3) := by decide +kernel
theorem dX7_observe_64 : decode cX7_observe 64 = .ok (.iconst 1, 1) := by decide +kernel
theorem dX7_observe_65 : decode cX7_observe 65 = .ok (.goto 4, 3) := by decide +kernel
theorem dX7_observe_68 : decode cX7_observe 68 = .ok (.iconst 0, 1) := by decide +kernel
theorem dX7_observe_69 : decode cX7_observe 69 = .ok (.istore_n 3, 1) := by decide +kernel
theorem dX7_observe_70 : decode cX7_observe 70 = .ok (.iload_n 3, 1) := by decide +kernel
theorem dX7_observe_71 : decode cX7_observe 71 = .ok (.ifCond .eq 15, 3) := by decide +kernel
theorem dX7_observe_74 : decode cX7_observe 74 = .ok (.aload_n 2, 1) := by decide +kernel
theorem dX7_observe_75 : decode cX7_observe 75 = .ok (.bipush 11, 2) := by decide +kernel
theorem dX7_observe_77 : decode cX7_observe 77 = .ok (.iaload, 1) := by decide +kernel
theorem dX7_observe_78 : decode cX7_observe 78 = .ok (.iconst 3, 1) := by decide +kernel
theorem dX7_observe_79 : decode cX7_observe 79 = .ok (.if_icmp .lt 7, 3) := by decide +kernel
theorem dX7_observe_82 : decode cX7_observe 82 = .ok (.iconst 1, 1) := by decide +kernel
theorem dX7_observe_83 : decode cX7_observe 83 = .ok (.goto 4, 3) := by decide +kernel
theorem dX7_observe_86 : decode cX7_observe 86 = .ok (.iconst 0, 1) := by decide +kernel
theorem dX7_observe_87 : decode cX7_observe 87 = .ok (.istore 4, 2) := by decide +kernel
theorem dX7_observe_89 : decode cX7_observe 89 = .ok (.aload_n 2, 1) := by decide +kernel
theorem dX7_observe_90 : decode cX7_observe 90 = .ok (.bipush 12, 2) := by decide +kernel
theorem dX7_observe_92 : decode cX7_observe 92 = .ok (.iaload, 1) := by decide +kernel
theorem dX7_observe_93 : decode cX7_observe 93 = .ok (.istore 5, 2) := by decide +kernel
theorem dX7_observe_95 : decode cX7_observe 95 = .ok (.aload_n 2, 1) := by decide +kernel
theorem dX7_observe_96 : decode cX7_observe 96 = .ok (.bipush 13, 2) := by decide +kernel
theorem dX7_observe_98 : decode cX7_observe 98 = .ok (.iaload, 1) := by decide +kernel
theorem dX7_observe_99 : decode cX7_observe 99 = .ok (.istore 6, 2) := by decide +kernel
theorem dX7_observe_101 : decode cX7_observe 101 = .ok (.iconst 0, 1) := by decide +kernel
theorem dX7_observe_102 : decode cX7_observe 102 = .ok (.istore 7, 2) := by decide +kernel
theorem dX7_observe_104 : decode cX7_observe 104 = .ok (.iload 7, 2) := by decide +kernel
theorem dX7_observe_106 : decode cX7_observe 106 = .ok (.aload_n 0, 1) := by decide +kernel
theorem dX7_observe_107 : decode cX7_observe 107 = .ok (.getfield 79, 3) := by decide +kernel
theorem dX7_observe_110 : decode cX7_observe 110 = .ok (.if_icmp .ge 17, 3) := by decide +kernel
theorem dX7_observe_113 : decode cX7_observe 113 = .ok (.aload_n 0, 1) := by decide +kernel
theorem dX7_observe_114 : decode cX7_observe 114 = .ok (.iload_n 1, 1) := by decide +kernel
theorem dX7_observe_115 : decode cX7_observe 115 = .ok (.iload 7, 2) := by decide +kernel
theorem dX7_observe_117 : decode cX7_observe 117 = .ok (.iload_n 3, 1) := by decide +kernel
theorem dX7_observe_118 : decode cX7_observe 118 = .ok (.invokevirtual 184, 3) := by decide +kernel
theorem dX7_observe_121 : decode cX7_observe 121 = .ok (.iinc 7 1, 3) := by decide +kernel
theorem dX7_observe_124 : decode cX7_observe 124 = .ok (.goto (-20), 3) := by decide +kernel
theorem dX7_observe_127 : decode cX7_observe 127 = .ok (.aload_n 0, 1) := by decide +kernel
theorem dX7_observe_128 : decode cX7_observe 128 = .ok (.iload_n 1, 1) := by decide +kernel
theorem dX7_observe_129 : decode cX7_observe 129 = .ok (.iconst 1, 1) := by decide +kernel
theorem dX7_observe_130 : decode cX7_observe 130 = .ok (.iconst (-1), 1) := by decide +kernel
theorem dX7_observe_131 : decode cX7_observe 131 = .ok (.invokevirtual 188, 3) := by decide +kernel
theorem dX7_observe_134 : decode cX7_observe 134 = .ok (.istore 7, 2) := by decide +kernel
theorem dX7_observe_136 : decode cX7_observe 136 = .ok (.iconst 0, 1) := by decide +kernel
theorem dX7_observe_137 : decode cX7_observe 137 = .ok (.istore 8, 2) := by decide +kernel
theorem dX7_observe_139 : decode cX7_observe 139 = .ok (.iload 8, 2) := by decide +kernel
theorem dX7_observe_141 : decode cX7_observe 141 = .ok (.aload_n 0, 1) := by decide +kernel
theorem dX7_observe_142 : decode cX7_observe 142 = .ok (.getfield 79, 3) := by decide +kernel
theorem dX7_observe_145 : decode cX7_observe 145 = .ok (.if_icmp .ge 93, 3) := by decide +kernel
theorem dX7_observe_148 : decode cX7_observe 148 = .ok (.aload_n 0, 1) := by decide +kernel
theorem dX7_observe_149 : decode cX7_observe 149 = .ok (.getfield 38, 3) := by decide +kernel
theorem dX7_observe_152 : decode cX7_observe 152 = .ok (.iload 8, 2) := by decide +kernel
theorem dX7_observe_154 : decode cX7_observe 154 = .ok (.iaload, 1) := by decide +kernel
theorem dX7_observe_155 : decode cX7_observe 155 = .ok (.ifCond .ne 6, 3) := by decide +kernel
theorem dX7_observe_158 : decode cX7_observe 158 = .ok (.goto 74, 3) := by decide +kernel
theorem dX7_observe_161 : decode cX7_observe 161 = .ok (.aload_n 0, 1) := by decide +kernel
theorem dX7_observe_162 : decode cX7_observe 162 = .ok (.getfield 25, 3) := by decide +kernel
theorem dX7_observe_165 : decode cX7_observe 165 = .ok (.iload_n 1, 1) := by decide +kernel
theorem dX7_observe_166 : decode cX7_observe 166 = .ok (.aaload, 1) := by decide +kernel
theorem dX7_observe_167 : decode cX7_observe 167 = .ok (.iload 8, 2) := by decide +kernel
theorem dX7_observe_169 : decode cX7_observe 169 = .ok (.aaload, 1) := by decide +kernel
theorem dX7_observe_170 : decode cX7_observe 170 = .ok (.astore 9, 2) := by decide +kernel
theorem dX7_observe_172 : decode cX7_observe 172 = .ok (.aload 9, 2) := by decide +kernel
theorem dX7_observe_174 : decode cX7_observe 174 = .ok (.bipush 6, 2) := by decide +kernel
theorem dX7_observe_176 : decode cX7_observe 176 = .ok (.iconst 1, 1) := by decide +kernel
theorem dX7_observe_177 : decode cX7_observe 177 = .ok (.iastore, 1) := by decide +kernel
theorem dX7_observe_178 : decode cX7_observe 178 = .ok (.aload 9, 2) := by decide +kernel
theorem dX7_observe_180 : decode cX7_observe 180 = .ok (.bipush 7, 2) := by decide +kernel
theorem dX7_observe_182 : decode cX7_observe 182 = .ok (.aload_n 0, 1) := by decide +kernel
theorem dX7_observe_183 : decode cX7_observe 183 = .ok (.iload_n 1, 1) := by decide +kernel
theorem dX7_observe_184 : decode cX7_observe 184 = .ok (.iload 8, 2) := by decide +kernel
theorem dX7_observe_186 : decode cX7_observe 186 = .ok (.invokevirtual 176, 3) := by decide +kernel
theorem dX7_observe_189 : decode cX7_observe 189 = .ok (.iastore, 1) := by decide +kernel
theorem dX7_observe_190 : decode cX7_observe 190 = .ok (.aload 9, 2) := by decide +kernel
theorem dX7_observe_192 : decode cX7_observe 192 = .ok (.bipush 10, 2) := by decide +kernel
theorem dX7_observe_194 : decode cX7_observe 194 = .ok (.aload_n 0, 1) := by decide +kernel
theorem dX7_observe_195 : decode cX7_observe 195 = .ok (.getfield 35, 3) := by decide +kernel
theorem dX7_observe_198 : decode cX7_observe 198 = .ok (.iload 8, 2) := by decide +kernel
theorem dX7_observe_200 : decode cX7_observe 200 = .ok (.iaload, 1) := by decide +kernel
theorem dX7_observe_201 : decode cX7_observe 201 = .ok (.aload 9, 2) := by decide +kernel
theorem dX7_observe_203 : decode cX7_observe 203 = .ok (.bipush 7, 2) := by decide +kernel
theorem dX7_observe_205 : decode cX7_observe 205 = .ok (.iaload, 1) := by decide +kernel
theorem dX7_observe_206 : decode cX7_observe 206 = .ok (.iadd, 1) := by decide +kernel
theorem dX7_observe_207 : decode cX7_observe 207 = .ok (.aload_n 2, 1) := by decide +kernel
theorem dX7_observe_208 : decode cX7_observe 208 = .ok (.iconst 0, 1) := by decide +kernel
theorem dX7_observe_209 : decode cX7_observe 209 = .ok (.iaload, 1) := by decide +kernel
theorem dX7_observe_210 : decode cX7_observe 210 = .ok (.aload_n 2, 1) := by decide +kernel
theorem dX7_observe_211 : decode cX7_observe 211 = .ok (.iconst 1, 1) := by decide +kernel
theorem dX7_observe_212 : decode cX7_observe 212 = .ok (.iaload, 1) := by decide +kernel
theorem dX7_observe_213 : decode cX7_observe 213 = .ok (.aload_n 0, 1) := by decide +kernel
theorem dX7_observe_214 : decode cX7_observe 214 = .ok (.getfield 28, 3) := by decide +kernel
theorem dX7_observe_217 : decode cX7_observe 217 = .ok (.iload 8, 2) := by decide +kernel
theorem dX7_observe_219 : decode cX7_observe 219 = .ok (.iaload, 1) := by decide +kernel
theorem dX7_observe_220 : decode cX7_observe 220 = .ok (.aload_n 0, 1) := by decide +kernel
theorem dX7_observe_221 : decode cX7_observe 221 = .ok (.getfield 32, 3) := by decide +kernel
theorem dX7_observe_224 : decode cX7_observe 224 = .ok (.iload 8, 2) := by decide +kernel
theorem dX7_observe_226 : decode cX7_observe 226 = .ok (.iaload, 1) := by decide +kernel
theorem dX7_observe_227 : decode cX7_observe 227 = .ok (.invokestatic 118, 3) := by decide +kernel
theorem dX7_observe_230 : decode cX7_observe 230 = .ok (.isub, 1) := by decide +kernel
theorem dX7_observe_231 : decode cX7_observe 231 = .ok (.iastore, 1) := by decide +kernel
theorem dX7_observe_232 : decode cX7_observe 232 = .ok (.iinc 8 1, 3) := by decide +kernel
theorem dX7_observe_235 : decode cX7_observe 235 = .ok (.goto (-96), 3) := by decide +kernel
theorem dX7_observe_238 : decode cX7_observe 238 = .ok (.aload_n 2, 1) := by decide +kernel
theorem dX7_observe_239 : decode cX7_observe 239 = .ok (.bipush 10, 2) := by decide +kernel
theorem dX7_observe_241 : decode cX7_observe 241 = .ok (.aload_n 0, 1) := by decide +kernel
theorem dX7_observe_242 : decode cX7_observe 242 = .ok (.getfield 64, 3) := by decide +kernel
theorem dX7_observe_245 : decode cX7_observe 245 = .ok (.iastore, 1) := by decide +kernel
theorem dX7_observe_246 : decode cX7_observe 246 = .ok (.aload_n 2, 1) := by decide +kernel
theorem dX7_observe_247 : decode cX7_observe 247 = .ok (.bipush 11, 2) := by decide +kernel
theorem dX7_observe_249 : decode cX7_observe 249 = .ok (.iload 7, 2) := by decide +kernel
theorem dX7_observe_251 : decode cX7_observe 251 = .ok (.iastore, 1) := by decide +kernel
theorem dX7_observe_252 : decode cX7_observe 252 = .ok (.aload_n 0, 1) := by decide +kernel
theorem dX7_observe_253 : decode cX7_observe 253 = .ok (.dup, 1) := by decide +kernel
theorem dX7_observe_254 : decode cX7_observe 254 = .ok (.getfield 192, 3) := by decide +kernel
theorem dX7_observe_257 : decode cX7_observe 257 = .ok (.iconst 1, 1) := by decide +kernel
theorem dX7_observe_258 : decode cX7_observe 258 = .ok (.iadd, 1) := by decide +kernel
theorem dX7_observe_259 : decode cX7_observe 259 = .ok (.putfield 192, 3) := by decide +kernel
theorem dX7_observe_262 : decode cX7_observe 262 = .ok (.aload_n 2, 1) := by decide +kernel
theorem dX7_observe_263 : decode cX7_observe 263 = .ok (.bipush 16, 2) := by decide +kernel
theorem dX7_observe_265 : decode cX7_observe 265 = .ok (.bipush 99, 2) := by decide +kernel
theorem dX7_observe_267 : decode cX7_observe 267 = .ok (.iastore, 1) := by decide +kernel
theorem dX7_observe_268 : decode cX7_observe 268 = .ok (.aload_n 2, 1) := by decide +kernel
theorem dX7_observe_269 : decode cX7_observe 269 = .ok (.bipush 17, 2) := by decide +kernel
theorem dX7_observe_271 : decode cX7_observe 271 = .ok (.iconst 1, 1) := by decide +kernel
theorem dX7_observe_272 : decode cX7_observe 272 = .ok (.iastore, 1) := by decide +kernel
theorem dX7_observe_273 : decode cX7_observe 273 = .ok (.iload 7, 2) := by decide +kernel
theorem dX7_observe_275 : decode cX7_observe 275 = .ok (.iconst 3, 1) := by decide +kernel
theorem dX7_observe_276 : decode cX7_observe 276 = .ok (.if_icmp .lt 30, 3) := by decide +kernel
theorem dX7_observe_279 : decode cX7_observe 279 = .ok (.aload_n 0, 1) := by decide +kernel
theorem dX7_observe_280 : decode cX7_observe 280 = .ok (.iload_n 1, 1) := by decide +kernel
theorem dX7_observe_281 : decode cX7_observe 281 = .ok (.iload 7, 2) := by decide +kernel
theorem dX7_observe_283 : decode cX7_observe 283 = .ok (.iload 4, 2) := by decide +kernel
theorem dX7_observe_285 : decode cX7_observe 285 = .ok (.ifCond .eq 13, 3) := by decide +kernel
theorem dX7_observe_288 : decode cX7_observe 288 = .ok (.iload 7, 2) := by decide +kernel
theorem dX7_observe_290 : decode cX7_observe 290 = .ok (.iconst 4, 1) := by decide +kernel
theorem dX7_observe_291 : decode cX7_observe 291 = .ok (.if_icmp .lt 7, 3) := by decide +kernel
theorem dX7_observe_294 : decode cX7_observe 294 = .ok (.iconst 1, 1) := by decide +kernel
theorem dX7_observe_295 : decode cX7_observe 295 = .ok (.goto 4, 3) := by decide +kernel
theorem dX7_observe_298 : decode cX7_observe 298 = .ok (.iconst 0, 1) := by decide +kernel
theorem dX7_observe_299 : decode cX7_observe 299 = .ok (.iload 5, 2) := by decide +kernel
theorem dX7_observe_301 : decode cX7_observe 301 = .ok (.iload 6, 2) := by decide +kernel
theorem dX7_observe_303 : decode cX7_observe 303 = .ok (.invokevirtual 195, 3) := by decide +kernel
theorem dX7_observe_306 : decode cX7_observe 306 = .ok (.aload_n 2, 1) := by decide +kernel
theorem dX7_observe_307 : decode cX7_observe 307 = .ok (.bipush 17, 2) := by decide +kernel
theorem dX7_observe_309 : decode cX7_observe 309 = .ok (.iaload, 1) := by decide +kernel
theorem dX7_observe_310 : decode cX7_observe 310 = .ok (.ifCond .le 11, 3) := by decide +kernel
theorem dX7_observe_313 : decode cX7_observe 313 = .ok (.aload_n 2, 1) := by decide +kernel
theorem dX7_observe_314 : decode cX7_observe 314 = .ok (.bipush 19, 2) := by decide +kernel
theorem dX7_observe_316 : decode cX7_observe 316 = .ok (.aload_n 0, 1) := by decide +kernel
theorem dX7_observe_317 : decode cX7_observe 317 = .ok (.getfield 64, 3) := by decide +kernel
theorem dX7_observe_320 : decode cX7_observe 320 = .ok (.iastore, 1) := by decide +kernel
theorem dX7_observe_321 : decode cX7_observe 321 = .ok (.aload_n 2, 1) := by decide +kernel
theorem dX7_observe_322 : decode cX7_observe 322 = .ok (.bipush 17, 2) := by decide +kernel
theorem dX7_observe_324 : decode cX7_observe 324 = .ok (.iaload, 1) := by decide +kernel
theorem dX7_observe_325 : decode cX7_observe 325 = .ok (.ireturn, 1) := by decide +kernel
theorem dX7_place_0 : decode cX7_place 0 = .ok (.aload_n 0, 1) := by decide +kernel
theorem dX7_place_1 : decode cX7_place 1 = .ok (.getfield 20, 3) := by decide +kernel
theorem dX7_place_4 : decode cX7_place 4 = .ok (.iload_n 1, 1) := by decide +kernel
theorem dX7_place_5 : decode cX7_place 5 = .ok (.aaload, 1) := by decide +kernel
theorem dX7_place_6 : decode cX7_place 6 = .ok (.astore 6, 2) := by decide +kernel
theorem dX7_place_8 : decode cX7_place 8 = .ok (.aload_n 0, 1) := by decide +kernel
theorem dX7_place_9 : decode cX7_place 9 = .ok (.invokevirtual 179, 3) := by decide +kernel
theorem dX7_place_12 : decode cX7_place 12 = .ok (.aload 6, 2) := by decide +kernel
theorem dX7_place_14 : decode cX7_place 14 = .ok (.bipush 12, 2) := by decide +kernel
theorem dX7_place_16 : decode cX7_place 16 = .ok (.aload_n 0, 1) := by decide +kernel
theorem dX7_place_17 : decode cX7_place 17 = .ok (.getfield 155, 3) := by decide +kernel
theorem dX7_place_20 : decode cX7_place 20 = .ok (.iastore, 1) := by decide +kernel
theorem dX7_place_21 : decode cX7_place 21 = .ok (.aload 6, 2) := by decide +kernel
theorem dX7_place_23 : decode cX7_place 23 = .ok (.bipush 13, 2) := by decide +kernel
theorem dX7_place_25 : decode cX7_place 25 = .ok (.aload_n 0, 1) := by decide +kernel
theorem dX7_place_26 : decode cX7_place 26 = .ok (.getfield 158, 3) := by decide +kernel
theorem dX7_place_29 : decode cX7_place 29 = .ok (.iastore, 1) := by decide +kernel
theorem dX7_place_30 : decode cX7_place 30 = .ok (.aload 6, 2) := by decide +kernel
theorem dX7_place_32 : decode cX7_place 32 = .ok (.bipush 14, 2) := by decide +kernel
theorem dX7_place_34 : decode cX7_place 34 = .ok (.aload_n 0, 1) := by decide +kernel
theorem dX7_place_35 : decode cX7_place 35 = .ok (.getfield 161, 3) := by decide +kernel
theorem dX7_place_38 : decode cX7_place 38 = .ok (.iastore, 1) := by decide +kernel
theorem dX7_place_39 : decode cX7_place 39 = .ok (.aload 6, 2) := by decide +kernel
theorem dX7_place_41 : decode cX7_place 41 = .ok (.bipush 15, 2) := by decide +kernel
theorem dX7_place_43 : decode cX7_place 43 = .ok (.aload_n 0, 1) := by decide +kernel
theorem dX7_place_44 : decode cX7_place 44 = .ok (.getfield 144, 3) := by decide +kernel
theorem dX7_place_47 : decode cX7_place 47 = .ok (.l2i, 1) := by decide +kernel
theorem dX7_place_48 : decode cX7_place 48 = .ok (.iastore, 1) := by decide +kernel
theorem dX7_place_49 : decode cX7_place 49 = .ok (.aload 6, 2) := by decide +kernel
theorem dX7_place_51 : decode cX7_place 51 = .ok (.bipush 16, 2) := by decide +kernel
theorem dX7_place_53 : decode cX7_place 53 = .ok (.aload_n 0, 1) := by decide +kernel
theorem dX7_place_54 : decode cX7_place 54 = .ok (.iload_n 2, 1) := by decide +kernel
theorem dX7_place_55 : decode cX7_place 55 = .ok (.invokevirtual 199, 3) := by decide +kernel
theorem dX7_place_58 : decode cX7_place 58 = .ok (.iastore, 1) := by decide +kernel
theorem dX7_place_59 : decode cX7_place 59 = .ok (.aload 6, 2) := by decide +kernel
theorem dX7_place_61 : decode cX7_place 61 = .ok (.bipush 17, 2) := by decide +kernel
theorem dX7_place_63 : decode cX7_place 63 = .ok (.aload_n 0, 1) := by decide +kernel
theorem dX7_place_64 : decode cX7_place 64 = .ok (.iload_n 1, 1) := by decide +kernel
theorem dX7_place_65 : decode cX7_place 65 = .ok (.iload_n 2, 1) := by decide +kernel
theorem dX7_place_66 : decode cX7_place 66 = .ok (.aload 6, 2) := by decide +kernel
theorem dX7_place_68 : decode cX7_place 68 = .ok (.bipush 16, 2) := by decide +kernel
theorem dX7_place_70 : decode cX7_place 70 = .ok (.iaload, 1) := by decide +kernel
theorem dX7_place_71 : decode cX7_place 71 = .ok (.invokevirtual 202, 3) := by decide +kernel
theorem dX7_place_74 : decode cX7_place 74 = .ok (.iastore, 1) := by decide +kernel
theorem dX7_place_75 : decode cX7_place 75 = .ok (.aload 6, 2) := by decide +kernel
theorem dX7_place_77 : decode cX7_place 77 = .ok (.bipush 17, 2) := by decide +kernel
theorem dX7_place_79 : decode cX7_place 79 = .ok (.iaload, 1) := by decide +kernel
theorem dX7_place_80 : decode cX7_place 80 = .ok (.ifCond .ne 32, 3) := by decide +kernel
theorem dX7_place_83 : decode cX7_place 83 = .ok (.iload_n 3, 1) := by decide +kernel
theorem dX7_place_84 : decode cX7_place 84 = .ok (.ifCond .eq 28, 3) := by decide +kernel
theorem dX7_place_87 : decode cX7_place 87 = .ok (.iload 4, 2) := by decide +kernel
theorem dX7_place_89 : decode cX7_place 89 = .ok (.iload 5, 2) := by decide +kernel
theorem dX7_place_91 : decode cX7_place 91 = .ok (.aload_n 0, 1) := by decide +kernel
theorem dX7_place_92 : decode cX7_place 92 = .ok (.getfield 155, 3) := by decide +kernel
theorem dX7_place_95 : decode cX7_place 95 = .ok (.aload_n 0, 1) := by decide +kernel
theorem dX7_place_96 : decode cX7_place 96 = .ok (.getfield 158, 3) := by decide +kernel
theorem dX7_place_99 : decode cX7_place 99 = .ok (.invokestatic 118, 3) := by decide +kernel
theorem dX7_place_102 : decode cX7_place 102 = .ok (.iconst 4, 1) := by decide +kernel
theorem dX7_place_103 : decode cX7_place 103 = .ok (.if_icmp .le 9, 3) := by decide +kernel
theorem dX7_place_106 : decode cX7_place 106 = .ok (.aload 6, 2) := by decide +kernel
theorem dX7_place_108 : decode cX7_place 108 = .ok (.bipush 17, 2) := by decide +kernel
theorem dX7_place_110 : decode cX7_place 110 = .ok (.iconst 4, 1) := by decide +kernel
theorem dX7_place_111 : decode cX7_place 111 = .ok (.iastore, 1) := by decide +kernel
theorem dX7_place_112 : decode cX7_place 112 = .ok (.aload 6, 2) := by decide +kernel
theorem dX7_place_114 : decode cX7_place 114 = .ok (.iconst 0, 1) := by decide +kernel
theorem dX7_place_115 : decode cX7_place 115 = .ok (.iaload, 1) := by decide +kernel
theorem dX7_place_116 : decode cX7_place 116 = .ok (.aload 6, 2) := by decide +kernel
theorem dX7_place_118 : decode cX7_place 118 = .ok (.iconst 1, 1) := by decide +kernel
theorem dX7_place_119 : decode cX7_place 119 = .ok (.iaload, 1) := by decide +kernel
theorem dX7_place_120 : decode cX7_place 120 = .ok (.aload_n 0, 1) := by decide +kernel
theorem dX7_place_121 : decode cX7_place 121 = .ok (.getfield 155, 3) := by decide +kernel
theorem dX7_place_124 : decode cX7_place 124 = .ok (.aload_n 0, 1) := by decide +kernel
theorem dX7_place_125 : decode cX7_place 125 = .ok (.getfield 158, 3) := by decide +kernel
theorem dX7_place_128 : decode cX7_place 128 = .ok (.invokestatic 118, 3) := by decide +kernel
theorem dX7_place_131 : decode cX7_place 131 = .ok (.istore 7, 2) := by decide +kernel
theorem dX7_place_133 : decode cX7_place 133 = .ok (.aload 6, 2) := by decide +kernel
theorem dX7_place_135 : decode cX7_place 135 = .ok (.bipush 20, 2) := by decide +kernel
theorem dX7_place_137 : decode cX7_place 137 = .ok (.dup2, 1) := by decide +kernel
theorem dX7_place_138 : decode cX7_place 138 = .ok (.iaload, 1) := by decide +kernel
theorem dX7_place_139 : decode cX7_place 139 = .ok (.iconst 1, 1) := by decide +kernel
theorem dX7_place_140 : decode cX7_place 140 = .ok (.iadd, 1) := by decide +kernel
theorem dX7_place_141 : decode cX7_place 141 = .ok (.iastore, 1) := by decide +kernel
theorem dX7_place_142 : decode cX7_place 142 = .ok (.aload 6, 2) := by decide +kernel
theorem dX7_place_144 : decode cX7_place 144 = .ok (.bipush 21, 2) := by decide +kernel
theorem dX7_place_146 : decode cX7_place 146 = .ok (.dup2, 1) := by decide +kernel
theorem dX7_place_147 : decode cX7_place 147 = .ok (.iaload, 1) := by decide +kernel
theorem dX7_place_148 : decode cX7_place 148 = .ok (.iload 7, 2) := by decide +kernel
theorem dX7_place_150 : decode cX7_place 150 = .ok (.iadd, 1) := by decide +kernel
theorem dX7_place_151 : decode cX7_place 151 = .ok (.iastore, 1) := by decide +kernel
theorem dX7_place_152 : decode cX7_place 152 = .ok (.aload 6, 2) := by decide +kernel
theorem dX7_place_154 : decode cX7_place 154 = .ok (.bipush 17, 2) := by decide +kernel
theorem dX7_place_156 : decode cX7_place 156 = .ok (.iaload, 1) := by decide +kernel
theorem dX7_place_157 : decode cX7_place 157 = .ok (.ifCond .ne 22, 3) := by decide +kernel
theorem dX7_place_160 : decode cX7_place 160 = .ok (.iload 7, 2) := by decide +kernel
theorem dX7_place_162 : decode cX7_place 162 = .ok (.aload 6, 2) := by decide +kernel
theorem dX7_place_164 : decode cX7_place 164 = .ok (.bipush 16, 2) := by decide +kernel
theorem dX7_place_166 : decode cX7_place 166 = .ok (.iaload, 1) := by decide +kernel
theorem dX7_place_167 : decode cX7_place 167 = .ok (.if_icmp .le 12, 3) := by decide +kernel
theorem dX7_place_170 : decode cX7_place 170 = .ok (.aload 6, 2) := by decide +kernel
theorem dX7_place_172 : decode cX7_place 172 = .ok (.bipush 18, 2) := by decide +kernel
theorem dX7_place_174 : decode cX7_place 174 = .ok (.dup2, 1) := by decide +kernel
theorem dX7_place_175 : decode cX7_place 175 = .ok (.iaload, 1) := by decide +kernel
theorem dX7_place_176 : decode cX7_place 176 = .ok (.iconst 1, 1) := by decide +kernel
theorem dX7_place_177 : decode cX7_place 177 = .ok (.iadd, 1) := by decide +kernel
theorem dX7_place_178 : decode cX7_place 178 = .ok (.iastore, 1) := by decide +kernel
theorem dX7_place_179 : decode cX7_place 179 = .ok (.return_, 1) := by decide +kernel
theorem dX7_ofStarNow_0 : decode cX7_ofStarNow 0 = .ok (.aload_n 0, 1) := by decide +kernel
theorem dX7_ofStarNow_1 : decode cX7_ofStarNow 1 = .ok (.getfield 11, 3) := by decide +kernel
theorem dX7_ofStarNow_4 : decode cX7_ofStarNow 4 = .ok (.iload_n 1, 1) := by decide +kernel
theorem dX7_ofStarNow_5 : decode cX7_ofStarNow 5 = .ok (.aaload, 1) := by decide +kernel
theorem dX7_ofStarNow_6 : decode cX7_ofStarNow 6 = .ok (.astore_n 3, 1) := by decide +kernel
theorem dX7_ofStarNow_7 : decode cX7_ofStarNow 7 = .ok (.iload_n 2, 1) := by decide +kernel
theorem dX7_ofStarNow_8 : decode cX7_ofStarNow 8 = .ok (.bipush 6, 2) := by decide +kernel
theorem dX7_ofStarNow_10 : decode cX7_ofStarNow 10 = .ok (.if_icmp .ge 9, 3) := by decide +kernel
theorem dX7_ofStarNow_13 : decode cX7_ofStarNow 13 = .ok (.aload_n 3, 1) := by decide +kernel
theorem dX7_ofStarNow_14 : decode cX7_ofStarNow 14 = .ok (.iload_n 2, 1) := by decide +kernel
theorem dX7_ofStarNow_15 : decode cX7_ofStarNow 15 = .ok (.iaload, 1) := by decide +kernel
theorem dX7_ofStarNow_16 : decode cX7_ofStarNow 16 = .ok (.goto 28, 3) := by decide +kernel
theorem dX7_ofStarNow_19 : decode cX7_ofStarNow 19 = .ok (.iload_n 2, 1) := by decide +kernel
theorem dX7_ofStarNow_20 : decode cX7_ofStarNow 20 = .ok (.bipush 6, 2) := by decide +kernel
theorem dX7_ofStarNow_22 : decode cX7_ofStarNow 22 = .ok (.if_icmp .ne 14, 3) := by decide +kernel
theorem dX7_ofStarNow_25 : decode cX7_ofStarNow 25 = .ok (.aload_n 0, 1) := by decide +kernel
theorem dX7_ofStarNow_26 : decode cX7_ofStarNow 26 = .ok (.iload_n 1, 1) := by decide +kernel
theorem dX7_ofStarNow_27 : decode cX7_ofStarNow 27 = .ok (.aload_n 3, 1) := by decide +kernel
theorem dX7_ofStarNow_28 : decode cX7_ofStarNow 28 = .ok (.iconst 1, 1) := by decide +kernel
theorem dX7_ofStarNow_29 : decode cX7_ofStarNow 29 = .ok (.iaload, 1) := by decide +kernel
theorem dX7_ofStarNow_30 : decode cX7_ofStarNow 30 = .ok (.invokevirtual 76, 3) := by decide +kernel
theorem dX7_ofStarNow_33 : decode cX7_ofStarNow 33 = .ok (.goto 11, 3) := by decide +kernel
theorem dX7_ofStarNow_36 : decode cX7_ofStarNow 36 = .ok (.aload_n 0, 1) := by decide +kernel
theorem dX7_ofStarNow_37 : decode cX7_ofStarNow 37 = .ok (.iload_n 1, 1) := by decide +kernel
theorem dX7_ofStarNow_38 : decode cX7_ofStarNow 38 = .ok (.aload_n 3, 1) := by decide +kernel
theorem dX7_ofStarNow_39 : decode cX7_ofStarNow 39 = .ok (.iconst 1, 1) := by decide +kernel
theorem dX7_ofStarNow_40 : decode cX7_ofStarNow 40 = .ok (.iaload, 1) := by decide +kernel
theorem dX7_ofStarNow_41 : decode cX7_ofStarNow 41 = .ok (.invokevirtual 73, 3) := by decide +kernel
theorem dX7_ofStarNow_44 : decode cX7_ofStarNow 44 = .ok (.ireturn, 1) := by decide +kernel
theorem dX7_ofStar_0 : decode cX7_ofStar 0 = .ok (.aload_n 0, 1) := by decide +kernel
theorem dX7_ofStar_1 : decode cX7_ofStar 1 = .ok (.iconst 0, 1) := by decide +kernel
theorem dX7_ofStar_2 : decode cX7_ofStar 2 = .ok (.putfield 41, 3) := by decide +kernel
theorem dX7_ofStar_5 : decode cX7_ofStar 5 = .ok (.aload_n 0, 1) := by decide +kernel
theorem dX7_ofStar_6 : decode cX7_ofStar 6 = .ok (.iload_n 1, 1) := by decide +kernel
theorem dX7_ofStar_7 : decode cX7_ofStar 7 = .ok (.invokevirtual 98, 3) := by decide +kernel
theorem dX7_ofStar_10 : decode cX7_ofStar 10 = .ok (.ifCond .ne 9, 3) := by decide +kernel
theorem dX7_ofStar_13 : decode cX7_ofStar 13 = .ok (.aload_n 0, 1) := by decide +kernel
theorem dX7_ofStar_14 : decode cX7_ofStar 14 = .ok (.iconst 1, 1) := by decide +kernel
theorem dX7_ofStar_15 : decode cX7_ofStar 15 = .ok (.invokevirtual 95, 3) := by decide +kernel
theorem dX7_ofStar_18 : decode cX7_ofStar 18 = .ok (.ireturn, 1) := by decide +kernel
theorem dX7_ofStar_19 : decode cX7_ofStar 19 = .ok (.iload_n 2, 1) := by decide +kernel
theorem dX7_ofStar_20 : decode cX7_ofStar 20 = .ok (.iconst 0, 1) := by decide +kernel
theorem dX7_ofStar_21 : decode cX7_ofStar 21 = .ok (.bipush 7, 2) := by decide +kernel
theorem dX7_ofStar_23 : decode cX7_ofStar 23 = .ok (.invokestatic 86, 3) := by decide +kernel
theorem dX7_ofStar_26 : decode cX7_ofStar 26 = .ok (.ifCond .eq 12, 3) := by decide +kernel
theorem dX7_ofStar_29 : decode cX7_ofStar 29 = .ok (.aload_n 0, 1) := by decide +kernel
theorem dX7_ofStar_30 : decode cX7_ofStar 30 = .ok (.iload_n 1, 1) := by decide +kernel
theorem dX7_ofStar_31 : decode cX7_ofStar 31 = .ok (.iload_n 2, 1) := by decide +kernel
theorem dX7_ofStar_32 : decode cX7_ofStar 32 = .ok (.invokevirtual 205, 3) := by decide +kernel
theorem dX7_ofStar_35 : decode cX7_ofStar 35 = .ok (.goto 8, 3) := by decide +kernel
theorem dX7_ofStar_38 : decode cX7_ofStar 38 = .ok (.aload_n 0, 1) := by decide +kernel
theorem dX7_ofStar_39 : decode cX7_ofStar 39 = .ok (.iconst 2, 1) := by decide +kernel
theorem dX7_ofStar_40 : decode cX7_ofStar 40 = .ok (.invokevirtual 95, 3) := by decide +kernel
theorem dX7_ofStar_43 : decode cX7_ofStar 43 = .ok (.ireturn, 1) := by decide +kernel
theorem dX7_messageNow_0 : decode cX7_messageNow 0 = .ok (.aload_n 0, 1) := by decide +kernel
theorem dX7_messageNow_1 : decode cX7_messageNow 1 = .ok (.getfield 14, 3) := by decide +kernel
theorem dX7_messageNow_4 : decode cX7_messageNow 4 = .ok (.iload_n 1, 1) := by decide +kernel
theorem dX7_messageNow_5 : decode cX7_messageNow 5 = .ok (.aaload, 1) := by decide +kernel
theorem dX7_messageNow_6 : decode cX7_messageNow 6 = .ok (.astore_n 3, 1) := by decide +kernel
theorem dX7_messageNow_7 : decode cX7_messageNow 7 = .ok (.iload_n 2, 1) := by decide +kernel
theorem dX7_messageNow_8 : decode cX7_messageNow 8 = .ok (.iconst 5, 1) := by decide +kernel
theorem dX7_messageNow_9 : decode cX7_messageNow 9 = .ok (.if_icmp .ge 7, 3) := by decide +kernel
theorem dX7_messageNow_12 : decode cX7_messageNow 12 = .ok (.aload_n 3, 1) := by decide +kernel
theorem dX7_messageNow_13 : decode cX7_messageNow 13 = .ok (.iload_n 2, 1) := by decide +kernel
theorem dX7_messageNow_14 : decode cX7_messageNow 14 = .ok (.iaload, 1) := by decide +kernel
theorem dX7_messageNow_15 : decode cX7_messageNow 15 = .ok (.ireturn, 1) := by decide +kernel
theorem dX7_messageNow_16 : decode cX7_messageNow 16 = .ok (.iload_n 2, 1) := by decide +kernel
theorem dX7_messageNow_17 : decode cX7_messageNow 17 = .ok (.iconst 5, 1) := by decide +kernel
theorem dX7_messageNow_18 : decode cX7_messageNow 18 = .ok (.if_icmp .ne 17, 3) := by decide +kernel
theorem dX7_messageNow_21 : decode cX7_messageNow 21 = .ok (.aload_n 0, 1) := by decide +kernel
theorem dX7_messageNow_22 : decode cX7_messageNow 22 = .ok (.iload_n 1, 1) := by decide +kernel
theorem dX7_messageNow_23 : decode cX7_messageNow 23 = .ok (.invokevirtual 164, 3) := by decide +kernel
theorem dX7_messageNow_26 : decode cX7_messageNow 26 = .ok (.ifCond .eq 7, 3) := by decide +kernel
theorem dX7_messageNow_29 : decode cX7_messageNow 29 = .ok (.iconst 1, 1) := by decide +kernel
theorem dX7_messageNow_30 : decode cX7_messageNow 30 = .ok (.goto 4, 3) := by decide +kernel
theorem dX7_messageNow_33 : decode cX7_messageNow 33 = .ok (.iconst 0, 1) := by decide +kernel
theorem dX7_messageNow_34 : decode cX7_messageNow 34 = .ok (.ireturn, 1) := by decide +kernel
theorem dX7_messageNow_35 : decode cX7_messageNow 35 = .ok (.aload_n 3, 1) := by decide +kernel
theorem dX7_messageNow_36 : decode cX7_messageNow 36 = .ok (.iconst 0, 1) := by decide +kernel
theorem dX7_messageNow_37 : decode cX7_messageNow 37 = .ok (.iaload, 1) := by decide +kernel
theorem dX7_messageNow_38 : decode cX7_messageNow 38 = .ok (.ifCond .ne 5, 3) := by decide +kernel
theorem dX7_messageNow_41 : decode cX7_messageNow 41 = .ok (.iconst 0, 1) := by decide +kernel
theorem dX7_messageNow_42 : decode cX7_messageNow 42 = .ok (.ireturn, 1) := by decide +kernel
theorem dX7_messageNow_43 : decode cX7_messageNow 43 = .ok (.iload_n 2, 1) := by decide +kernel
theorem dX7_messageNow_44 : decode cX7_messageNow 44 = .ok (.bipush 6, 2) := by decide +kernel
theorem dX7_messageNow_46 : decode cX7_messageNow 46 = .ok (.if_icmp .ne 21, 3) := by decide +kernel
theorem dX7_messageNow_49 : decode cX7_messageNow 49 = .ok (.aload_n 0, 1) := by decide +kernel
theorem dX7_messageNow_50 : decode cX7_messageNow 50 = .ok (.iload_n 1, 1) := by decide +kernel
theorem dX7_messageNow_51 : decode cX7_messageNow 51 = .ok (.invokevirtual 173, 3) := by decide +kernel
theorem dX7_messageNow_54 : decode cX7_messageNow 54 = .ok (.aload_n 0, 1) := by decide +kernel
theorem dX7_messageNow_55 : decode cX7_messageNow 55 = .ok (.getfield 11, 3) := by decide +kernel
theorem dX7_messageNow_58 : decode cX7_messageNow 58 = .ok (.iload_n 1, 1) := by decide +kernel
theorem dX7_messageNow_59 : decode cX7_messageNow 59 = .ok (.aaload, 1) := by decide +kernel
theorem dX7_messageNow_60 : decode cX7_messageNow 60 = .ok (.iconst 3, 1) := by decide +kernel
theorem dX7_messageNow_61 : decode cX7_messageNow 61 = .ok (.iaload, 1) := by decide +kernel
theorem dX7_messageNow_62 : decode cX7_messageNow 62 = .ok (.isub, 1) := by decide +kernel
theorem dX7_messageNow_63 : decode cX7_messageNow 63 = .ok (.invokestatic 61, 3) := by decide +kernel
theorem dX7_messageNow_66 : decode cX7_messageNow 66 = .ok (.ireturn, 1) := by decide +kernel
theorem dX7_messageNow_67 : decode cX7_messageNow 67 = .ok (.aload_n 0, 1) := by decide +kernel
theorem dX7_messageNow_68 : decode cX7_messageNow 68 = .ok (.iload_n 1, 1) := by decide +kernel
theorem dX7_messageNow_69 : decode cX7_messageNow 69 = .ok (.aload_n 0, 1) := by decide +kernel
theorem dX7_messageNow_70 : decode cX7_messageNow 70 = .ok (.iload_n 1, 1) := by decide +kernel
theorem dX7_messageNow_71 : decode cX7_messageNow 71 = .ok (.invokevirtual 167, 3) := by decide +kernel
theorem dX7_messageNow_74 : decode cX7_messageNow 74 = .ok (.invokevirtual 76, 3) := by decide +kernel
theorem dX7_messageNow_77 : decode cX7_messageNow 77 = .ok (.aload_n 0, 1) := by decide +kernel
theorem dX7_messageNow_78 : decode cX7_messageNow 78 = .ok (.iload_n 1, 1) := by decide +kernel
theorem dX7_messageNow_79 : decode cX7_messageNow 79 = .ok (.aload_n 0, 1) := by decide +kernel
theorem dX7_messageNow_80 : decode cX7_messageNow 80 = .ok (.iload_n 1, 1) := by decide +kernel
theorem dX7_messageNow_81 : decode cX7_messageNow 81 = .ok (.invokevirtual 167, 3) := by decide +kernel
theorem dX7_messageNow_84 : decode cX7_messageNow 84 = .ok (.invokevirtual 73, 3) := by decide +kernel
theorem dX7_messageNow_87 : decode cX7_messageNow 87 = .ok (.aload_n 0, 1) := by decide +kernel
theorem dX7_messageNow_88 : decode cX7_messageNow 88 = .ok (.iload_n 1, 1) := by decide +kernel
theorem dX7_messageNow_89 : decode cX7_messageNow 89 = .ok (.bipush 6, 2) := by decide +kernel
theorem dX7_messageNow_91 : decode cX7_messageNow 91 = .ok (.invokevirtual 205, 3) := by decide +kernel
theorem dX7_messageNow_94 : decode cX7_messageNow 94 = .ok (.aload_n 0, 1) := by decide +kernel
theorem dX7_messageNow_95 : decode cX7_messageNow 95 = .ok (.iload_n 1, 1) := by decide +kernel
theorem dX7_messageNow_96 : decode cX7_messageNow 96 = .ok (.bipush 7, 2) := by decide +kernel
theorem dX7_messageNow_98 : decode cX7_messageNow 98 = .ok (.invokevirtual 205, 3) := by decide +kernel
theorem dX7_messageNow_101 : decode cX7_messageNow 101 = .ok (.invokestatic 118, 3) := by decide +kernel
theorem dX7_messageNow_104 : decode cX7_messageNow 104 = .ok (.ireturn, 1) := by decide +kernel
theorem dX7_message_0 : decode cX7_message 0 = .ok (.aload_n 0, 1) := by decide +kernel
theorem dX7_message_1 : decode cX7_message 1 = .ok (.iconst 0, 1) := by decide +kernel
theorem dX7_message_2 : decode cX7_message 2 = .ok (.putfield 41, 3) := by decide +kernel
theorem dX7_message_5 : decode cX7_message 5 = .ok (.aload_n 0, 1) := by decide +kernel
theorem dX7_message_6 : decode cX7_message 6 = .ok (.iload_n 1, 1) := by decide +kernel
theorem dX7_message_7 : decode cX7_message 7 = .ok (.invokevirtual 98, 3) := by decide +kernel
theorem dX7_message_10 : decode cX7_message 10 = .ok (.ifCond .ne 9, 3) := by decide +kernel
theorem dX7_message_13 : decode cX7_message 13 = .ok (.aload_n 0, 1) := by decide +kernel
theorem dX7_message_14 : decode cX7_message 14 = .ok (.iconst 1, 1) := by decide +kernel
theorem dX7_message_15 : decode cX7_message 15 = .ok (.invokevirtual 95, 3) := by decide +kernel
theorem dX7_message_18 : decode cX7_message 18 = .ok (.ireturn, 1) := by decide +kernel
theorem dX7_message_19 : decode cX7_message 19 = .ok (.iload_n 2, 1) := by decide +kernel
theorem dX7_message_20 : decode cX7_message 20 = .ok (.iconst 0, 1) := by decide +kernel
theorem dX7_message_21 : decode cX7_message 21 = .ok (.bipush 7, 2) := by decide +kernel
theorem dX7_message_23 : decode cX7_message 23 = .ok (.invokestatic 86, 3) := by decide +kernel
theorem dX7_message_26 : decode cX7_message 26 = .ok (.ifCond .eq 12, 3) := by decide +kernel
theorem dX7_message_29 : decode cX7_message 29 = .ok (.aload_n 0, 1) := by decide +kernel
theorem dX7_message_30 : decode cX7_message 30 = .ok (.iload_n 1, 1) := by decide +kernel
theorem dX7_message_31 : decode cX7_message 31 = .ok (.iload_n 2, 1) := by decide +kernel
theorem dX7_message_32 : decode cX7_message 32 = .ok (.invokevirtual 208, 3) := by decide +kernel
theorem dX7_message_35 : decode cX7_message 35 = .ok (.goto 8, 3) := by decide +kernel
theorem dX7_message_38 : decode cX7_message 38 = .ok (.aload_n 0, 1) := by decide +kernel
theorem dX7_message_39 : decode cX7_message 39 = .ok (.iconst 2, 1) := by decide +kernel
theorem dX7_message_40 : decode cX7_message 40 = .ok (.invokevirtual 95, 3) := by decide +kernel
theorem dX7_message_43 : decode cX7_message 43 = .ok (.ireturn, 1) := by decide +kernel
theorem dX7_seenNow_0 : decode cX7_seenNow 0 = .ok (.aload_n 0, 1) := by decide +kernel
theorem dX7_seenNow_1 : decode cX7_seenNow 1 = .ok (.getfield 25, 3) := by decide +kernel
theorem dX7_seenNow_4 : decode cX7_seenNow 4 = .ok (.iload_n 1, 1) := by decide +kernel
theorem dX7_seenNow_5 : decode cX7_seenNow 5 = .ok (.aaload, 1) := by decide +kernel
theorem dX7_seenNow_6 : decode cX7_seenNow 6 = .ok (.iload_n 2, 1) := by decide +kernel
theorem dX7_seenNow_7 : decode cX7_seenNow 7 = .ok (.aaload, 1) := by decide +kernel
theorem dX7_seenNow_8 : decode cX7_seenNow 8 = .ok (.astore 4, 2) := by decide +kernel
theorem dX7_seenNow_10 : decode cX7_seenNow 10 = .ok (.aload 4, 2) := by decide +kernel
theorem dX7_seenNow_12 : decode cX7_seenNow 12 = .ok (.bipush 11, 2) := by decide +kernel
theorem dX7_seenNow_14 : decode cX7_seenNow 14 = .ok (.iaload, 1) := by decide +kernel
theorem dX7_seenNow_15 : decode cX7_seenNow 15 = .ok (.iconst 1, 1) := by decide +kernel
theorem dX7_seenNow_16 : decode cX7_seenNow 16 = .ok (.if_icmp .ne 10, 3) := by decide +kernel
theorem dX7_seenNow_19 : decode cX7_seenNow 19 = .ok (.aload 4, 2) := by decide +kernel
theorem dX7_seenNow_21 : decode cX7_seenNow 21 = .ok (.iload_n 3, 1) := by decide +kernel
theorem dX7_seenNow_22 : decode cX7_seenNow 22 = .ok (.iaload, 1) := by decide +kernel
theorem dX7_seenNow_23 : decode cX7_seenNow 23 = .ok (.goto 19, 3) := by decide +kernel
theorem dX7_seenNow_26 : decode cX7_seenNow 26 = .ok (.iload_n 3, 1) := by decide +kernel
theorem dX7_seenNow_27 : decode cX7_seenNow 27 = .ok (.iconst 5, 1) := by decide +kernel
theorem dX7_seenNow_28 : decode cX7_seenNow 28 = .ok (.if_icmp .eq 9, 3) := by decide +kernel
theorem dX7_seenNow_31 : decode cX7_seenNow 31 = .ok (.iload_n 3, 1) := by decide +kernel
theorem dX7_seenNow_32 : decode cX7_seenNow 32 = .ok (.bipush 6, 2) := by decide +kernel
theorem dX7_seenNow_34 : decode cX7_seenNow 34 = .ok (.if_icmp .ne 7, 3) := by decide +kernel
theorem dX7_seenNow_37 : decode cX7_seenNow 37 = .ok (.iconst 0, 1) := by decide +kernel
theorem dX7_seenNow_38 : decode cX7_seenNow 38 = .ok (.goto 4, 3) := by decide +kernel
theorem dX7_seenNow_41 : decode cX7_seenNow 41 = .ok (.iconst (-1), 1) := by decide +kernel
theorem dX7_seenNow_42 : decode cX7_seenNow 42 = .ok (.ireturn, 1) := by decide +kernel
theorem dX7_seen_0 : decode cX7_seen 0 = .ok (.aload_n 0, 1) := by decide +kernel
theorem dX7_seen_1 : decode cX7_seen 1 = .ok (.iconst 0, 1) := by decide +kernel
theorem dX7_seen_2 : decode cX7_seen 2 = .ok (.putfield 41, 3) := by decide +kernel
theorem dX7_seen_5 : decode cX7_seen 5 = .ok (.aload_n 0, 1) := by decide +kernel
theorem dX7_seen_6 : decode cX7_seen 6 = .ok (.iload_n 1, 1) := by decide +kernel
theorem dX7_seen_7 : decode cX7_seen 7 = .ok (.invokevirtual 115, 3) := by decide +kernel
theorem dX7_seen_10 : decode cX7_seen 10 = .ok (.ifCond .eq 11, 3) := by decide +kernel
theorem dX7_seen_13 : decode cX7_seen 13 = .ok (.aload_n 0, 1) := by decide +kernel
theorem dX7_seen_14 : decode cX7_seen 14 = .ok (.iload_n 2, 1) := by decide +kernel
theorem dX7_seen_15 : decode cX7_seen 15 = .ok (.invokevirtual 98, 3) := by decide +kernel
theorem dX7_seen_18 : decode cX7_seen 18 = .ok (.ifCond .ne 9, 3) := by decide +kernel
theorem dX7_seen_21 : decode cX7_seen 21 = .ok (.aload_n 0, 1) := by decide +kernel
theorem dX7_seen_22 : decode cX7_seen 22 = .ok (.iconst 1, 1) := by decide +kernel
theorem dX7_seen_23 : decode cX7_seen 23 = .ok (.invokevirtual 95, 3) := by decide +kernel
theorem dX7_seen_26 : decode cX7_seen 26 = .ok (.ireturn, 1) := by decide +kernel
theorem dX7_seen_27 : decode cX7_seen 27 = .ok (.iload_n 3, 1) := by decide +kernel
theorem dX7_seen_28 : decode cX7_seen 28 = .ok (.iconst 0, 1) := by decide +kernel
theorem dX7_seen_29 : decode cX7_seen 29 = .ok (.bipush 7, 2) := by decide +kernel
theorem dX7_seen_31 : decode cX7_seen 31 = .ok (.invokestatic 86, 3) := by decide +kernel
theorem dX7_seen_34 : decode cX7_seen 34 = .ok (.ifCond .eq 13, 3) := by decide +kernel
theorem dX7_seen_37 : decode cX7_seen 37 = .ok (.aload_n 0, 1) := by decide +kernel
theorem dX7_seen_38 : decode cX7_seen 38 = .ok (.iload_n 1, 1) := by decide +kernel
theorem dX7_seen_39 : decode cX7_seen 39 = .ok (.iload_n 2, 1) := by decide +kernel
theorem dX7_seen_40 : decode cX7_seen 40 = .ok (.iload_n 3, 1) := by decide +kernel
theorem dX7_seen_41 : decode cX7_seen 41 = .ok (.invokevirtual 211, 3) := by decide +kernel
theorem dX7_seen_44 : decode cX7_seen 44 = .ok (.goto 8, 3) := by decide +kernel
theorem dX7_seen_47 : decode cX7_seen 47 = .ok (.aload_n 0, 1) := by decide +kernel
theorem dX7_seen_48 : decode cX7_seen 48 = .ok (.iconst 2, 1) := by decide +kernel
theorem dX7_seen_49 : decode cX7_seen 49 = .ok (.invokevirtual 95, 3) := by decide +kernel
theorem dX7_seen_52 : decode cX7_seen 52 = .ok (.ireturn, 1) := by decide +kernel
theorem dX7_ofReceiverNow_0 : decode cX7_ofReceiverNow 0 = .ok (.aload_n 0, 1) := by decide +kernel
theorem dX7_ofReceiverNow_1 : decode cX7_ofReceiverNow 1 = .ok (.getfield 20, 3) := by decide +kernel
theorem dX7_ofReceiverNow_4 : decode cX7_ofReceiverNow 4 = .ok (.iload_n 1, 1) := by decide +kernel
theorem dX7_ofReceiverNow_5 : decode cX7_ofReceiverNow 5 = .ok (.aaload, 1) := by decide +kernel
theorem dX7_ofReceiverNow_6 : decode cX7_ofReceiverNow 6 = .ok (.astore_n 3, 1) := by decide +kernel
theorem dX7_ofReceiverNow_7 : decode cX7_ofReceiverNow 7 = .ok (.aload_n 3, 1) := by decide +kernel
theorem dX7_ofReceiverNow_8 : decode cX7_ofReceiverNow 8 = .ok (.bipush 20, 2) := by decide +kernel
theorem dX7_ofReceiverNow_10 : decode cX7_ofReceiverNow 10 = .ok (.iaload, 1) := by decide +kernel
theorem dX7_ofReceiverNow_11 : decode cX7_ofReceiverNow 11 = .ok (.ifCond .ne 7, 3) := by decide +kernel
theorem dX7_ofReceiverNow_14 : decode cX7_ofReceiverNow 14 = .ok (.iconst 0, 1) := by decide +kernel
theorem dX7_ofReceiverNow_15 : decode cX7_ofReceiverNow 15 = .ok (.goto 20, 3) := by decide +kernel
theorem dX7_ofReceiverNow_18 : decode cX7_ofReceiverNow 18 = .ok (.aload_n 3, 1) := by decide +kernel
theorem dX7_ofReceiverNow_19 : decode cX7_ofReceiverNow 19 = .ok (.iconst 0, 1) := by decide +kernel
theorem dX7_ofReceiverNow_20 : decode cX7_ofReceiverNow 20 = .ok (.iaload, 1) := by decide +kernel
theorem dX7_ofReceiverNow_21 : decode cX7_ofReceiverNow 21 = .ok (.aload_n 3, 1) := by decide +kernel
theorem dX7_ofReceiverNow_22 : decode cX7_ofReceiverNow 22 = .ok (.iconst 1, 1) := by decide +kernel
theorem dX7_ofReceiverNow_23 : decode cX7_ofReceiverNow 23 = .ok (.iaload, 1) := by decide +kernel
theorem dX7_ofReceiverNow_24 : decode cX7_ofReceiverNow 24 = .ok (.aload_n 3, 1) := by decide +kernel
theorem dX7_ofReceiverNow_25 : decode cX7_ofReceiverNow 25 = .ok (.bipush 12, 2) := by decide +kernel
theorem dX7_ofReceiverNow_27 : decode cX7_ofReceiverNow 27 = .ok (.iaload, 1) := by decide +kernel
theorem dX7_ofReceiverNow_28 : decode cX7_ofReceiverNow 28 = .ok (.aload_n 3, 1) := by decide +kernel
theorem dX7_ofReceiverNow_29 : decode cX7_ofReceiverNow 29 = .ok (.bipush 13, 2) := by decide +kernel
theorem dX7_ofReceiverNow_31 : decode cX7_ofReceiverNow 31 = .ok (.iaload, 1) := by decide +kernel
theorem dX7_ofReceiverNow_32 : decode cX7_ofReceiverNow 32 = .ok (.invokestatic 118, 3) := by decide +kernel
theorem dX7_ofReceiverNow_35 : decode cX7_ofReceiverNow 35 = .ok (.istore 4, 2) := by decide +kernel
theorem dX7_ofReceiverNow_37 : decode cX7_ofReceiverNow 37 = .ok (.bipush 14, 2) := by decide +kernel
theorem dX7_ofReceiverNow_39 : decode cX7_ofReceiverNow 39 = .ok (.newarray .int, 2) := by decide +kernel
theorem dX7_ofReceiverNow_41 : decode cX7_ofReceiverNow 41 = .ok (.dup, 1) := by decide +kernel
theorem dX7_ofReceiverNow_42 : decode cX7_ofReceiverNow 42 = .ok (.iconst 0, 1) := by decide +kernel
theorem dX7_ofReceiverNow_43 : decode cX7_ofReceiverNow 43 = .ok (.aload_n 3, 1) := by decide +kernel
theorem dX7_ofReceiverNow_44 : decode cX7_ofReceiverNow 44 = .ok (.iconst 0, 1) := by decide +kernel
theorem dX7_ofReceiverNow_45 : decode cX7_ofReceiverNow 45 = .ok (.iaload, 1) := by decide +kernel
theorem dX7_ofReceiverNow_46 : decode cX7_ofReceiverNow 46 = .ok (.iastore, 1) := by decide +kernel
theorem dX7_ofReceiverNow_47 : decode cX7_ofReceiverNow 47 = .ok (.dup, 1) := by decide +kernel
theorem dX7_ofReceiverNow_48 : decode cX7_ofReceiverNow 48 = .ok (.iconst 1, 1) := by decide +kernel
theorem dX7_ofReceiverNow_49 : decode cX7_ofReceiverNow 49 = .ok (.aload_n 3, 1) := by decide +kernel
theorem dX7_ofReceiverNow_50 : decode cX7_ofReceiverNow 50 = .ok (.iconst 1, 1) := by decide +kernel
theorem dX7_ofReceiverNow_51 : decode cX7_ofReceiverNow 51 = .ok (.iaload, 1) := by decide +kernel
theorem dX7_ofReceiverNow_52 : decode cX7_ofReceiverNow 52 = .ok (.iastore, 1) := by decide +kernel
theorem dX7_ofReceiverNow_53 : decode cX7_ofReceiverNow 53 = .ok (.dup, 1) := by decide +kernel
theorem dX7_ofReceiverNow_54 : decode cX7_ofReceiverNow 54 = .ok (.iconst 2, 1) := by decide +kernel
theorem dX7_ofReceiverNow_55 : decode cX7_ofReceiverNow 55 = .ok (.aload_n 0, 1) := by decide +kernel
theorem dX7_ofReceiverNow_56 : decode cX7_ofReceiverNow 56 = .ok (.iload_n 1, 1) := by decide +kernel
theorem dX7_ofReceiverNow_57 : decode cX7_ofReceiverNow 57 = .ok (.iconst 0, 1) := by decide +kernel
theorem dX7_ofReceiverNow_58 : decode cX7_ofReceiverNow 58 = .ok (.invokevirtual 122, 3) := by decide +kernel
theorem dX7_ofReceiverNow_61 : decode cX7_ofReceiverNow 61 = .ok (.invokestatic 125, 3) := by decide +kernel
theorem dX7_ofReceiverNow_64 : decode cX7_ofReceiverNow 64 = .ok (.iastore, 1) := by decide +kernel
theorem dX7_ofReceiverNow_65 : decode cX7_ofReceiverNow 65 = .ok (.dup, 1) := by decide +kernel
theorem dX7_ofReceiverNow_66 : decode cX7_ofReceiverNow 66 = .ok (.iconst 3, 1) := by decide +kernel
theorem dX7_ofReceiverNow_67 : decode cX7_ofReceiverNow 67 = .ok (.aload_n 3, 1) := by decide +kernel
theorem dX7_ofReceiverNow_68 : decode cX7_ofReceiverNow 68 = .ok (.bipush 10, 2) := by decide +kernel
theorem dX7_ofReceiverNow_70 : decode cX7_ofReceiverNow 70 = .ok (.iaload, 1) := by decide +kernel
theorem dX7_ofReceiverNow_71 : decode cX7_ofReceiverNow 71 = .ok (.iastore, 1) := by decide +kernel
theorem dX7_ofReceiverNow_72 : decode cX7_ofReceiverNow 72 = .ok (.dup, 1) := by decide +kernel
theorem dX7_ofReceiverNow_73 : decode cX7_ofReceiverNow 73 = .ok (.iconst 4, 1) := by decide +kernel
theorem dX7_ofReceiverNow_74 : decode cX7_ofReceiverNow 74 = .ok (.aload_n 3, 1) := by decide +kernel
theorem dX7_ofReceiverNow_75 : decode cX7_ofReceiverNow 75 = .ok (.bipush 11, 2) := by decide +kernel
theorem dX7_ofReceiverNow_77 : decode cX7_ofReceiverNow 77 = .ok (.iaload, 1) := by decide +kernel
theorem dX7_ofReceiverNow_78 : decode cX7_ofReceiverNow 78 = .ok (.iastore, 1) := by decide +kernel
theorem dX7_ofReceiverNow_79 : decode cX7_ofReceiverNow 79 = .ok (.dup, 1) := by decide +kernel
theorem dX7_ofReceiverNow_80 : decode cX7_ofReceiverNow 80 = .ok (.iconst 5, 1) := by decide +kernel
theorem dX7_ofReceiverNow_81 : decode cX7_ofReceiverNow 81 = .ok (.aload_n 3, 1) := by decide +kernel
theorem dX7_ofReceiverNow_82 : decode cX7_ofReceiverNow 82 = .ok (.bipush 12, 2) := by decide +kernel
theorem dX7_ofReceiverNow_84 : decode cX7_ofReceiverNow 84 = .ok (.iaload, 1) := by decide +kernel
theorem dX7_ofReceiverNow_85 : decode cX7_ofReceiverNow 85 = .ok (.iastore, 1) := by decide +kernel
theorem dX7_ofReceiverNow_86 : decode cX7_ofReceiverNow 86 = .ok (.dup, 1) := by decide +kernel
theorem dX7_ofReceiverNow_87 : decode cX7_ofReceiverNow 87 = .ok (.bipush 6, 2) := by decide +kernel
theorem dX7_ofReceiverNow_89 : decode cX7_ofReceiverNow 89 = .ok (.aload_n 3, 1) := by decide +kernel
theorem dX7_ofReceiverNow_90 : decode cX7_ofReceiverNow 90 = .ok (.bipush 13, 2) := by decide +kernel
theorem dX7_ofReceiverNow_92 : decode cX7_ofReceiverNow 92 = .ok (.iaload, 1) := by decide +kernel
theorem dX7_ofReceiverNow_93 : decode cX7_ofReceiverNow 93 = .ok (.iastore, 1) := by decide +kernel
theorem dX7_ofReceiverNow_94 : decode cX7_ofReceiverNow 94 = .ok (.dup, 1) := by decide +kernel
theorem dX7_ofReceiverNow_95 : decode cX7_ofReceiverNow 95 = .ok (.bipush 7, 2) := by decide +kernel
theorem dX7_ofReceiverNow_97 : decode cX7_ofReceiverNow 97 = .ok (.aload_n 3, 1) := by decide +kernel
theorem dX7_ofReceiverNow_98 : decode cX7_ofReceiverNow 98 = .ok (.bipush 14, 2) := by decide +kernel
theorem dX7_ofReceiverNow_100 : decode cX7_ofReceiverNow 100 = .ok (.iaload, 1) := by decide +kernel
theorem dX7_ofReceiverNow_101 : decode cX7_ofReceiverNow 101 = .ok (.iastore, 1) := by decide +kernel
theorem dX7_ofReceiverNow_102 : decode cX7_ofReceiverNow 102 = .ok (.dup, 1) := by decide +kernel
theorem dX7_ofReceiverNow_103 : decode cX7_ofReceiverNow 103 = .ok (.bipush 8, 2) := by decide +kernel
theorem dX7_ofReceiverNow_105 : decode cX7_ofReceiverNow 105 = .ok (.aload_n 3, 1) := by decide +kernel
theorem dX7_ofReceiverNow_106 : decode cX7_ofReceiverNow 106 = .ok (.bipush 15, 2) := by decide +kernel
theorem dX7_ofReceiverNow_108 : decode cX7_ofReceiverNow 108 = .ok (.iaload, 1) := by decide +kernel
theorem dX7_ofReceiverNow_109 : decode cX7_ofReceiverNow 109 = .ok (.iastore, 1) := by decide +kernel
theorem dX7_ofReceiverNow_110 : decode cX7_ofReceiverNow 110 = .ok (.dup, 1) := by decide +kernel
theorem dX7_ofReceiverNow_111 : decode cX7_ofReceiverNow 111 = .ok (.bipush 9, 2) := by decide +kernel
theorem dX7_ofReceiverNow_113 : decode cX7_ofReceiverNow 113 = .ok (.aload_n 3, 1) := by decide +kernel
theorem dX7_ofReceiverNow_114 : decode cX7_ofReceiverNow 114 = .ok (.bipush 16, 2) := by decide +kernel
theorem dX7_ofReceiverNow_116 : decode cX7_ofReceiverNow 116 = .ok (.iaload, 1) := by decide +kernel
theorem dX7_ofReceiverNow_117 : decode cX7_ofReceiverNow 117 = .ok (.iastore, 1) := by decide +kernel
theorem dX7_ofReceiverNow_118 : decode cX7_ofReceiverNow 118 = .ok (.dup, 1) := by decide +kernel
theorem dX7_ofReceiverNow_119 : decode cX7_ofReceiverNow 119 = .ok (.bipush 10, 2) := by decide +kernel
theorem dX7_ofReceiverNow_121 : decode cX7_ofReceiverNow 121 = .ok (.aload_n 3, 1) := by decide +kernel
theorem dX7_ofReceiverNow_122 : decode cX7_ofReceiverNow 122 = .ok (.bipush 17, 2) := by decide +kernel
theorem dX7_ofReceiverNow_124 : decode cX7_ofReceiverNow 124 = .ok (.iaload, 1) := by decide +kernel
theorem dX7_ofReceiverNow_125 : decode cX7_ofReceiverNow 125 = .ok (.iastore, 1) := by decide +kernel
theorem dX7_ofReceiverNow_126 : decode cX7_ofReceiverNow 126 = .ok (.dup, 1) := by decide +kernel
theorem dX7_ofReceiverNow_127 : decode cX7_ofReceiverNow 127 = .ok (.bipush 11, 2) := by decide +kernel
theorem dX7_ofReceiverNow_129 : decode cX7_ofReceiverNow 129 = .ok (.aload_n 3, 1) := by decide +kernel
theorem dX7_ofReceiverNow_130 : decode cX7_ofReceiverNow 130 = .ok (.bipush 18, 2) := by decide +kernel
theorem dX7_ofReceiverNow_132 : decode cX7_ofReceiverNow 132 = .ok (.iaload, 1) := by decide +kernel
theorem dX7_ofReceiverNow_133 : decode cX7_ofReceiverNow 133 = .ok (.iastore, 1) := by decide +kernel
theorem dX7_ofReceiverNow_134 : decode cX7_ofReceiverNow 134 = .ok (.dup, 1) := by decide +kernel
theorem dX7_ofReceiverNow_135 : decode cX7_ofReceiverNow 135 = .ok (.bipush 12, 2) := by decide +kernel
theorem dX7_ofReceiverNow_137 : decode cX7_ofReceiverNow 137 = .ok (.aload_n 3, 1) := by decide +kernel
theorem dX7_ofReceiverNow_138 : decode cX7_ofReceiverNow 138 = .ok (.bipush 19, 2) := by decide +kernel
theorem dX7_ofReceiverNow_140 : decode cX7_ofReceiverNow 140 = .ok (.iaload, 1) := by decide +kernel
theorem dX7_ofReceiverNow_141 : decode cX7_ofReceiverNow 141 = .ok (.iastore, 1) := by decide +kernel
theorem dX7_ofReceiverNow_142 : decode cX7_ofReceiverNow 142 = .ok (.dup, 1) := by decide +kernel
theorem dX7_ofReceiverNow_143 : decode cX7_ofReceiverNow 143 = .ok (.bipush 13, 2) := by decide +kernel
theorem dX7_ofReceiverNow_145 : decode cX7_ofReceiverNow 145 = .ok (.iload 4, 2) := by decide +kernel
theorem dX7_ofReceiverNow_147 : decode cX7_ofReceiverNow 147 = .ok (.iastore, 1) := by decide +kernel
theorem dX7_ofReceiverNow_148 : decode cX7_ofReceiverNow 148 = .ok (.astore 5, 2) := by decide +kernel
theorem dX7_ofReceiverNow_150 : decode cX7_ofReceiverNow 150 = .ok (.aload 5, 2) := by decide +kernel
theorem dX7_ofReceiverNow_152 : decode cX7_ofReceiverNow 152 = .ok (.iload_n 2, 1) := by decide +kernel
theorem dX7_ofReceiverNow_153 : decode cX7_ofReceiverNow 153 = .ok (.iaload, 1) := by decide +kernel
theorem dX7_ofReceiverNow_154 : decode cX7_ofReceiverNow 154 = .ok (.ireturn, 1) := by decide +kernel
theorem dX7_ofReceiver_0 : decode cX7_ofReceiver 0 = .ok (.aload_n 0, 1) := by decide +kernel
theorem dX7_ofReceiver_1 : decode cX7_ofReceiver 1 = .ok (.iconst 0, 1) := by decide +kernel
theorem dX7_ofReceiver_2 : decode cX7_ofReceiver 2 = .ok (.putfield 41, 3) := by decide +kernel
theorem dX7_ofReceiver_5 : decode cX7_ofReceiver 5 = .ok (.aload_n 0, 1) := by decide +kernel
theorem dX7_ofReceiver_6 : decode cX7_ofReceiver 6 = .ok (.iload_n 1, 1) := by decide +kernel
theorem dX7_ofReceiver_7 : decode cX7_ofReceiver 7 = .ok (.invokevirtual 115, 3) := by decide +kernel
theorem dX7_ofReceiver_10 : decode cX7_ofReceiver 10 = .ok (.ifCond .ne 9, 3) := by decide +kernel
theorem dX7_ofReceiver_13 : decode cX7_ofReceiver 13 = .ok (.aload_n 0, 1) := by decide +kernel
theorem dX7_ofReceiver_14 : decode cX7_ofReceiver 14 = .ok (.iconst 1, 1) := by decide +kernel
theorem dX7_ofReceiver_15 : decode cX7_ofReceiver 15 = .ok (.invokevirtual 95, 3) := by decide +kernel
theorem dX7_ofReceiver_18 : decode cX7_ofReceiver 18 = .ok (.ireturn, 1) := by decide +kernel
theorem dX7_ofReceiver_19 : decode cX7_ofReceiver 19 = .ok (.iload_n 2, 1) := by decide +kernel
theorem dX7_ofReceiver_20 : decode cX7_ofReceiver 20 = .ok (.iconst 0, 1) := by decide +kernel
theorem dX7_ofReceiver_21 : decode cX7_ofReceiver 21 = .ok (.bipush 13, 2) := by decide +kernel
theorem dX7_ofReceiver_23 : decode cX7_ofReceiver 23 = .ok (.invokestatic 86, 3) := by decide +kernel
theorem dX7_ofReceiver_26 : decode cX7_ofReceiver 26 = .ok (.ifCond .eq 12, 3) := by decide +kernel
theorem dX7_ofReceiver_29 : decode cX7_ofReceiver 29 = .ok (.aload_n 0, 1) := by decide +kernel
theorem dX7_ofReceiver_30 : decode cX7_ofReceiver 30 = .ok (.iload_n 1, 1) := by decide +kernel
theorem dX7_ofReceiver_31 : decode cX7_ofReceiver 31 = .ok (.iload_n 2, 1) := by decide +kernel
theorem dX7_ofReceiver_32 : decode cX7_ofReceiver 32 = .ok (.invokevirtual 214, 3) := by decide +kernel
theorem dX7_ofReceiver_35 : decode cX7_ofReceiver 35 = .ok (.goto 8, 3) := by decide +kernel
theorem dX7_ofReceiver_38 : decode cX7_ofReceiver 38 = .ok (.aload_n 0, 1) := by decide +kernel
theorem dX7_ofReceiver_39 : decode cX7_ofReceiver 39 = .ok (.iconst 2, 1) := by decide +kernel
theorem dX7_ofReceiver_40 : decode cX7_ofReceiver 40 = .ok (.invokevirtual 95, 3) := by decide +kernel
theorem dX7_ofReceiver_43 : decode cX7_ofReceiver 43 = .ok (.ireturn, 1) := by decide +kernel
theorem dX7_manyNow_0 : decode cX7_manyNow 0 = .ok (.iconst 0, 1) := by decide +kernel
theorem dX7_manyNow_1 : decode cX7_manyNow 1 = .ok (.istore_n 2, 1) := by decide +kernel
theorem dX7_manyNow_2 : decode cX7_manyNow 2 = .ok (.iconst 0, 1) := by decide +kernel
theorem dX7_manyNow_3 : decode cX7_manyNow 3 = .ok (.istore_n 3, 1) := by decide +kernel
theorem dX7_manyNow_4 : decode cX7_manyNow 4 = .ok (.iconst 0, 1) := by decide +kernel
theorem dX7_manyNow_5 : decode cX7_manyNow 5 = .ok (.istore 4, 2) := by decide +kernel
theorem dX7_manyNow_7 : decode cX7_manyNow 7 = .ok (.iconst 0, 1) := by decide +kernel
theorem dX7_manyNow_8 : decode cX7_manyNow 8 = .ok (.istore 5, 2) := by decide +kernel
theorem dX7_manyNow_10 : decode cX7_manyNow 10 = .ok (.iconst 0, 1) := by decide +kernel
theorem dX7_manyNow_11 : decode cX7_manyNow 11 = .ok (.istore 6, 2) := by decide +kernel
theorem dX7_manyNow_13 : decode cX7_manyNow 13 = .ok (.iload 6, 2) := by decide +kernel
theorem dX7_manyNow_15 : decode cX7_manyNow 15 = .ok (.aload_n 0, 1) := by decide +kernel
theorem dX7_manyNow_16 : decode cX7_manyNow 16 = .ok (.getfield 79, 3) := by decide +kernel
theorem dX7_manyNow_19 : decode cX7_manyNow 19 = .ok (.if_icmp .ge 52, 3) := by decide +kernel
theorem dX7_manyNow_22 : decode cX7_manyNow 22 = .ok (.iload_n 2, 1) := by decide +kernel
theorem dX7_manyNow_23 : decode cX7_manyNow 23 = .ok (.aload_n 0, 1) := by decide +kernel
theorem dX7_manyNow_24 : decode cX7_manyNow 24 = .ok (.getfield 11, 3) := by decide +kernel
theorem dX7_manyNow_27 : decode cX7_manyNow 27 = .ok (.iload 6, 2) := by decide +kernel
theorem dX7_manyNow_29 : decode cX7_manyNow 29 = .ok (.aaload, 1) := by decide +kernel
theorem dX7_manyNow_30 : decode cX7_manyNow 30 = .ok (.iconst 5, 1) := by decide +kernel
theorem dX7_manyNow_31 : decode cX7_manyNow 31 = .ok (.iaload, 1) := by decide +kernel
theorem dX7_manyNow_32 : decode cX7_manyNow 32 = .ok (.iadd, 1) := by decide +kernel
theorem dX7_manyNow_33 : decode cX7_manyNow 33 = .ok (.istore_n 2, 1) := by decide +kernel
theorem dX7_manyNow_34 : decode cX7_manyNow 34 = .ok (.iload_n 3, 1) := by decide +kernel
theorem dX7_manyNow_35 : decode cX7_manyNow 35 = .ok (.aload_n 0, 1) := by decide +kernel
theorem dX7_manyNow_36 : decode cX7_manyNow 36 = .ok (.iload 6, 2) := by decide +kernel
theorem dX7_manyNow_38 : decode cX7_manyNow 38 = .ok (.invokevirtual 164, 3) := by decide +kernel
theorem dX7_manyNow_41 : decode cX7_manyNow 41 = .ok (.ifCond .eq 7, 3) := by decide +kernel
theorem dX7_manyNow_44 : decode cX7_manyNow 44 = .ok (.iconst 1, 1) := by decide +kernel
theorem dX7_manyNow_45 : decode cX7_manyNow 45 = .ok (.goto 4, 3) := by decide +kernel
theorem dX7_manyNow_48 : decode cX7_manyNow 48 = .ok (.iconst 0, 1) := by decide +kernel
theorem dX7_manyNow_49 : decode cX7_manyNow 49 = .ok (.iadd, 1) := by decide +kernel
theorem dX7_manyNow_50 : decode cX7_manyNow 50 = .ok (.istore_n 3, 1) := by decide +kernel
theorem dX7_manyNow_51 : decode cX7_manyNow 51 = .ok (.iload 4, 2) := by decide +kernel
theorem dX7_manyNow_53 : decode cX7_manyNow 53 = .ok (.aload_n 0, 1) := by decide +kernel
theorem dX7_manyNow_54 : decode cX7_manyNow 54 = .ok (.getfield 14, 3) := by decide +kernel
theorem dX7_manyNow_57 : decode cX7_manyNow 57 = .ok (.iload 6, 2) := by decide +kernel
theorem dX7_manyNow_59 : decode cX7_manyNow 59 = .ok (.aaload, 1) := by decide +kernel
theorem dX7_manyNow_60 : decode cX7_manyNow 60 = .ok (.iconst 0, 1) := by decide +kernel
theorem dX7_manyNow_61 : decode cX7_manyNow 61 = .ok (.iaload, 1) := by decide +kernel
theorem dX7_manyNow_62 : decode cX7_manyNow 62 = .ok (.iadd, 1) := by decide +kernel
theorem dX7_manyNow_63 : decode cX7_manyNow 63 = .ok (.istore 4, 2) := by decide +kernel
theorem dX7_manyNow_65 : decode cX7_manyNow 65 = .ok (.iinc 6 1, 3) := by decide +kernel
theorem dX7_manyNow_68 : decode cX7_manyNow 68 = .ok (.goto (-55), 3) := by decide +kernel
theorem dX7_manyNow_71 : decode cX7_manyNow 71 = .ok (.iconst 0, 1) := by decide +kernel
theorem dX7_manyNow_72 : decode cX7_manyNow 72 = .ok (.istore 6, 2) := by decide +kernel
theorem dX7_manyNow_74 : decode cX7_manyNow 74 = .ok (.iload 6, 2) := by decide +kernel
theorem dX7_manyNow_76 : decode cX7_manyNow 76 = .ok (.aload_n 0, 1) := by decide +kernel
theorem dX7_manyNow_77 : decode cX7_manyNow 77 = .ok (.getfield 92, 3) := by decide +kernel
theorem dX7_manyNow_80 : decode cX7_manyNow 80 = .ok (.if_icmp .ge 24, 3) := by decide +kernel
theorem dX7_manyNow_83 : decode cX7_manyNow 83 = .ok (.iload 5, 2) := by decide +kernel
theorem dX7_manyNow_85 : decode cX7_manyNow 85 = .ok (.aload_n 0, 1) := by decide +kernel
theorem dX7_manyNow_86 : decode cX7_manyNow 86 = .ok (.getfield 20, 3) := by decide +kernel
theorem dX7_manyNow_89 : decode cX7_manyNow 89 = .ok (.iload 6, 2) := by decide +kernel
theorem dX7_manyNow_91 : decode cX7_manyNow 91 = .ok (.aaload, 1) := by decide +kernel
theorem dX7_manyNow_92 : decode cX7_manyNow 92 = .ok (.bipush 18, 2) := by decide +kernel
theorem dX7_manyNow_94 : decode cX7_manyNow 94 = .ok (.iaload, 1) := by decide +kernel
theorem dX7_manyNow_95 : decode cX7_manyNow 95 = .ok (.iadd, 1) := by decide +kernel
theorem dX7_manyNow_96 : decode cX7_manyNow 96 = .ok (.istore 5, 2) := by decide +kernel
theorem dX7_manyNow_98 : decode cX7_manyNow 98 = .ok (.iinc 6 1, 3) := by decide +kernel
theorem dX7_manyNow_101 : decode cX7_manyNow 101 = .ok (.goto (-27), 3) := by decide +kernel
theorem dX7_manyNow_104 : decode cX7_manyNow 104 = .ok (.bipush 9, 2) := by decide +kernel
theorem dX7_manyNow_106 : decode cX7_manyNow 106 = .ok (.newarray .int, 2) := by decide +kernel
theorem dX7_manyNow_108 : decode cX7_manyNow 108 = .ok (.dup, 1) := by decide +kernel
theorem dX7_manyNow_109 : decode cX7_manyNow 109 = .ok (.iconst 0, 1) := by decide +kernel
theorem dX7_manyNow_110 : decode cX7_manyNow 110 = .ok (.aload_n 0, 1) := by decide +kernel
theorem dX7_manyNow_111 : decode cX7_manyNow 111 = .ok (.getfield 64, 3) := by decide +kernel
theorem dX7_manyNow_114 : decode cX7_manyNow 114 = .ok (.iastore, 1) := by decide +kernel
theorem dX7_manyNow_115 : decode cX7_manyNow 115 = .ok (.dup, 1) := by decide +kernel
theorem dX7_manyNow_116 : decode cX7_manyNow 116 = .ok (.iconst 1, 1) := by decide +kernel
theorem dX7_manyNow_117 : decode cX7_manyNow 117 = .ok (.aload_n 0, 1) := by decide +kernel
theorem dX7_manyNow_118 : decode cX7_manyNow 118 = .ok (.getfield 79, 3) := by decide +kernel
theorem dX7_manyNow_121 : decode cX7_manyNow 121 = .ok (.iastore, 1) := by decide +kernel
theorem dX7_manyNow_122 : decode cX7_manyNow 122 = .ok (.dup, 1) := by decide +kernel
theorem dX7_manyNow_123 : decode cX7_manyNow 123 = .ok (.iconst 2, 1) := by decide +kernel
theorem dX7_manyNow_124 : decode cX7_manyNow 124 = .ok (.aload_n 0, 1) := by decide +kernel
theorem dX7_manyNow_125 : decode cX7_manyNow 125 = .ok (.getfield 89, 3) := by decide +kernel
theorem dX7_manyNow_128 : decode cX7_manyNow 128 = .ok (.iastore, 1) := by decide +kernel
theorem dX7_manyNow_129 : decode cX7_manyNow 129 = .ok (.dup, 1) := by decide +kernel
theorem dX7_manyNow_130 : decode cX7_manyNow 130 = .ok (.iconst 3, 1) := by decide +kernel
theorem dX7_manyNow_131 : decode cX7_manyNow 131 = .ok (.aload_n 0, 1) := by decide +kernel
theorem dX7_manyNow_132 : decode cX7_manyNow 132 = .ok (.getfield 92, 3) := by decide +kernel
theorem dX7_manyNow_135 : decode cX7_manyNow 135 = .ok (.iastore, 1) := by decide +kernel
theorem dX7_manyNow_136 : decode cX7_manyNow 136 = .ok (.dup, 1) := by decide +kernel
theorem dX7_manyNow_137 : decode cX7_manyNow 137 = .ok (.iconst 4, 1) := by decide +kernel
theorem dX7_manyNow_138 : decode cX7_manyNow 138 = .ok (.iload_n 2, 1) := by decide +kernel
theorem dX7_manyNow_139 : decode cX7_manyNow 139 = .ok (.iastore, 1) := by decide +kernel
theorem dX7_manyNow_140 : decode cX7_manyNow 140 = .ok (.dup, 1) := by decide +kernel
theorem dX7_manyNow_141 : decode cX7_manyNow 141 = .ok (.iconst 5, 1) := by decide +kernel
theorem dX7_manyNow_142 : decode cX7_manyNow 142 = .ok (.iload_n 3, 1) := by decide +kernel
theorem dX7_manyNow_143 : decode cX7_manyNow 143 = .ok (.iastore, 1) := by decide +kernel
theorem dX7_manyNow_144 : decode cX7_manyNow 144 = .ok (.dup, 1) := by decide +kernel
theorem dX7_manyNow_145 : decode cX7_manyNow 145 = .ok (.bipush 6, 2) := by decide +kernel
theorem dX7_manyNow_147 : decode cX7_manyNow 147 = .ok (.iload 4, 2) := by decide +kernel
theorem dX7_manyNow_149 : decode cX7_manyNow 149 = .ok (.iastore, 1) := by decide +kernel
theorem dX7_manyNow_150 : decode cX7_manyNow 150 = .ok (.dup, 1) := by decide +kernel
theorem dX7_manyNow_151 : decode cX7_manyNow 151 = .ok (.bipush 7, 2) := by decide +kernel
theorem dX7_manyNow_153 : decode cX7_manyNow 153 = .ok (.aload_n 0, 1) := by decide +kernel
theorem dX7_manyNow_154 : decode cX7_manyNow 154 = .ok (.getfield 192, 3) := by decide +kernel
theorem dX7_manyNow_157 : decode cX7_manyNow 157 = .ok (.iastore, 1) := by decide +kernel
theorem dX7_manyNow_158 : decode cX7_manyNow 158 = .ok (.dup, 1) := by decide +kernel
theorem dX7_manyNow_159 : decode cX7_manyNow 159 = .ok (.bipush 8, 2) := by decide +kernel
theorem dX7_manyNow_161 : decode cX7_manyNow 161 = .ok (.iload 5, 2) := by decide +kernel
theorem dX7_manyNow_163 : decode cX7_manyNow 163 = .ok (.iastore, 1) := by decide +kernel
theorem dX7_manyNow_164 : decode cX7_manyNow 164 = .ok (.astore 6, 2) := by decide +kernel
theorem dX7_manyNow_166 : decode cX7_manyNow 166 = .ok (.aload 6, 2) := by decide +kernel
theorem dX7_manyNow_168 : decode cX7_manyNow 168 = .ok (.iload_n 1, 1) := by decide +kernel
theorem dX7_manyNow_169 : decode cX7_manyNow 169 = .ok (.iaload, 1) := by decide +kernel
theorem dX7_manyNow_170 : decode cX7_manyNow 170 = .ok (.ireturn, 1) := by decide +kernel
theorem dX7_many_0 : decode cX7_many 0 = .ok (.aload_n 0, 1) := by decide +kernel
theorem dX7_many_1 : decode cX7_many 1 = .ok (.iconst 0, 1) := by decide +kernel
theorem dX7_many_2 : decode cX7_many 2 = .ok (.putfield 41, 3) := by decide +kernel
theorem dX7_many_5 : decode cX7_many 5 = .ok (.iload_n 1, 1) := by decide +kernel
theorem dX7_many_6 : decode cX7_many 6 = .ok (.iconst 0, 1) := by decide +kernel
theorem dX7_many_7 : decode cX7_many 7 = .ok (.bipush 8, 2) := by decide +kernel
theorem dX7_many_9 : decode cX7_many 9 = .ok (.invokestatic 86, 3) := by decide +kernel
theorem dX7_many_12 : decode cX7_many 12 = .ok (.ifCond .eq 11, 3) := by decide +kernel
theorem dX7_many_15 : decode cX7_many 15 = .ok (.aload_n 0, 1) := by decide +kernel
theorem dX7_many_16 : decode cX7_many 16 = .ok (.iload_n 1, 1) := by decide +kernel
theorem dX7_many_17 : decode cX7_many 17 = .ok (.invokevirtual 217, 3) := by decide +kernel
theorem dX7_many_20 : decode cX7_many 20 = .ok (.goto 8, 3) := by decide +kernel
theorem dX7_many_23 : decode cX7_many 23 = .ok (.aload_n 0, 1) := by decide +kernel
theorem dX7_many_24 : decode cX7_many 24 = .ok (.iconst 1, 1) := by decide +kernel
theorem dX7_many_25 : decode cX7_many 25 = .ok (.invokevirtual 95, 3) := by decide +kernel
theorem dX7_many_28 : decode cX7_many 28 = .ok (.ireturn, 1) := by decide +kernel
theorem dX7_meanError_0 : decode cX7_meanError 0 = .ok (.aload_n 0, 1) := by decide +kernel
theorem dX7_meanError_1 : decode cX7_meanError 1 = .ok (.aload_n 0, 1) := by decide +kernel
theorem dX7_meanError_2 : decode cX7_meanError 2 = .ok (.iload_n 1, 1) := by decide +kernel
theorem dX7_meanError_3 : decode cX7_meanError 3 = .ok (.invokevirtual 115, 3) := by decide +kernel
theorem dX7_meanError_6 : decode cX7_meanError 6 = .ok (.ifCond .eq 7, 3) := by decide +kernel
theorem dX7_meanError_9 : decode cX7_meanError 9 = .ok (.iconst 0, 1) := by decide +kernel
theorem dX7_meanError_10 : decode cX7_meanError 10 = .ok (.goto 4, 3) := by decide +kernel
theorem dX7_meanError_13 : decode cX7_meanError 13 = .ok (.iconst 1, 1) := by decide +kernel
theorem dX7_meanError_14 : decode cX7_meanError 14 = .ok (.putfield 41, 3) := by decide +kernel
theorem dX7_meanError_17 : decode cX7_meanError 17 = .ok (.aload_n 0, 1) := by decide +kernel
theorem dX7_meanError_18 : decode cX7_meanError 18 = .ok (.getfield 41, 3) := by decide +kernel
theorem dX7_meanError_21 : decode cX7_meanError 21 = .ok (.ifCond .gt 15, 3) := by decide +kernel
theorem dX7_meanError_24 : decode cX7_meanError 24 = .ok (.aload_n 0, 1) := by decide +kernel
theorem dX7_meanError_25 : decode cX7_meanError 25 = .ok (.getfield 20, 3) := by decide +kernel
theorem dX7_meanError_28 : decode cX7_meanError 28 = .ok (.iload_n 1, 1) := by decide +kernel
theorem dX7_meanError_29 : decode cX7_meanError 29 = .ok (.aaload, 1) := by decide +kernel
theorem dX7_meanError_30 : decode cX7_meanError 30 = .ok (.bipush 20, 2) := by decide +kernel
theorem dX7_meanError_32 : decode cX7_meanError 32 = .ok (.iaload, 1) := by decide +kernel
theorem dX7_meanError_33 : decode cX7_meanError 33 = .ok (.ifCond .ne 5, 3) := by decide +kernel
theorem dX7_meanError_36 : decode cX7_meanError 36 = .ok (.dconst 0, 1) := by decide +kernel
theorem dX7_meanError_37 : decode cX7_meanError 37 = .ok (.dreturn, 1) := by decide +kernel
theorem dX7_meanError_38 : decode cX7_meanError 38 = .ok (.aload_n 0, 1) := by decide +kernel
theorem dX7_meanError_39 : decode cX7_meanError 39 = .ok (.getfield 20, 3) := by decide +kernel
theorem dX7_meanError_42 : decode cX7_meanError 42 = .ok (.iload_n 1, 1) := by decide +kernel
theorem dX7_meanError_43 : decode cX7_meanError 43 = .ok (.aaload, 1) := by decide +kernel
theorem dX7_meanError_44 : decode cX7_meanError 44 = .ok (.bipush 21, 2) := by decide +kernel
theorem dX7_meanError_46 : decode cX7_meanError 46 = .ok (.iaload, 1) := by decide +kernel
theorem dX7_meanError_47 : decode cX7_meanError 47 = .ok (.i2d, 1) := by decide +kernel
theorem dX7_meanError_48 : decode cX7_meanError 48 = .ok (.aload_n 0, 1) := by decide +kernel
theorem dX7_meanError_49 : decode cX7_meanError 49 = .ok (.getfield 20, 3) := by decide +kernel
theorem dX7_meanError_52 : decode cX7_meanError 52 = .ok (.iload_n 1, 1) := by decide +kernel
theorem dX7_meanError_53 : decode cX7_meanError 53 = .ok (.aaload, 1) := by decide +kernel
theorem dX7_meanError_54 : decode cX7_meanError 54 = .ok (.bipush 20, 2) := by decide +kernel
theorem dX7_meanError_56 : decode cX7_meanError 56 = .ok (.iaload, 1) := by decide +kernel
theorem dX7_meanError_57 : decode cX7_meanError 57 = .ok (.i2d, 1) := by decide +kernel
theorem dX7_meanError_58 : decode cX7_meanError 58 = .ok (.ddiv, 1) := by decide +kernel
theorem dX7_meanError_59 : decode cX7_meanError 59 = .ok (.dreturn, 1) := by decide +kernel
theorem dX7_wouldSee_0 : decode cX7_wouldSee 0 = .ok (.aload_n 0, 1) := by decide +kernel
theorem dX7_wouldSee_1 : decode cX7_wouldSee 1 = .ok (.iconst 0, 1) := by decide +kernel
theorem dX7_wouldSee_2 : decode cX7_wouldSee 2 = .ok (.putfield 41, 3) := by decide +kernel
theorem dX7_wouldSee_5 : decode cX7_wouldSee 5 = .ok (.aload_n 0, 1) := by decide +kernel
theorem dX7_wouldSee_6 : decode cX7_wouldSee 6 = .ok (.iload_n 1, 1) := by decide +kernel
theorem dX7_wouldSee_7 : decode cX7_wouldSee 7 = .ok (.invokevirtual 115, 3) := by decide +kernel
theorem dX7_wouldSee_10 : decode cX7_wouldSee 10 = .ok (.ifCond .ne 9, 3) := by decide +kernel
theorem dX7_wouldSee_13 : decode cX7_wouldSee 13 = .ok (.aload_n 0, 1) := by decide +kernel
theorem dX7_wouldSee_14 : decode cX7_wouldSee 14 = .ok (.iconst 1, 1) := by decide +kernel
theorem dX7_wouldSee_15 : decode cX7_wouldSee 15 = .ok (.invokevirtual 95, 3) := by decide +kernel
theorem dX7_wouldSee_18 : decode cX7_wouldSee 18 = .ok (.ireturn, 1) := by decide +kernel
theorem dX7_wouldSee_19 : decode cX7_wouldSee 19 = .ok (.iload_n 2, 1) := by decide +kernel
theorem dX7_wouldSee_20 : decode cX7_wouldSee 20 = .ok (.iconst 0, 1) := by decide +kernel
theorem dX7_wouldSee_21 : decode cX7_wouldSee 21 = .ok (.bipush 48, 2) := by decide +kernel
theorem dX7_wouldSee_23 : decode cX7_wouldSee 23 = .ok (.invokestatic 86, 3) := by decide +kernel
theorem dX7_wouldSee_26 : decode cX7_wouldSee 26 = .ok (.ifCond .eq 12, 3) := by decide +kernel
theorem dX7_wouldSee_29 : decode cX7_wouldSee 29 = .ok (.aload_n 0, 1) := by decide +kernel
theorem dX7_wouldSee_30 : decode cX7_wouldSee 30 = .ok (.iload_n 1, 1) := by decide +kernel
theorem dX7_wouldSee_31 : decode cX7_wouldSee 31 = .ok (.iload_n 2, 1) := by decide +kernel
theorem dX7_wouldSee_32 : decode cX7_wouldSee 32 = .ok (.invokevirtual 122, 3) := by decide +kernel
theorem dX7_wouldSee_35 : decode cX7_wouldSee 35 = .ok (.goto 8, 3) := by decide +kernel
theorem dX7_wouldSee_38 : decode cX7_wouldSee 38 = .ok (.aload_n 0, 1) := by decide +kernel
theorem dX7_wouldSee_39 : decode cX7_wouldSee 39 = .ok (.iconst 2, 1) := by decide +kernel
theorem dX7_wouldSee_40 : decode cX7_wouldSee 40 = .ok (.invokevirtual 95, 3) := by decide +kernel
theorem dX7_wouldSee_43 : decode cX7_wouldSee 43 = .ok (.ireturn, 1) := by decide +kernel
theorem dX7_heardNow_0 : decode cX7_heardNow 0 = .ok (.iconst 0, 1) := by decide +kernel
theorem dX7_heardNow_1 : decode cX7_heardNow 1 = .ok (.istore_n 3, 1) := by decide +kernel
theorem dX7_heardNow_2 : decode cX7_heardNow 2 = .ok (.iload_n 3, 1) := by decide +kernel
theorem dX7_heardNow_3 : decode cX7_heardNow 3 = .ok (.bipush 48, 2) := by decide +kernel
theorem dX7_heardNow_5 : decode cX7_heardNow 5 = .ok (.if_icmp .gt 21, 3) := by decide +kernel
theorem dX7_heardNow_8 : decode cX7_heardNow 8 = .ok (.aload_n 0, 1) := by decide +kernel
theorem dX7_heardNow_9 : decode cX7_heardNow 9 = .ok (.iload_n 1, 1) := by decide +kernel
theorem dX7_heardNow_10 : decode cX7_heardNow 10 = .ok (.iload_n 2, 1) := by decide +kernel
theorem dX7_heardNow_11 : decode cX7_heardNow 11 = .ok (.iload_n 3, 1) := by decide +kernel
theorem dX7_heardNow_12 : decode cX7_heardNow 12 = .ok (.invokevirtual 108, 3) := by decide +kernel
theorem dX7_heardNow_15 : decode cX7_heardNow 15 = .ok (.ifCond .eq 5, 3) := by decide +kernel
theorem dX7_heardNow_18 : decode cX7_heardNow 18 = .ok (.iload_n 3, 1) := by decide +kernel
theorem dX7_heardNow_19 : decode cX7_heardNow 19 = .ok (.ireturn, 1) := by decide +kernel
theorem dX7_heardNow_20 : decode cX7_heardNow 20 = .ok (.iinc 3 1, 3) := by decide +kernel
theorem dX7_heardNow_23 : decode cX7_heardNow 23 = .ok (.goto (-21), 3) := by decide +kernel
theorem dX7_heardNow_26 : decode cX7_heardNow 26 = .ok (.iconst (-1), 1) := by decide +kernel
theorem dX7_heardNow_27 : decode cX7_heardNow 27 = .ok (.ireturn, 1) := by decide +kernel
theorem dX7_heardIn_0 : decode cX7_heardIn 0 = .ok (.aload_n 0, 1) := by decide +kernel
theorem dX7_heardIn_1 : decode cX7_heardIn 1 = .ok (.iconst 0, 1) := by decide +kernel
theorem dX7_heardIn_2 : decode cX7_heardIn 2 = .ok (.putfield 41, 3) := by decide +kernel
theorem dX7_heardIn_5 : decode cX7_heardIn 5 = .ok (.aload_n 0, 1) := by decide +kernel
theorem dX7_heardIn_6 : decode cX7_heardIn 6 = .ok (.iload_n 1, 1) := by decide +kernel
theorem dX7_heardIn_7 : decode cX7_heardIn 7 = .ok (.invokevirtual 98, 3) := by decide +kernel
theorem dX7_heardIn_10 : decode cX7_heardIn 10 = .ok (.ifCond .eq 20, 3) := by decide +kernel
theorem dX7_heardIn_13 : decode cX7_heardIn 13 = .ok (.aload_n 0, 1) := by decide +kernel
theorem dX7_heardIn_14 : decode cX7_heardIn 14 = .ok (.iload_n 2, 1) := by decide +kernel
theorem dX7_heardIn_15 : decode cX7_heardIn 15 = .ok (.invokevirtual 105, 3) := by decide +kernel
theorem dX7_heardIn_18 : decode cX7_heardIn 18 = .ok (.ifCond .eq 12, 3) := by decide +kernel
theorem dX7_heardIn_21 : decode cX7_heardIn 21 = .ok (.aload_n 0, 1) := by decide +kernel
theorem dX7_heardIn_22 : decode cX7_heardIn 22 = .ok (.iload_n 1, 1) := by decide +kernel
theorem dX7_heardIn_23 : decode cX7_heardIn 23 = .ok (.iload_n 2, 1) := by decide +kernel
theorem dX7_heardIn_24 : decode cX7_heardIn 24 = .ok (.invokevirtual 220, 3) := by decide +kernel
theorem dX7_heardIn_27 : decode cX7_heardIn 27 = .ok (.goto 8, 3) := by decide +kernel
theorem dX7_heardIn_30 : decode cX7_heardIn 30 = .ok (.aload_n 0, 1) := by decide +kernel
theorem dX7_heardIn_31 : decode cX7_heardIn 31 = .ok (.iconst 1, 1) := by decide +kernel
theorem dX7_heardIn_32 : decode cX7_heardIn 32 = .ok (.invokevirtual 95, 3) := by decide +kernel
theorem dX7_heardIn_35 : decode cX7_heardIn 35 = .ok (.ireturn, 1) := by decide +kernel
theorem dX7_without_0 : decode cX7_without 0 = .ok (.aload_n 0, 1) := by decide +kernel
theorem dX7_without_1 : decode cX7_without 1 = .ok (.iconst 0, 1) := by decide +kernel
theorem dX7_without_2 : decode cX7_without 2 = .ok (.putfield 41, 3) := by decide +kernel
theorem dX7_without_5 : decode cX7_without 5 = .ok (.aload_n 0, 1) := by decide +kernel
theorem dX7_without_6 : decode cX7_without 6 = .ok (.iload_n 1, 1) := by decide +kernel
theorem dX7_without_7 : decode cX7_without 7 = .ok (.invokevirtual 115, 3) := by decide +kernel
theorem dX7_without_10 : decode cX7_without 10 = .ok (.ifCond .eq 11, 3) := by decide +kernel
theorem dX7_without_13 : decode cX7_without 13 = .ok (.aload_n 0, 1) := by decide +kernel
theorem dX7_without_14 : decode cX7_without 14 = .ok (.iload_n 2, 1) := by decide +kernel
theorem dX7_without_15 : decode cX7_without 15 = .ok (.invokevirtual 98, 3) := by decide +kernel
theorem dX7_without_18 : decode cX7_without 18 = .ok (.ifCond .ne 9, 3) := by decide +kernel
theorem dX7_without_21 : decode cX7_without 21 = .ok (.aload_n 0, 1) := by decide +kernel
theorem dX7_without_22 : decode cX7_without 22 = .ok (.iconst 1, 1) := by decide +kernel
theorem dX7_without_23 : decode cX7_without 23 = .ok (.invokevirtual 95, 3) := by decide +kernel
theorem dX7_without_26 : decode cX7_without 26 = .ok (.ireturn, 1) := by decide +kernel
theorem dX7_without_27 : decode cX7_without 27 = .ok (.aload_n 0, 1) := by decide +kernel
theorem dX7_without_28 : decode cX7_without 28 = .ok (.iload_n 1, 1) := by decide +kernel
theorem dX7_without_29 : decode cX7_without 29 = .ok (.iconst 0, 1) := by decide +kernel
theorem dX7_without_30 : decode cX7_without 30 = .ok (.iload_n 2, 1) := by decide +kernel
theorem dX7_without_31 : decode cX7_without 31 = .ok (.invokevirtual 188, 3) := by decide +kernel
theorem dX7_without_34 : decode cX7_without 34 = .ok (.iconst 3, 1) := by decide +kernel
theorem dX7_without_35 : decode cX7_without 35 = .ok (.if_icmp .ge 5, 3) := by decide +kernel
theorem dX7_without_38 : decode cX7_without 38 = .ok (.iconst (-1), 1) := by decide +kernel
theorem dX7_without_39 : decode cX7_without 39 = .ok (.ireturn, 1) := by decide +kernel
theorem dX7_without_40 : decode cX7_without 40 = .ok (.aload_n 0, 1) := by decide +kernel
theorem dX7_without_41 : decode cX7_without 41 = .ok (.invokevirtual 179, 3) := by decide +kernel
theorem dX7_without_44 : decode cX7_without 44 = .ok (.bipush 100, 2) := by decide +kernel
theorem dX7_without_46 : decode cX7_without 46 = .ok (.aload_n 0, 1) := by decide +kernel
theorem dX7_without_47 : decode cX7_without 47 = .ok (.getfield 155, 3) := by decide +kernel
theorem dX7_without_50 : decode cX7_without 50 = .ok (.bipush 12, 2) := by decide +kernel
theorem dX7_without_52 : decode cX7_without 52 = .ok (.iadd, 1) := by decide +kernel
theorem dX7_without_53 : decode cX7_without 53 = .ok (.imul, 1) := by decide +kernel
theorem dX7_without_54 : decode cX7_without 54 = .ok (.aload_n 0, 1) := by decide +kernel
theorem dX7_without_55 : decode cX7_without 55 = .ok (.getfield 158, 3) := by decide +kernel
theorem dX7_without_58 : decode cX7_without 58 = .ok (.iadd, 1) := by decide +kernel
theorem dX7_without_59 : decode cX7_without 59 = .ok (.ireturn, 1) := by decide +kernel
theorem dX7_alarmNow_0 : decode cX7_alarmNow 0 = .ok (.aload_n 0, 1) := by decide +kernel
theorem dX7_alarmNow_1 : decode cX7_alarmNow 1 = .ok (.iload_n 1, 1) := by decide +kernel
theorem dX7_alarmNow_2 : decode cX7_alarmNow 2 = .ok (.iconst 0, 1) := by decide +kernel
theorem dX7_alarmNow_3 : decode cX7_alarmNow 3 = .ok (.iconst (-1), 1) := by decide +kernel
theorem dX7_alarmNow_4 : decode cX7_alarmNow 4 = .ok (.invokevirtual 188, 3) := by decide +kernel
theorem dX7_alarmNow_7 : decode cX7_alarmNow 7 = .ok (.istore_n 2, 1) := by decide +kernel
theorem dX7_alarmNow_8 : decode cX7_alarmNow 8 = .ok (.iload_n 2, 1) := by decide +kernel
theorem dX7_alarmNow_9 : decode cX7_alarmNow 9 = .ok (.iconst 4, 1) := by decide +kernel
theorem dX7_alarmNow_10 : decode cX7_alarmNow 10 = .ok (.if_icmp .ge 5, 3) := by decide +kernel
theorem dX7_alarmNow_13 : decode cX7_alarmNow 13 = .ok (.iconst 1, 1) := by decide +kernel
theorem dX7_alarmNow_14 : decode cX7_alarmNow 14 = .ok (.ireturn, 1) := by decide +kernel
theorem dX7_alarmNow_15 : decode cX7_alarmNow 15 = .ok (.aload_n 0, 1) := by decide +kernel
theorem dX7_alarmNow_16 : decode cX7_alarmNow 16 = .ok (.invokevirtual 179, 3) := by decide +kernel
theorem dX7_alarmNow_19 : decode cX7_alarmNow 19 = .ok (.aload_n 0, 1) := by decide +kernel
theorem dX7_alarmNow_20 : decode cX7_alarmNow 20 = .ok (.iload_n 1, 1) := by decide +kernel
theorem dX7_alarmNow_21 : decode cX7_alarmNow 21 = .ok (.iload_n 2, 1) := by decide +kernel
theorem dX7_alarmNow_22 : decode cX7_alarmNow 22 = .ok (.aload_n 0, 1) := by decide +kernel
theorem dX7_alarmNow_23 : decode cX7_alarmNow 23 = .ok (.iload_n 2, 1) := by decide +kernel
theorem dX7_alarmNow_24 : decode cX7_alarmNow 24 = .ok (.invokevirtual 199, 3) := by decide +kernel
theorem dX7_alarmNow_27 : decode cX7_alarmNow 27 = .ok (.invokevirtual 202, 3) := by decide +kernel
theorem dX7_alarmNow_30 : decode cX7_alarmNow 30 = .ok (.ireturn, 1) := by decide +kernel
theorem dX7_wouldAlarm_0 : decode cX7_wouldAlarm 0 = .ok (.aload_n 0, 1) := by decide +kernel
theorem dX7_wouldAlarm_1 : decode cX7_wouldAlarm 1 = .ok (.iconst 0, 1) := by decide +kernel
theorem dX7_wouldAlarm_2 : decode cX7_wouldAlarm 2 = .ok (.putfield 41, 3) := by decide +kernel
theorem dX7_wouldAlarm_5 : decode cX7_wouldAlarm 5 = .ok (.aload_n 0, 1) := by decide +kernel
theorem dX7_wouldAlarm_6 : decode cX7_wouldAlarm 6 = .ok (.iload_n 1, 1) := by decide +kernel
theorem dX7_wouldAlarm_7 : decode cX7_wouldAlarm 7 = .ok (.invokevirtual 115, 3) := by decide +kernel
theorem dX7_wouldAlarm_10 : decode cX7_wouldAlarm 10 = .ok (.ifCond .eq 11, 3) := by decide +kernel
theorem dX7_wouldAlarm_13 : decode cX7_wouldAlarm 13 = .ok (.aload_n 0, 1) := by decide +kernel
theorem dX7_wouldAlarm_14 : decode cX7_wouldAlarm 14 = .ok (.iload_n 1, 1) := by decide +kernel
theorem dX7_wouldAlarm_15 : decode cX7_wouldAlarm 15 = .ok (.invokevirtual 223, 3) := by decide +kernel
theorem dX7_wouldAlarm_18 : decode cX7_wouldAlarm 18 = .ok (.goto 8, 3) := by decide +kernel
theorem dX7_wouldAlarm_21 : decode cX7_wouldAlarm 21 = .ok (.aload_n 0, 1) := by decide +kernel
theorem dX7_wouldAlarm_22 : decode cX7_wouldAlarm 22 = .ok (.iconst 1, 1) := by decide +kernel
theorem dX7_wouldAlarm_23 : decode cX7_wouldAlarm 23 = .ok (.invokevirtual 95, 3) := by decide +kernel
theorem dX7_wouldAlarm_26 : decode cX7_wouldAlarm 26 = .ok (.ireturn, 1) := by decide +kernel
theorem dX7_add_0 : decode cX7_add 0 = .ok (.aload_n 0, 1) := by decide +kernel
theorem dX7_add_1 : decode cX7_add 1 = .ok (.aload_n 0, 1) := by decide +kernel
theorem dX7_add_2 : decode cX7_add 2 = .ok (.getfield 226, 3) := by decide +kernel
theorem dX7_add_5 : decode cX7_add 5 = .ok (.ldc2_w 229, 3) := by decide +kernel
theorem dX7_add_8 : decode cX7_add 8 = .ok (.lmul, 1) := by decide +kernel
theorem dX7_add_9 : decode cX7_add 9 = .ok (.iload_n 1, 1) := by decide +kernel
theorem dX7_add_10 : decode cX7_add 10 = .ok (.i2l, 1) := by decide +kernel
theorem dX7_add_11 : decode cX7_add 11 = .ok (.ladd, 1) := by decide +kernel
theorem dX7_add_12 : decode cX7_add 12 = .ok (.putfield 226, 3) := by decide +kernel
theorem dX7_add_15 : decode cX7_add 15 = .ok (.return_, 1) := by decide +kernel
theorem dX7_digest_0 : decode cX7_digest 0 = .ok (.aload_n 0, 1) := by decide +kernel
theorem dX7_digest_1 : decode cX7_digest 1 = .ok (.iconst 0, 1) := by decide +kernel
theorem dX7_digest_2 : decode cX7_digest 2 = .ok (.putfield 41, 3) := by decide +kernel
theorem dX7_digest_5 : decode cX7_digest 5 = .ok (.aload_n 0, 1) := by decide +kernel
theorem dX7_digest_6 : decode cX7_digest 6 = .ok (.ldc2_w 231, 3) := by decide +kernel
theorem dX7_digest_9 : decode cX7_digest 9 = .ok (.putfield 226, 3) := by decide +kernel
theorem dX7_digest_12 : decode cX7_digest 12 = .ok (.iconst 0, 1) := by decide +kernel
theorem dX7_digest_13 : decode cX7_digest 13 = .ok (.istore_n 1, 1) := by decide +kernel
theorem dX7_digest_14 : decode cX7_digest 14 = .ok (.iload_n 1, 1) := by decide +kernel
theorem dX7_digest_15 : decode cX7_digest 15 = .ok (.bipush 9, 2) := by decide +kernel
theorem dX7_digest_17 : decode cX7_digest 17 = .ok (.if_icmp .ge 18, 3) := by decide +kernel
theorem dX7_digest_20 : decode cX7_digest 20 = .ok (.aload_n 0, 1) := by decide +kernel
theorem dX7_digest_21 : decode cX7_digest 21 = .ok (.aload_n 0, 1) := by decide +kernel
theorem dX7_digest_22 : decode cX7_digest 22 = .ok (.iload_n 1, 1) := by decide +kernel
theorem dX7_digest_23 : decode cX7_digest 23 = .ok (.invokevirtual 217, 3) := by decide +kernel
theorem dX7_digest_26 : decode cX7_digest 26 = .ok (.invokevirtual 233, 3) := by decide +kernel
theorem dX7_digest_29 : decode cX7_digest 29 = .ok (.iinc 1 1, 3) := by decide +kernel
theorem dX7_digest_32 : decode cX7_digest 32 = .ok (.goto (-18), 3) := by decide +kernel
theorem dX7_digest_35 : decode cX7_digest 35 = .ok (.iconst 0, 1) := by decide +kernel
theorem dX7_digest_36 : decode cX7_digest 36 = .ok (.istore_n 1, 1) := by decide +kernel
theorem dX7_digest_37 : decode cX7_digest 37 = .ok (.iload_n 1, 1) := by decide +kernel
theorem dX7_digest_38 : decode cX7_digest 38 = .ok (.aload_n 0, 1) := by decide +kernel
theorem dX7_digest_39 : decode cX7_digest 39 = .ok (.getfield 79, 3) := by decide +kernel
theorem dX7_digest_42 : decode cX7_digest 42 = .ok (.if_icmp .ge 83, 3) := by decide +kernel
theorem dX7_digest_45 : decode cX7_digest 45 = .ok (.iconst 0, 1) := by decide +kernel
theorem dX7_digest_46 : decode cX7_digest 46 = .ok (.istore_n 2, 1) := by decide +kernel
theorem dX7_digest_47 : decode cX7_digest 47 = .ok (.iload_n 2, 1) := by decide +kernel
theorem dX7_digest_48 : decode cX7_digest 48 = .ok (.bipush 8, 2) := by decide +kernel
theorem dX7_digest_50 : decode cX7_digest 50 = .ok (.if_icmp .ge 19, 3) := by decide +kernel
theorem dX7_digest_53 : decode cX7_digest 53 = .ok (.aload_n 0, 1) := by decide +kernel
theorem dX7_digest_54 : decode cX7_digest 54 = .ok (.aload_n 0, 1) := by decide +kernel
theorem dX7_digest_55 : decode cX7_digest 55 = .ok (.iload_n 1, 1) := by decide +kernel
theorem dX7_digest_56 : decode cX7_digest 56 = .ok (.iload_n 2, 1) := by decide +kernel
theorem dX7_digest_57 : decode cX7_digest 57 = .ok (.invokevirtual 205, 3) := by decide +kernel
theorem dX7_digest_60 : decode cX7_digest 60 = .ok (.invokevirtual 233, 3) := by decide +kernel
theorem dX7_digest_63 : decode cX7_digest 63 = .ok (.iinc 2 1, 3) := by decide +kernel
theorem dX7_digest_66 : decode cX7_digest 66 = .ok (.goto (-19), 3) := by decide +kernel
theorem dX7_digest_69 : decode cX7_digest 69 = .ok (.iconst 0, 1) := by decide +kernel
theorem dX7_digest_70 : decode cX7_digest 70 = .ok (.istore_n 2, 1) := by decide +kernel
theorem dX7_digest_71 : decode cX7_digest 71 = .ok (.iload_n 2, 1) := by decide +kernel
theorem dX7_digest_72 : decode cX7_digest 72 = .ok (.bipush 8, 2) := by decide +kernel
theorem dX7_digest_74 : decode cX7_digest 74 = .ok (.if_icmp .ge 19, 3) := by decide +kernel
theorem dX7_digest_77 : decode cX7_digest 77 = .ok (.aload_n 0, 1) := by decide +kernel
theorem dX7_digest_78 : decode cX7_digest 78 = .ok (.aload_n 0, 1) := by decide +kernel
theorem dX7_digest_79 : decode cX7_digest 79 = .ok (.iload_n 1, 1) := by decide +kernel
theorem dX7_digest_80 : decode cX7_digest 80 = .ok (.iload_n 2, 1) := by decide +kernel
theorem dX7_digest_81 : decode cX7_digest 81 = .ok (.invokevirtual 208, 3) := by decide +kernel
theorem dX7_digest_84 : decode cX7_digest 84 = .ok (.invokevirtual 233, 3) := by decide +kernel
theorem dX7_digest_87 : decode cX7_digest 87 = .ok (.iinc 2 1, 3) := by decide +kernel
theorem dX7_digest_90 : decode cX7_digest 90 = .ok (.goto (-19), 3) := by decide +kernel
theorem dX7_digest_93 : decode cX7_digest 93 = .ok (.iconst 0, 1) := by decide +kernel
theorem dX7_digest_94 : decode cX7_digest 94 = .ok (.istore_n 2, 1) := by decide +kernel
theorem dX7_digest_95 : decode cX7_digest 95 = .ok (.iload_n 2, 1) := by decide +kernel
theorem dX7_digest_96 : decode cX7_digest 96 = .ok (.aload_n 0, 1) := by decide +kernel
theorem dX7_digest_97 : decode cX7_digest 97 = .ok (.getfield 89, 3) := by decide +kernel
theorem dX7_digest_100 : decode cX7_digest 100 = .ok (.if_icmp .ge 19, 3) := by decide +kernel
theorem dX7_digest_103 : decode cX7_digest 103 = .ok (.aload_n 0, 1) := by decide +kernel
theorem dX7_digest_104 : decode cX7_digest 104 = .ok (.aload_n 0, 1) := by decide +kernel
theorem dX7_digest_105 : decode cX7_digest 105 = .ok (.iload_n 1, 1) := by decide +kernel
theorem dX7_digest_106 : decode cX7_digest 106 = .ok (.iload_n 2, 1) := by decide +kernel
theorem dX7_digest_107 : decode cX7_digest 107 = .ok (.invokevirtual 220, 3) := by decide +kernel
theorem dX7_digest_110 : decode cX7_digest 110 = .ok (.invokevirtual 233, 3) := by decide +kernel
theorem dX7_digest_113 : decode cX7_digest 113 = .ok (.iinc 2 1, 3) := by decide +kernel
theorem dX7_digest_116 : decode cX7_digest 116 = .ok (.goto (-21), 3) := by decide +kernel
theorem dX7_digest_119 : decode cX7_digest 119 = .ok (.iinc 1 1, 3) := by decide +kernel
theorem dX7_digest_122 : decode cX7_digest 122 = .ok (.goto (-85), 3) := by decide +kernel
theorem dX7_digest_125 : decode cX7_digest 125 = .ok (.iconst 0, 1) := by decide +kernel
theorem dX7_digest_126 : decode cX7_digest 126 = .ok (.istore_n 1, 1) := by decide +kernel
theorem dX7_digest_127 : decode cX7_digest 127 = .ok (.iload_n 1, 1) := by decide +kernel
theorem dX7_digest_128 : decode cX7_digest 128 = .ok (.aload_n 0, 1) := by decide +kernel
theorem dX7_digest_129 : decode cX7_digest 129 = .ok (.getfield 92, 3) := by decide +kernel
theorem dX7_digest_132 : decode cX7_digest 132 = .ok (.if_icmp .ge 85, 3) := by decide +kernel
theorem dX7_digest_135 : decode cX7_digest 135 = .ok (.iconst 0, 1) := by decide +kernel
theorem dX7_digest_136 : decode cX7_digest 136 = .ok (.istore_n 2, 1) := by decide +kernel
theorem dX7_digest_137 : decode cX7_digest 137 = .ok (.iload_n 2, 1) := by decide +kernel
theorem dX7_digest_138 : decode cX7_digest 138 = .ok (.bipush 14, 2) := by decide +kernel
theorem dX7_digest_140 : decode cX7_digest 140 = .ok (.if_icmp .ge 19, 3) := by decide +kernel
theorem dX7_digest_143 : decode cX7_digest 143 = .ok (.aload_n 0, 1) := by decide +kernel
theorem dX7_digest_144 : decode cX7_digest 144 = .ok (.aload_n 0, 1) := by decide +kernel
theorem dX7_digest_145 : decode cX7_digest 145 = .ok (.iload_n 1, 1) := by decide +kernel
theorem dX7_digest_146 : decode cX7_digest 146 = .ok (.iload_n 2, 1) := by decide +kernel
theorem dX7_digest_147 : decode cX7_digest 147 = .ok (.invokevirtual 214, 3) := by decide +kernel
theorem dX7_digest_150 : decode cX7_digest 150 = .ok (.invokevirtual 233, 3) := by decide +kernel
theorem dX7_digest_153 : decode cX7_digest 153 = .ok (.iinc 2 1, 3) := by decide +kernel
theorem dX7_digest_156 : decode cX7_digest 156 = .ok (.goto (-19), 3) := by decide +kernel
theorem dX7_digest_159 : decode cX7_digest 159 = .ok (.iconst 0, 1) := by decide +kernel
theorem dX7_digest_160 : decode cX7_digest 160 = .ok (.istore_n 2, 1) := by decide +kernel
theorem dX7_digest_161 : decode cX7_digest 161 = .ok (.iload_n 2, 1) := by decide +kernel
theorem dX7_digest_162 : decode cX7_digest 162 = .ok (.aload_n 0, 1) := by decide +kernel
theorem dX7_digest_163 : decode cX7_digest 163 = .ok (.getfield 79, 3) := by decide +kernel
theorem dX7_digest_166 : decode cX7_digest 166 = .ok (.if_icmp .ge 34, 3) := by decide +kernel
theorem dX7_digest_169 : decode cX7_digest 169 = .ok (.iconst 0, 1) := by decide +kernel
theorem dX7_digest_170 : decode cX7_digest 170 = .ok (.istore_n 3, 1) := by decide +kernel
theorem dX7_digest_171 : decode cX7_digest 171 = .ok (.iload_n 3, 1) := by decide +kernel
theorem dX7_digest_172 : decode cX7_digest 172 = .ok (.bipush 8, 2) := by decide +kernel
theorem dX7_digest_174 : decode cX7_digest 174 = .ok (.if_icmp .ge 20, 3) := by decide +kernel
theorem dX7_digest_177 : decode cX7_digest 177 = .ok (.aload_n 0, 1) := by decide +kernel
theorem dX7_digest_178 : decode cX7_digest 178 = .ok (.aload_n 0, 1) := by decide +kernel
theorem dX7_digest_179 : decode cX7_digest 179 = .ok (.iload_n 1, 1) := by decide +kernel
theorem dX7_digest_180 : decode cX7_digest 180 = .ok (.iload_n 2, 1) := by decide +kernel
theorem dX7_digest_181 : decode cX7_digest 181 = .ok (.iload_n 3, 1) := by decide +kernel
theorem dX7_digest_182 : decode cX7_digest 182 = .ok (.invokevirtual 211, 3) := by decide +kernel
theorem dX7_digest_185 : decode cX7_digest 185 = .ok (.invokevirtual 233, 3) := by decide +kernel
theorem dX7_digest_188 : decode cX7_digest 188 = .ok (.iinc 3 1, 3) := by decide +kernel
theorem dX7_digest_191 : decode cX7_digest 191 = .ok (.goto (-20), 3) := by decide +kernel
theorem dX7_digest_194 : decode cX7_digest 194 = .ok (.iinc 2 1, 3) := by decide +kernel
theorem dX7_digest_197 : decode cX7_digest 197 = .ok (.goto (-36), 3) := by decide +kernel
theorem dX7_digest_200 : decode cX7_digest 200 = .ok (.aload_n 0, 1) := by decide +kernel
theorem dX7_digest_201 : decode cX7_digest 201 = .ok (.aload_n 0, 1) := by decide +kernel
theorem dX7_digest_202 : decode cX7_digest 202 = .ok (.iload_n 1, 1) := by decide +kernel
theorem dX7_digest_203 : decode cX7_digest 203 = .ok (.bipush 6, 2) := by decide +kernel
theorem dX7_digest_205 : decode cX7_digest 205 = .ok (.invokevirtual 122, 3) := by decide +kernel
theorem dX7_digest_208 : decode cX7_digest 208 = .ok (.invokevirtual 233, 3) := by decide +kernel
theorem dX7_digest_211 : decode cX7_digest 211 = .ok (.iinc 1 1, 3) := by decide +kernel
theorem dX7_digest_214 : decode cX7_digest 214 = .ok (.goto (-87), 3) := by decide +kernel
theorem dX7_digest_217 : decode cX7_digest 217 = .ok (.aload_n 0, 1) := by decide +kernel
theorem dX7_digest_218 : decode cX7_digest 218 = .ok (.getfield 92, 3) := by decide +kernel
theorem dX7_digest_221 : decode cX7_digest 221 = .ok (.ifCond .le 12, 3) := by decide +kernel
theorem dX7_digest_224 : decode cX7_digest 224 = .ok (.aload_n 0, 1) := by decide +kernel
theorem dX7_digest_225 : decode cX7_digest 225 = .ok (.aload_n 0, 1) := by decide +kernel
theorem dX7_digest_226 : decode cX7_digest 226 = .ok (.iconst 0, 1) := by decide +kernel
theorem dX7_digest_227 : decode cX7_digest 227 = .ok (.invokevirtual 223, 3) := by decide +kernel
theorem dX7_digest_230 : decode cX7_digest 230 = .ok (.invokevirtual 233, 3) := by decide +kernel
theorem dX7_digest_233 : decode cX7_digest 233 = .ok (.aload_n 0, 1) := by decide +kernel
theorem dX7_digest_234 : decode cX7_digest 234 = .ok (.getfield 226, 3) := by decide +kernel
theorem dX7_digest_237 : decode cX7_digest 237 = .ok (.lreturn, 1) := by decide +kernel
