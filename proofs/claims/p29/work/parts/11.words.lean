theorem wIni_L : Cond.initialized RL ∈ lw_tbl := List.mem_of_getElem? (i := 58) (by decide +kernel)
theorem wIni_X6 : Cond.initialized RX6 ∈ lw_tbl := List.mem_of_getElem? (i := 59) (by decide +kernel)
theorem wIni_X2 : Cond.initialized RX2 ∈ lw_tbl := List.mem_of_getElem? (i := 60) (by decide +kernel)
theorem wIni_Throwable : Cond.initialized "java/lang/Throwable" ∈ lw_tbl := List.mem_of_getElem? (i := 61) (by decide +kernel)
theorem wIni_Exception : Cond.initialized "java/lang/Exception" ∈ lw_tbl := List.mem_of_getElem? (i := 62) (by decide +kernel)
theorem wIni_RuntimeException : Cond.initialized "java/lang/RuntimeException" ∈ lw_tbl := List.mem_of_getElem? (i := 63) (by decide +kernel)
theorem wIni_IllegalArgumentException : Cond.initialized "java/lang/IllegalArgumentException" ∈ lw_tbl := List.mem_of_getElem? (i := 64) (by decide +kernel)
theorem wIni_IllegalStateException : Cond.initialized "java/lang/IllegalStateException" ∈ lw_tbl := List.mem_of_getElem? (i := 65) (by decide +kernel)
theorem wIni_X3 : Cond.initialized RX3 ∈ lw_tbl := List.mem_of_getElem? (i := 66) (by decide +kernel)
theorem wIni_X4 : Cond.initialized RX4 ∈ lw_tbl := List.mem_of_getElem? (i := 67) (by decide +kernel)
theorem wIni_X0 : Cond.initialized RX0 ∈ lw_tbl := List.mem_of_getElem? (i := 68) (by decide +kernel)
theorem wIni_X5 : Cond.initialized RX5 ∈ lw_tbl := List.mem_of_getElem? (i := 69) (by decide +kernel)
theorem wIni_X1 : Cond.initialized RX1 ∈ lw_tbl := List.mem_of_getElem? (i := 70) (by decide +kernel)
theorem wIni_IndexOutOfBoundsException : Cond.initialized "java/lang/IndexOutOfBoundsException" ∈ lw_tbl := List.mem_of_getElem? (i := 71) (by decide +kernel)
theorem wIni_J9 : Cond.initialized RJ9 ∈ lw_tbl := List.mem_of_getElem? (i := 72) (by decide +kernel)
theorem wIni_J6 : Cond.initialized RJ6 ∈ lw_tbl := List.mem_of_getElem? (i := 73) (by decide +kernel)
theorem wC_L_9 : Cond.classLink RL 9 RX6 ∈ lw_tbl := List.mem_of_getElem? (i := 74) (by decide +kernel)
theorem wI_X6 : Cond.instantiable RX6 8 ∈ lw_tbl := List.mem_of_getElem? (i := 75) (by decide +kernel)
theorem wM_L_11 : Cond.methodLink RL 11 yX6_init ∈ lw_tbl := List.mem_of_getElem? (i := 76) (by decide +kernel)
theorem wM_X6_1 : Cond.methodLink RX6 1 objectInit ∈ lw_tbl := List.mem_of_getElem? (i := 79) (by decide +kernel)
theorem wC_X6_9 : Cond.classLink RX6 9 RX3 ∈ lw_tbl := List.mem_of_getElem? (i := 82) (by decide +kernel)
theorem wAO__object_Pseudorange_Star_ : Cond.arrayOver (.object "Pseudorange$Star") ∈ lw_tbl := List.mem_of_getElem? (i := 83) (by decide +kernel)
theorem wC_X6_15 : Cond.classLink RX6 15 RX4 ∈ lw_tbl := List.mem_of_getElem? (i := 84) (by decide +kernel)
theorem wAO__object_Pseudorange_Station_ : Cond.arrayOver (.object "Pseudorange$Station") ∈ lw_tbl := List.mem_of_getElem? (i := 85) (by decide +kernel)
theorem wC_X6_21 : Cond.classLink RX6 21 RX0 ∈ lw_tbl := List.mem_of_getElem? (i := 86) (by decide +kernel)
theorem wAO__object_Pseudorange_Receiver_ : Cond.arrayOver (.object "Pseudorange$Receiver") ∈ lw_tbl := List.mem_of_getElem? (i := 87) (by decide +kernel)
theorem wC_X6_27 : Cond.classLink RX6 27 RX2 ∈ lw_tbl := List.mem_of_getElem? (i := 88) (by decide +kernel)
theorem wI_X2 : Cond.instantiable RX2 15 ∈ lw_tbl := List.mem_of_getElem? (i := 89) (by decide +kernel)
theorem wMN_X6_29 : Cond.methodLinkNest RX6 29 yX2_init RX6 ∈ lw_tbl := List.mem_of_getElem? (i := 90) (by decide +kernel)
theorem wM_X2_3 : Cond.methodLink RX2 3 objectInit ∈ lw_tbl := List.mem_of_getElem? (i := 93) (by decide +kernel)
theorem wF_X2_9 : Cond.fieldLink RX2 9 RX2 "starX" "[I" ∈ lw_tbl := List.mem_of_getElem? (i := 94) (by decide +kernel)
theorem wF_X2_15 : Cond.fieldLink RX2 15 RX2 "starY" "[I" ∈ lw_tbl := List.mem_of_getElem? (i := 95) (by decide +kernel)
theorem wF_X2_18 : Cond.fieldLink RX2 18 RX2 "pseudoranges" "[I" ∈ lw_tbl := List.mem_of_getElem? (i := 96) (by decide +kernel)
theorem wF_X2_21 : Cond.fieldLink RX2 21 RX2 "weights" "[I" ∈ lw_tbl := List.mem_of_getElem? (i := 97) (by decide +kernel)
theorem wF_X2_24 : Cond.fieldLink RX2 24 RX2 "over" "[I" ∈ lw_tbl := List.mem_of_getElem? (i := 98) (by decide +kernel)
theorem wF_X2_27 : Cond.fieldLink RX2 27 RX2 "used" "I" ∈ lw_tbl := List.mem_of_getElem? (i := 99) (by decide +kernel)
theorem wFN_X5_41 : Cond.fieldLinkNest RX5 41 RX2 "used" "I" RX6 ∈ lw_tbl := List.mem_of_getElem? (i := 100) (by decide +kernel)
theorem wFN_X6_382 : Cond.fieldLinkNest RX6 382 RX2 "used" "I" RX6 ∈ lw_tbl := List.mem_of_getElem? (i := 101) (by decide +kernel)
theorem wF_X2_45 : Cond.fieldLink RX2 45 RX2 "x" "I" ∈ lw_tbl := List.mem_of_getElem? (i := 102) (by decide +kernel)
theorem wFN_X5_56 : Cond.fieldLinkNest RX5 56 RX2 "x" "I" RX6 ∈ lw_tbl := List.mem_of_getElem? (i := 103) (by decide +kernel)
theorem wFN_X6_278 : Cond.fieldLinkNest RX6 278 RX2 "x" "I" RX6 ∈ lw_tbl := List.mem_of_getElem? (i := 104) (by decide +kernel)
theorem wF_X2_51 : Cond.fieldLink RX2 51 RX2 "y" "I" ∈ lw_tbl := List.mem_of_getElem? (i := 105) (by decide +kernel)
theorem wFN_X5_57 : Cond.fieldLinkNest RX5 57 RX2 "y" "I" RX6 ∈ lw_tbl := List.mem_of_getElem? (i := 106) (by decide +kernel)
theorem wFN_X6_279 : Cond.fieldLinkNest RX6 279 RX2 "y" "I" RX6 ∈ lw_tbl := List.mem_of_getElem? (i := 107) (by decide +kernel)
theorem wF_X2_57 : Cond.fieldLink RX2 57 RX2 "time" "I" ∈ lw_tbl := List.mem_of_getElem? (i := 108) (by decide +kernel)
theorem wFN_X5_58 : Cond.fieldLinkNest RX5 58 RX2 "time" "I" RX6 ∈ lw_tbl := List.mem_of_getElem? (i := 109) (by decide +kernel)
theorem wF_X2_64 : Cond.fieldLink RX2 64 RX2 "cost" "J" ∈ lw_tbl := List.mem_of_getElem? (i := 110) (by decide +kernel)
theorem wFN_X5_62 : Cond.fieldLinkNest RX5 62 RX2 "cost" "J" RX6 ∈ lw_tbl := List.mem_of_getElem? (i := 111) (by decide +kernel)
theorem wFN_X6_385 : Cond.fieldLinkNest RX6 385 RX2 "cost" "J" RX6 ∈ lw_tbl := List.mem_of_getElem? (i := 112) (by decide +kernel)
theorem wF_X2_31 : Cond.fieldLink RX2 31 RX2 "level" "I" ∈ lw_tbl := List.mem_of_getElem? (i := 113) (by decide +kernel)
theorem wFN_X5_44 : Cond.fieldLinkNest RX5 44 RX2 "level" "I" RX6 ∈ lw_tbl := List.mem_of_getElem? (i := 114) (by decide +kernel)
theorem wFN_X6_389 : Cond.fieldLinkNest RX6 389 RX2 "level" "I" RX6 ∈ lw_tbl := List.mem_of_getElem? (i := 115) (by decide +kernel)
theorem wF_X2_42 : Cond.fieldLink RX2 42 RX2 "bestX" "I" ∈ lw_tbl := List.mem_of_getElem? (i := 116) (by decide +kernel)
theorem wF_X2_48 : Cond.fieldLink RX2 48 RX2 "bestY" "I" ∈ lw_tbl := List.mem_of_getElem? (i := 117) (by decide +kernel)
theorem wF_X2_54 : Cond.fieldLink RX2 54 RX2 "bestTime" "I" ∈ lw_tbl := List.mem_of_getElem? (i := 118) (by decide +kernel)
theorem wF_X2_60 : Cond.fieldLink RX2 60 RX2 "bestCost" "J" ∈ lw_tbl := List.mem_of_getElem? (i := 119) (by decide +kernel)
theorem wAC_int : Cond.arrayClass .int ∈ lw_tbl := List.mem_of_getElem? (i := 151) (by decide +kernel)
theorem wF_X6_11 : Cond.fieldLink RX6 11 RX6 "stars" "[LPseudorange$Star;" ∈ lw_tbl := List.mem_of_getElem? (i := 152) (by decide +kernel)
theorem wF_X6_17 : Cond.fieldLink RX6 17 RX6 "stations" "[LPseudorange$Station;" ∈ lw_tbl := List.mem_of_getElem? (i := 153) (by decide +kernel)
theorem wF_X6_23 : Cond.fieldLink RX6 23 RX6 "receivers" "[LPseudorange$Receiver;" ∈ lw_tbl := List.mem_of_getElem? (i := 154) (by decide +kernel)
theorem wF_X6_30 : Cond.fieldLink RX6 30 RX6 "solver" "LPseudorange$Solver;" ∈ lw_tbl := List.mem_of_getElem? (i := 155) (by decide +kernel)
theorem wF_X6_47 : Cond.fieldLink RX6 47 RX6 "starCount" "I" ∈ lw_tbl := List.mem_of_getElem? (i := 156) (by decide +kernel)
theorem wF_X6_95 : Cond.fieldLink RX6 95 RX6 "stationCount" "I" ∈ lw_tbl := List.mem_of_getElem? (i := 157) (by decide +kernel)
theorem wF_X6_132 : Cond.fieldLink RX6 132 RX6 "receiverCount" "I" ∈ lw_tbl := List.mem_of_getElem? (i := 158) (by decide +kernel)
theorem wF_X6_114 : Cond.fieldLink RX6 114 RX6 "epoch" "I" ∈ lw_tbl := List.mem_of_getElem? (i := 159) (by decide +kernel)
theorem wM_L_22 : Cond.methodLink RL 22 yX6_star ∈ lw_tbl := List.mem_of_getElem? (i := 177) (by decide +kernel)
theorem wM_X6_34 : Cond.methodLink RX6 34 yX6_isOutside ∈ lw_tbl := List.mem_of_getElem? (i := 181) (by decide +kernel)
theorem wC_X6_38 : Cond.classLink RX6 38 "java/lang/IllegalArgumentException" ∈ lw_tbl := List.mem_of_getElem? (i := 184) (by decide +kernel)
theorem wI_IllegalArgumentException : Cond.instantiable "java/lang/IllegalArgumentException" 6 ∈ lw_tbl := List.mem_of_getElem? (i := 185) (by decide +kernel)
theorem wCast_IllegalArgumentException_IllegalArgumentException : Cond.castable "java/lang/IllegalArgumentException" "java/lang/IllegalArgumentException" ∈ lw_tbl := List.mem_of_getElem? (i := 186) (by decide +kernel)
theorem wI_Throwable : Cond.instantiable "java/lang/Throwable" 6 ∈ lw_tbl := List.mem_of_getElem? (i := 223) (by decide +kernel)
theorem wStr_X6_40 : Cond.stringRef RX6 40 "radius, phase or spin" ∈ lw_tbl := List.mem_of_getElem? (i := 225) (by decide +kernel)
theorem wM_X6_42 : Cond.methodLink RX6 42 ⟨"java/lang/IllegalArgumentException", "<init>", "(Ljava/lang/String;)V"⟩ ∈ lw_tbl := List.mem_of_getElem? (i := 226) (by decide +kernel)
theorem wAC_byte : Cond.arrayClass .byte ∈ lw_tbl := List.mem_of_getElem? (i := 251) (by decide +kernel)
theorem wStr_X6_45 : Cond.stringRef RX6 45 "offset or drift" ∈ lw_tbl := List.mem_of_getElem? (i := 252) (by decide +kernel)
theorem wC_X6_51 : Cond.classLink RX6 51 "java/lang/IllegalStateException" ∈ lw_tbl := List.mem_of_getElem? (i := 253) (by decide +kernel)
theorem wI_IllegalStateException : Cond.instantiable "java/lang/IllegalStateException" 6 ∈ lw_tbl := List.mem_of_getElem? (i := 254) (by decide +kernel)
theorem wCast_IllegalStateException_IllegalStateException : Cond.castable "java/lang/IllegalStateException" "java/lang/IllegalStateException" ∈ lw_tbl := List.mem_of_getElem? (i := 255) (by decide +kernel)
theorem wStr_X6_53 : Cond.stringRef RX6 53 "there are 8 stars" ∈ lw_tbl := List.mem_of_getElem? (i := 262) (by decide +kernel)
theorem wM_X6_55 : Cond.methodLink RX6 55 ⟨"java/lang/IllegalStateException", "<init>", "(Ljava/lang/String;)V"⟩ ∈ lw_tbl := List.mem_of_getElem? (i := 263) (by decide +kernel)
theorem wI_X3 : Cond.instantiable RX3 11 ∈ lw_tbl := List.mem_of_getElem? (i := 269) (by decide +kernel)
theorem wMN_X6_56 : Cond.methodLinkNest RX6 56 yX3_init RX6 ∈ lw_tbl := List.mem_of_getElem? (i := 270) (by decide +kernel)
theorem wM_X3_3 : Cond.methodLink RX3 3 objectInit ∈ lw_tbl := List.mem_of_getElem? (i := 273) (by decide +kernel)
theorem wF_X3_9 : Cond.fieldLink RX3 9 RX3 "radius" "I" ∈ lw_tbl := List.mem_of_getElem? (i := 274) (by decide +kernel)
theorem wF_X3_18 : Cond.fieldLink RX3 18 RX3 "spin" "I" ∈ lw_tbl := List.mem_of_getElem? (i := 275) (by decide +kernel)
theorem wF_X3_15 : Cond.fieldLink RX3 15 RX3 "phase" "I" ∈ lw_tbl := List.mem_of_getElem? (i := 276) (by decide +kernel)
theorem wFN_X6_70 : Cond.fieldLinkNest RX6 70 RX3 "phase" "I" RX6 ∈ lw_tbl := List.mem_of_getElem? (i := 277) (by decide +kernel)
theorem wF_X3_21 : Cond.fieldLink RX3 21 RX3 "offset" "I" ∈ lw_tbl := List.mem_of_getElem? (i := 278) (by decide +kernel)
theorem wFN_X0_70 : Cond.fieldLinkNest RX0 70 RX3 "offset" "I" RX6 ∈ lw_tbl := List.mem_of_getElem? (i := 279) (by decide +kernel)
theorem wFN_X6_86 : Cond.fieldLinkNest RX6 86 RX3 "offset" "I" RX6 ∈ lw_tbl := List.mem_of_getElem? (i := 280) (by decide +kernel)
theorem wF_X3_24 : Cond.fieldLink RX3 24 RX3 "drift" "I" ∈ lw_tbl := List.mem_of_getElem? (i := 281) (by decide +kernel)
theorem wFN_X6_83 : Cond.fieldLinkNest RX6 83 RX3 "drift" "I" RX6 ∈ lw_tbl := List.mem_of_getElem? (i := 282) (by decide +kernel)
theorem wF_X3_27 : Cond.fieldLink RX3 27 RX3 "isHealthy" "Z" ∈ lw_tbl := List.mem_of_getElem? (i := 283) (by decide +kernel)
theorem wFN_X4_22 : Cond.fieldLinkNest RX4 22 RX3 "isHealthy" "Z" RX6 ∈ lw_tbl := List.mem_of_getElem? (i := 284) (by decide +kernel)
theorem wFN_X0_60 : Cond.fieldLinkNest RX0 60 RX3 "isHealthy" "Z" RX6 ∈ lw_tbl := List.mem_of_getElem? (i := 285) (by decide +kernel)
theorem wFN_X6_89 : Cond.fieldLinkNest RX6 89 RX3 "isHealthy" "Z" RX6 ∈ lw_tbl := List.mem_of_getElem? (i := 286) (by decide +kernel)
theorem wF_X3_54 : Cond.fieldLink RX3 54 RX3 "issue" "I" ∈ lw_tbl := List.mem_of_getElem? (i := 287) (by decide +kernel)
theorem wFN_X6_123 : Cond.fieldLinkNest RX6 123 RX3 "issue" "I" RX6 ∈ lw_tbl := List.mem_of_getElem? (i := 288) (by decide +kernel)
theorem wF_X3_31 : Cond.fieldLink RX3 31 RX3 "toldEpoch" "I" ∈ lw_tbl := List.mem_of_getElem? (i := 289) (by decide +kernel)
theorem wF_X3_34 : Cond.fieldLink RX3 34 RX3 "toldPhase" "I" ∈ lw_tbl := List.mem_of_getElem? (i := 290) (by decide +kernel)
theorem wF_X3_57 : Cond.fieldLink RX3 57 RX3 "toldOffset" "I" ∈ lw_tbl := List.mem_of_getElem? (i := 291) (by decide +kernel)
theorem wF_X3_60 : Cond.fieldLink RX3 60 RX3 "toldDrift" "I" ∈ lw_tbl := List.mem_of_getElem? (i := 292) (by decide +kernel)
theorem wM_L_46 : Cond.methodLink RL 46 yX6_push ∈ lw_tbl := List.mem_of_getElem? (i := 316) (by decide +kernel)
theorem wM_X6_59 : Cond.methodLink RX6 59 yX6_isNoStar ∈ lw_tbl := List.mem_of_getElem? (i := 320) (by decide +kernel)
theorem wC_X6_63 : Cond.classLink RX6 63 "java/lang/IndexOutOfBoundsException" ∈ lw_tbl := List.mem_of_getElem? (i := 324) (by decide +kernel)
theorem wI_IndexOutOfBoundsException : Cond.instantiable "java/lang/IndexOutOfBoundsException" 6 ∈ lw_tbl := List.mem_of_getElem? (i := 325) (by decide +kernel)
theorem wCast_IndexOutOfBoundsException_IndexOutOfBoundsException : Cond.castable "java/lang/IndexOutOfBoundsException" "java/lang/IndexOutOfBoundsException" ∈ lw_tbl := List.mem_of_getElem? (i := 326) (by decide +kernel)
theorem wStr_X6_65 : Cond.stringRef RX6 65 "no such star" ∈ lw_tbl := List.mem_of_getElem? (i := 333) (by decide +kernel)
theorem wM_X6_67 : Cond.methodLink RX6 67 ⟨"java/lang/IndexOutOfBoundsException", "<init>", "(Ljava/lang/String;)V"⟩ ∈ lw_tbl := List.mem_of_getElem? (i := 334) (by decide +kernel)
theorem wStr_X6_68 : Cond.stringRef RX6 68 "by" ∈ lw_tbl := List.mem_of_getElem? (i := 340) (by decide +kernel)
theorem wM_X6_73 : Cond.methodLink RX6 73 yJ9_floorMod_7cf53 ∈ lw_tbl := List.mem_of_getElem? (i := 341) (by decide +kernel)
theorem wM_L_52 : Cond.methodLink RL 52 yX6_jump ∈ lw_tbl := List.mem_of_getElem? (i := 344) (by decide +kernel)
theorem wMN_X6_79 : Cond.methodLinkNest RX6 79 yX3_moveClock RX6 ∈ lw_tbl := List.mem_of_getElem? (i := 348) (by decide +kernel)
theorem wMN_X3_37 : Cond.methodLinkNest RX3 37 yX6_held RX6 ∈ lw_tbl := List.mem_of_getElem? (i := 352) (by decide +kernel)
theorem wM_X6_296 : Cond.methodLink RX6 296 Lib.Math.min.name ∈ lw_tbl := List.mem_of_getElem? (i := 355) (by decide +kernel)
theorem wM_X6_299 : Cond.methodLink RX6 299 Lib.Math.max.name ∈ lw_tbl := List.mem_of_getElem? (i := 358) (by decide +kernel)
theorem wM_L_55 : Cond.methodLink RL 55 yX6_health ∈ lw_tbl := List.mem_of_getElem? (i := 361) (by decide +kernel)
theorem wM_L_26 : Cond.methodLink RL 26 yX6_station ∈ lw_tbl := List.mem_of_getElem? (i := 365) (by decide +kernel)
theorem wStr_X6_93 : Cond.stringRef RX6 93 "x or delay" ∈ lw_tbl := List.mem_of_getElem? (i := 369) (by decide +kernel)
theorem wStr_X6_98 : Cond.stringRef RX6 98 "there are 3 stations" ∈ lw_tbl := List.mem_of_getElem? (i := 370) (by decide +kernel)
theorem wI_X4 : Cond.instantiable RX4 2 ∈ lw_tbl := List.mem_of_getElem? (i := 371) (by decide +kernel)
theorem wMN_X6_100 : Cond.methodLinkNest RX6 100 yX4_init RX6 ∈ lw_tbl := List.mem_of_getElem? (i := 372) (by decide +kernel)
theorem wM_X4_1 : Cond.methodLink RX4 1 objectInit ∈ lw_tbl := List.mem_of_getElem? (i := 375) (by decide +kernel)
theorem wF_X4_7 : Cond.fieldLink RX4 7 RX4 "x" "I" ∈ lw_tbl := List.mem_of_getElem? (i := 376) (by decide +kernel)
theorem wF_X4_13 : Cond.fieldLink RX4 13 RX4 "delay" "I" ∈ lw_tbl := List.mem_of_getElem? (i := 377) (by decide +kernel)
theorem wFN_X6_117 : Cond.fieldLinkNest RX6 117 RX4 "delay" "I" RX6 ∈ lw_tbl := List.mem_of_getElem? (i := 378) (by decide +kernel)
theorem wM_L_43 : Cond.methodLink RL 43 yX6_listen ∈ lw_tbl := List.mem_of_getElem? (i := 384) (by decide +kernel)
theorem wM_X6_103 : Cond.methodLink RX6 103 yX6_isNoStation ∈ lw_tbl := List.mem_of_getElem? (i := 388) (by decide +kernel)
theorem wStr_X6_106 : Cond.stringRef RX6 106 "no such station or star" ∈ lw_tbl := List.mem_of_getElem? (i := 392) (by decide +kernel)
theorem wMN_X6_108 : Cond.methodLinkNest RX6 108 yX4_canHear RX6 ∈ lw_tbl := List.mem_of_getElem? (i := 393) (by decide +kernel)
theorem wMN_X4_16 : Cond.methodLinkNest RX4 16 yX3_yIn RX6 ∈ lw_tbl := List.mem_of_getElem? (i := 397) (by decide +kernel)
theorem wMN_X3_50 : Cond.methodLinkNest RX3 50 yX6_swing RX6 ∈ lw_tbl := List.mem_of_getElem? (i := 401) (by decide +kernel)
theorem wMN_X4_26 : Cond.methodLinkNest RX4 26 yX3_xIn RX6 ∈ lw_tbl := List.mem_of_getElem? (i := 404) (by decide +kernel)
theorem wM_X4_29 : Cond.methodLink RX4 29 Lib.Math.abs.name ∈ lw_tbl := List.mem_of_getElem? (i := 408) (by decide +kernel)
theorem wStr_X6_112 : Cond.stringRef RX6 112 "the station can not hear the star" ∈ lw_tbl := List.mem_of_getElem? (i := 411) (by decide +kernel)
theorem wMN_X6_120 : Cond.methodLinkNest RX6 120 yX3_takeMessage RX6 ∈ lw_tbl := List.mem_of_getElem? (i := 412) (by decide +kernel)
theorem wM_L_29 : Cond.methodLink RL 29 yX6_receiver ∈ lw_tbl := List.mem_of_getElem? (i := 416) (by decide +kernel)
theorem wM_X6_126 : Cond.methodLink RX6 126 yX6_isNoPlace ∈ lw_tbl := List.mem_of_getElem? (i := 420) (by decide +kernel)
theorem wStr_X6_130 : Cond.stringRef RX6 130 "x, y or bias" ∈ lw_tbl := List.mem_of_getElem? (i := 423) (by decide +kernel)
theorem wStr_X6_135 : Cond.stringRef RX6 135 "there are 3 receivers" ∈ lw_tbl := List.mem_of_getElem? (i := 424) (by decide +kernel)
theorem wI_X0 : Cond.instantiable RX0 13 ∈ lw_tbl := List.mem_of_getElem? (i := 425) (by decide +kernel)
theorem wMN_X6_137 : Cond.methodLinkNest RX6 137 yX0_init RX6 ∈ lw_tbl := List.mem_of_getElem? (i := 426) (by decide +kernel)
theorem wM_X0_3 : Cond.methodLink RX0 3 objectInit ∈ lw_tbl := List.mem_of_getElem? (i := 429) (by decide +kernel)
theorem wC_X0_40 : Cond.classLink RX0 40 RX5 ∈ lw_tbl := List.mem_of_getElem? (i := 430) (by decide +kernel)
theorem wI_X5 : Cond.instantiable RX5 13 ∈ lw_tbl := List.mem_of_getElem? (i := 431) (by decide +kernel)
theorem wMN_X0_42 : Cond.methodLinkNest RX0 42 yX5_init RX6 ∈ lw_tbl := List.mem_of_getElem? (i := 432) (by decide +kernel)
theorem wM_X5_3 : Cond.methodLink RX5 3 objectInit ∈ lw_tbl := List.mem_of_getElem? (i := 435) (by decide +kernel)
theorem wF_X5_21 : Cond.fieldLink RX5 21 RX5 "observations" "I" ∈ lw_tbl := List.mem_of_getElem? (i := 436) (by decide +kernel)
theorem wFN_X6_405 : Cond.fieldLinkNest RX6 405 RX5 "observations" "I" RX6 ∈ lw_tbl := List.mem_of_getElem? (i := 437) (by decide +kernel)
theorem wF_X5_9 : Cond.fieldLink RX5 9 RX5 "latest" "I" ∈ lw_tbl := List.mem_of_getElem? (i := 438) (by decide +kernel)
theorem wF_X5_28 : Cond.fieldLink RX5 28 RX5 "used" "I" ∈ lw_tbl := List.mem_of_getElem? (i := 439) (by decide +kernel)
theorem wF_X5_68 : Cond.fieldLink RX5 68 RX5 "solutions" "I" ∈ lw_tbl := List.mem_of_getElem? (i := 440) (by decide +kernel)
theorem wF_X5_75 : Cond.fieldLink RX5 75 RX5 "errors" "I" ∈ lw_tbl := List.mem_of_getElem? (i := 441) (by decide +kernel)
theorem wF_X5_31 : Cond.fieldLink RX5 31 RX5 "x" "I" ∈ lw_tbl := List.mem_of_getElem? (i := 442) (by decide +kernel)
theorem wF_X5_34 : Cond.fieldLink RX5 34 RX5 "y" "I" ∈ lw_tbl := List.mem_of_getElem? (i := 443) (by decide +kernel)
theorem wF_X5_61 : Cond.fieldLink RX5 61 RX5 "time" "I" ∈ lw_tbl := List.mem_of_getElem? (i := 444) (by decide +kernel)
theorem wF_X5_66 : Cond.fieldLink RX5 66 RX5 "cost" "I" ∈ lw_tbl := List.mem_of_getElem? (i := 445) (by decide +kernel)
theorem wF_X5_15 : Cond.fieldLink RX5 15 RX5 "level" "I" ∈ lw_tbl := List.mem_of_getElem? (i := 446) (by decide +kernel)
theorem wF_X5_45 : Cond.fieldLink RX5 45 RX5 "alarm" "I" ∈ lw_tbl := List.mem_of_getElem? (i := 447) (by decide +kernel)
theorem wFN_X6_234 : Cond.fieldLinkNest RX6 234 RX5 "alarm" "I" RX6 ∈ lw_tbl := List.mem_of_getElem? (i := 448) (by decide +kernel)
theorem wF_X5_78 : Cond.fieldLink RX5 78 RX5 "misled" "I" ∈ lw_tbl := List.mem_of_getElem? (i := 449) (by decide +kernel)
theorem wFN_X6_408 : Cond.fieldLinkNest RX6 408 RX5 "misled" "I" RX6 ∈ lw_tbl := List.mem_of_getElem? (i := 450) (by decide +kernel)
theorem wF_X5_18 : Cond.fieldLink RX5 18 RX5 "alarmEpoch" "I" ∈ lw_tbl := List.mem_of_getElem? (i := 451) (by decide +kernel)
theorem wC_X0_47 : Cond.classLink RX0 47 RX1 ∈ lw_tbl := List.mem_of_getElem? (i := 479) (by decide +kernel)
theorem wAO__object_Pseudorange_Sight_ : Cond.arrayOver (.object "Pseudorange$Sight") ∈ lw_tbl := List.mem_of_getElem? (i := 480) (by decide +kernel)
theorem wI_X1 : Cond.instantiable RX1 11 ∈ lw_tbl := List.mem_of_getElem? (i := 481) (by decide +kernel)
theorem wMN_X0_53 : Cond.methodLinkNest RX0 53 yX1_init RX6 ∈ lw_tbl := List.mem_of_getElem? (i := 482) (by decide +kernel)
theorem wM_X1_3 : Cond.methodLink RX1 3 objectInit ∈ lw_tbl := List.mem_of_getElem? (i := 485) (by decide +kernel)
theorem wF_X1_9 : Cond.fieldLink RX1 9 RX1 "isSeen" "Z" ∈ lw_tbl := List.mem_of_getElem? (i := 486) (by decide +kernel)
theorem wFN_X6_332 : Cond.fieldLinkNest RX6 332 RX1 "isSeen" "Z" RX6 ∈ lw_tbl := List.mem_of_getElem? (i := 487) (by decide +kernel)
theorem wF_X1_47 : Cond.fieldLink RX1 47 RX1 "isFixed" "Z" ∈ lw_tbl := List.mem_of_getElem? (i := 488) (by decide +kernel)
theorem wFN_X6_351 : Cond.fieldLinkNest RX6 351 RX1 "isFixed" "Z" RX6 ∈ lw_tbl := List.mem_of_getElem? (i := 489) (by decide +kernel)
theorem wF_X1_50 : Cond.fieldLink RX1 50 RX1 "isUsed" "Z" ∈ lw_tbl := List.mem_of_getElem? (i := 490) (by decide +kernel)
theorem wFN_X6_338 : Cond.fieldLinkNest RX6 338 RX1 "isUsed" "Z" RX6 ∈ lw_tbl := List.mem_of_getElem? (i := 491) (by decide +kernel)
theorem wF_X1_18 : Cond.fieldLink RX1 18 RX1 "code" "I" ∈ lw_tbl := List.mem_of_getElem? (i := 492) (by decide +kernel)
theorem wF_X1_22 : Cond.fieldLink RX1 22 RX1 "wave" "I" ∈ lw_tbl := List.mem_of_getElem? (i := 493) (by decide +kernel)
theorem wF_X1_31 : Cond.fieldLink RX1 31 RX1 "count" "I" ∈ lw_tbl := List.mem_of_getElem? (i := 494) (by decide +kernel)
theorem wF_X1_34 : Cond.fieldLink RX1 34 RX1 "left" "I" ∈ lw_tbl := List.mem_of_getElem? (i := 495) (by decide +kernel)
theorem wF_X1_37 : Cond.fieldLink RX1 37 RX1 "kept" "I" ∈ lw_tbl := List.mem_of_getElem? (i := 496) (by decide +kernel)
theorem wF_X1_44 : Cond.fieldLink RX1 44 RX1 "steady" "I" ∈ lw_tbl := List.mem_of_getElem? (i := 497) (by decide +kernel)
theorem wF_X1_53 : Cond.fieldLink RX1 53 RX1 "correction" "I" ∈ lw_tbl := List.mem_of_getElem? (i := 498) (by decide +kernel)
theorem wFN_X6_344 : Cond.fieldLinkNest RX6 344 RX1 "correction" "I" RX6 ∈ lw_tbl := List.mem_of_getElem? (i := 499) (by decide +kernel)
theorem wF_X1_56 : Cond.fieldLink RX1 56 RX1 "offered" "I" ∈ lw_tbl := List.mem_of_getElem? (i := 500) (by decide +kernel)
theorem wFN_X6_372 : Cond.fieldLinkNest RX6 372 RX1 "offered" "I" RX6 ∈ lw_tbl := List.mem_of_getElem? (i := 501) (by decide +kernel)
theorem wF_X0_9 : Cond.fieldLink RX0 9 RX0 "number" "I" ∈ lw_tbl := List.mem_of_getElem? (i := 525) (by decide +kernel)
theorem wFN_X6_323 : Cond.fieldLinkNest RX6 323 RX0 "number" "I" RX6 ∈ lw_tbl := List.mem_of_getElem? (i := 526) (by decide +kernel)
theorem wF_X0_21 : Cond.fieldLink RX0 21 RX0 "bias" "I" ∈ lw_tbl := List.mem_of_getElem? (i := 527) (by decide +kernel)
theorem wF_X0_49 : Cond.fieldLink RX0 49 RX0 "sights" "[LPseudorange$Sight;" ∈ lw_tbl := List.mem_of_getElem? (i := 528) (by decide +kernel)
theorem wFN_X6_247 : Cond.fieldLinkNest RX6 247 RX0 "sights" "[LPseudorange$Sight;" RX6 ∈ lw_tbl := List.mem_of_getElem? (i := 529) (by decide +kernel)
theorem wF_X0_43 : Cond.fieldLink RX0 43 RX0 "track" "LPseudorange$Track;" ∈ lw_tbl := List.mem_of_getElem? (i := 530) (by decide +kernel)
theorem wFN_X6_202 : Cond.fieldLinkNest RX6 202 RX0 "track" "LPseudorange$Track;" RX6 ∈ lw_tbl := List.mem_of_getElem? (i := 531) (by decide +kernel)
theorem wF_X0_15 : Cond.fieldLink RX0 15 RX0 "x" "I" ∈ lw_tbl := List.mem_of_getElem? (i := 532) (by decide +kernel)
theorem wFN_X6_147 : Cond.fieldLinkNest RX6 147 RX0 "x" "I" RX6 ∈ lw_tbl := List.mem_of_getElem? (i := 533) (by decide +kernel)
theorem wF_X0_18 : Cond.fieldLink RX0 18 RX0 "y" "I" ∈ lw_tbl := List.mem_of_getElem? (i := 534) (by decide +kernel)
theorem wFN_X6_150 : Cond.fieldLinkNest RX6 150 RX0 "y" "I" RX6 ∈ lw_tbl := List.mem_of_getElem? (i := 535) (by decide +kernel)
theorem wF_X0_24 : Cond.fieldLink RX0 24 RX0 "leftHill" "I" ∈ lw_tbl := List.mem_of_getElem? (i := 536) (by decide +kernel)
theorem wFN_X6_159 : Cond.fieldLinkNest RX6 159 RX0 "leftHill" "I" RX6 ∈ lw_tbl := List.mem_of_getElem? (i := 537) (by decide +kernel)
theorem wF_X0_27 : Cond.fieldLink RX0 27 RX0 "rightHill" "I" ∈ lw_tbl := List.mem_of_getElem? (i := 538) (by decide +kernel)
theorem wFN_X6_162 : Cond.fieldLinkNest RX6 162 RX0 "rightHill" "I" RX6 ∈ lw_tbl := List.mem_of_getElem? (i := 539) (by decide +kernel)
theorem wF_X0_81 : Cond.fieldLink RX0 81 RX0 "iono" "I" ∈ lw_tbl := List.mem_of_getElem? (i := 540) (by decide +kernel)
theorem wFN_X6_177 : Cond.fieldLinkNest RX6 177 RX0 "iono" "I" RX6 ∈ lw_tbl := List.mem_of_getElem? (i := 541) (by decide +kernel)
theorem wF_X0_30 : Cond.fieldLink RX0 30 RX0 "isDual" "Z" ∈ lw_tbl := List.mem_of_getElem? (i := 542) (by decide +kernel)
theorem wFN_X6_179 : Cond.fieldLinkNest RX6 179 RX0 "isDual" "Z" RX6 ∈ lw_tbl := List.mem_of_getElem? (i := 543) (by decide +kernel)
theorem wF_X0_34 : Cond.fieldLink RX0 34 RX0 "alertLimit" "I" ∈ lw_tbl := List.mem_of_getElem? (i := 544) (by decide +kernel)
theorem wFN_X6_184 : Cond.fieldLinkNest RX6 184 RX0 "alertLimit" "I" RX6 ∈ lw_tbl := List.mem_of_getElem? (i := 545) (by decide +kernel)
theorem wF_X0_73 : Cond.fieldLink RX0 73 RX0 "spoofed" "I" ∈ lw_tbl := List.mem_of_getElem? (i := 546) (by decide +kernel)
theorem wFN_X6_187 : Cond.fieldLinkNest RX6 187 RX0 "spoofed" "I" RX6 ∈ lw_tbl := List.mem_of_getElem? (i := 547) (by decide +kernel)
theorem wF_X0_37 : Cond.fieldLink RX0 37 RX0 "reference" "I" ∈ lw_tbl := List.mem_of_getElem? (i := 548) (by decide +kernel)
theorem wFN_X6_194 : Cond.fieldLinkNest RX6 194 RX0 "reference" "I" RX6 ∈ lw_tbl := List.mem_of_getElem? (i := 549) (by decide +kernel)
theorem wM_L_59 : Cond.methodLink RL 59 yX6_go ∈ lw_tbl := List.mem_of_getElem? (i := 577) (by decide +kernel)
theorem wM_X6_140 : Cond.methodLink RX6 140 yX6_isNoReceiver ∈ lw_tbl := List.mem_of_getElem? (i := 581) (by decide +kernel)
theorem wStr_X6_143 : Cond.stringRef RX6 143 "no such receiver" ∈ lw_tbl := List.mem_of_getElem? (i := 585) (by decide +kernel)
theorem wStr_X6_145 : Cond.stringRef RX6 145 "x or y" ∈ lw_tbl := List.mem_of_getElem? (i := 586) (by decide +kernel)
theorem wM_X6_153 : Cond.methodLink RX6 153 yX6_rangeOf ∈ lw_tbl := List.mem_of_getElem? (i := 587) (by decide +kernel)
theorem wM_X6_302 : Cond.methodLink RX6 302 Lib.Math.abs.name ∈ lw_tbl := List.mem_of_getElem? (i := 590) (by decide +kernel)
theorem wM_L_62 : Cond.methodLink RL 62 yX6_hills ∈ lw_tbl := List.mem_of_getElem? (i := 591) (by decide +kernel)
theorem wStr_X6_157 : Cond.stringRef RX6 157 "left or right" ∈ lw_tbl := List.mem_of_getElem? (i := 595) (by decide +kernel)
theorem wM_X6_165 : Cond.methodLink RX6 165 yX6_setSeen ∈ lw_tbl := List.mem_of_getElem? (i := 596) (by decide +kernel)
theorem wMN_X6_306 : Cond.methodLinkNest RX6 306 yX0_canSee RX6 ∈ lw_tbl := List.mem_of_getElem? (i := 600) (by decide +kernel)
theorem wMN_X0_54 : Cond.methodLinkNest RX0 54 yX3_xIn RX6 ∈ lw_tbl := List.mem_of_getElem? (i := 604) (by decide +kernel)
theorem wMN_X0_63 : Cond.methodLinkNest RX0 63 yX3_yIn RX6 ∈ lw_tbl := List.mem_of_getElem? (i := 605) (by decide +kernel)
theorem wM_X6_169 : Cond.methodLink RX6 169 yJ6_bitCount_0f7a4 ∈ lw_tbl := List.mem_of_getElem? (i := 606) (by decide +kernel)
theorem wK_J6_265 : Cond.constant RJ6 265 (1431655765 : Int32) ∈ lw_tbl := List.mem_of_getElem? (i := 609) (by decide +kernel)
theorem wK_J6_266 : Cond.constant RJ6 266 (858993459 : Int32) ∈ lw_tbl := List.mem_of_getElem? (i := 610) (by decide +kernel)
theorem wK_J6_267 : Cond.constant RJ6 267 (252645135 : Int32) ∈ lw_tbl := List.mem_of_getElem? (i := 611) (by decide +kernel)
theorem wM_L_68 : Cond.methodLink RL 68 yX6_air ∈ lw_tbl := List.mem_of_getElem? (i := 612) (by decide +kernel)
theorem wStr_X6_175 : Cond.stringRef RX6 175 "iono" ∈ lw_tbl := List.mem_of_getElem? (i := 616) (by decide +kernel)
theorem wM_L_72 : Cond.methodLink RL 72 yX6_alert ∈ lw_tbl := List.mem_of_getElem? (i := 617) (by decide +kernel)
theorem wStr_X6_182 : Cond.stringRef RX6 182 "alert" ∈ lw_tbl := List.mem_of_getElem? (i := 621) (by decide +kernel)
theorem wM_L_75 : Cond.methodLink RL 75 yX6_spoof ∈ lw_tbl := List.mem_of_getElem? (i := 622) (by decide +kernel)
theorem wM_L_83 : Cond.methodLink RL 83 yX6_refer ∈ lw_tbl := List.mem_of_getElem? (i := 626) (by decide +kernel)
theorem wStr_X6_190 : Cond.stringRef RX6 190 "no such receiver or reference" ∈ lw_tbl := List.mem_of_getElem? (i := 630) (by decide +kernel)
theorem wStr_X6_192 : Cond.stringRef RX6 192 "a receiver is no reference of itself" ∈ lw_tbl := List.mem_of_getElem? (i := 631) (by decide +kernel)
theorem wM_L_86 : Cond.methodLink RL 86 yX6_pass ∈ lw_tbl := List.mem_of_getElem? (i := 632) (by decide +kernel)
theorem wStr_X6_197 : Cond.stringRef RX6 197 "epochs" ∈ lw_tbl := List.mem_of_getElem? (i := 636) (by decide +kernel)
theorem wM_X6_199 : Cond.methodLink RX6 199 yX6_passOne ∈ lw_tbl := List.mem_of_getElem? (i := 637) (by decide +kernel)
theorem wMN_X6_305 : Cond.methodLinkNest RX6 305 yX3_passOne RX6 ∈ lw_tbl := List.mem_of_getElem? (i := 641) (by decide +kernel)
theorem wM_X3_41 : Cond.methodLink RX3 41 yJ9_floorMod_7cf53 ∈ lw_tbl := List.mem_of_getElem? (i := 645) (by decide +kernel)
theorem wM_X3_46 : Cond.methodLink RX3 46 yX3_moveClock ∈ lw_tbl := List.mem_of_getElem? (i := 646) (by decide +kernel)
theorem wM_L_89 : Cond.methodLink RL 89 yX6_observe ∈ lw_tbl := List.mem_of_getElem? (i := 647) (by decide +kernel)
theorem wMN_X6_206 : Cond.methodLinkNest RX6 206 yX5_hasObservedIn RX6 ∈ lw_tbl := List.mem_of_getElem? (i := 651) (by decide +kernel)
theorem wStr_X6_211 : Cond.stringRef RX6 211 "it observed in this epoch" ∈ lw_tbl := List.mem_of_getElem? (i := 655) (by decide +kernel)
theorem wM_X6_213 : Cond.methodLink RX6 213 yX6_measure ∈ lw_tbl := List.mem_of_getElem? (i := 656) (by decide +kernel)
theorem wMN_X6_309 : Cond.methodLinkNest RX6 309 yX0_trueCount RX6 ∈ lw_tbl := List.mem_of_getElem? (i := 660) (by decide +kernel)
theorem wMN_X0_66 : Cond.methodLinkNest RX0 66 yX6_rangeOf RX6 ∈ lw_tbl := List.mem_of_getElem? (i := 664) (by decide +kernel)
theorem wM_X6_313 : Cond.methodLink RX6 313 yX6_codeOf ∈ lw_tbl := List.mem_of_getElem? (i := 665) (by decide +kernel)
theorem wMN_X6_326 : Cond.methodLinkNest RX6 326 yX0_airDelay RX6 ∈ lw_tbl := List.mem_of_getElem? (i := 669) (by decide +kernel)
theorem wM_X0_76 : Cond.methodLink RX0 76 Lib.Math.abs.name ∈ lw_tbl := List.mem_of_getElem? (i := 673) (by decide +kernel)
theorem wMN_X6_316 : Cond.methodLinkNest RX6 316 yX1_take RX6 ∈ lw_tbl := List.mem_of_getElem? (i := 674) (by decide +kernel)
theorem wM_X1_15 : Cond.methodLink RX1 15 yX1_forget ∈ lw_tbl := List.mem_of_getElem? (i := 678) (by decide +kernel)
theorem wM_X1_25 : Cond.methodLink RX1 25 yJ9_floorDiv_7cf53 ∈ lw_tbl := List.mem_of_getElem? (i := 682) (by decide +kernel)
theorem wMN_X1_40 : Cond.methodLinkNest RX1 40 yX6_isOutside RX6 ∈ lw_tbl := List.mem_of_getElem? (i := 685) (by decide +kernel)
theorem wMN_X6_320 : Cond.methodLinkNest RX6 320 yX1_lose RX6 ∈ lw_tbl := List.mem_of_getElem? (i := 686) (by decide +kernel)
theorem wM_X6_217 : Cond.methodLink RX6 217 yX6_gatherMeasured ∈ lw_tbl := List.mem_of_getElem? (i := 690) (by decide +kernel)
theorem wMN_X6_329 : Cond.methodLinkNest RX6 329 yX2_clear RX6 ∈ lw_tbl := List.mem_of_getElem? (i := 694) (by decide +kernel)
theorem wMN_X6_335 : Cond.methodLinkNest RX6 335 yX3_messageHolds RX6 ∈ lw_tbl := List.mem_of_getElem? (i := 698) (by decide +kernel)
theorem wMN_X3_63 : Cond.methodLinkNest RX3 63 yX6_isOutside RX6 ∈ lw_tbl := List.mem_of_getElem? (i := 702) (by decide +kernel)
theorem wM_X6_341 : Cond.methodLink RX6 341 yX6_correctionOf ∈ lw_tbl := List.mem_of_getElem? (i := 703) (by decide +kernel)
theorem wMN_X6_369 : Cond.methodLinkNest RX6 369 yX5_hasObservedSince RX6 ∈ lw_tbl := List.mem_of_getElem? (i := 707) (by decide +kernel)
theorem wMN_X6_347 : Cond.methodLinkNest RX6 347 yX1_measured RX6 ∈ lw_tbl := List.mem_of_getElem? (i := 711) (by decide +kernel)
theorem wM_X6_354 : Cond.methodLink RX6 354 yX6_use ∈ lw_tbl := List.mem_of_getElem? (i := 715) (by decide +kernel)
theorem wMN_X6_358 : Cond.methodLinkNest RX6 358 yX3_toldX RX6 ∈ lw_tbl := List.mem_of_getElem? (i := 719) (by decide +kernel)
theorem wMN_X6_361 : Cond.methodLinkNest RX6 361 yX3_toldY RX6 ∈ lw_tbl := List.mem_of_getElem? (i := 723) (by decide +kernel)
theorem wMN_X6_364 : Cond.methodLinkNest RX6 364 yX3_toldClock RX6 ∈ lw_tbl := List.mem_of_getElem? (i := 727) (by decide +kernel)
theorem wMN_X6_367 : Cond.methodLinkNest RX6 367 yX2_use RX6 ∈ lw_tbl := List.mem_of_getElem? (i := 731) (by decide +kernel)
theorem wM_X6_220 : Cond.methodLink RX6 220 yX6_offerCorrections ∈ lw_tbl := List.mem_of_getElem? (i := 735) (by decide +kernel)
theorem wM_X6_375 : Cond.methodLink RX6 375 yX6_tooFar ∈ lw_tbl := List.mem_of_getElem? (i := 739) (by decide +kernel)
theorem wM_X6_379 : Cond.methodLink RX6 379 yJ9_floorDiv_7cf53 ∈ lw_tbl := List.mem_of_getElem? (i := 743) (by decide +kernel)
theorem wMN_X6_223 : Cond.methodLinkNest RX6 223 yX2_solve RX6 ∈ lw_tbl := List.mem_of_getElem? (i := 744) (by decide +kernel)
theorem wM_X2_34 : Cond.methodLink RX2 34 yX2_hasSolution ∈ lw_tbl := List.mem_of_getElem? (i := 748) (by decide +kernel)
theorem wM_X2_38 : Cond.methodLink RX2 38 yX2_search ∈ lw_tbl := List.mem_of_getElem? (i := 752) (by decide +kernel)
theorem wK_X2_77 : Cond.constantLong RX2 77 (-1 : Int64) ∈ lw_tbl := List.mem_of_getElem? (i := 756) (by decide +kernel)
theorem wM_X2_79 : Cond.methodLink RX2 79 yX2_tryPlace ∈ lw_tbl := List.mem_of_getElem? (i := 757) (by decide +kernel)
theorem wMN_X2_67 : Cond.methodLinkNest RX2 67 yX6_rangeOf RX6 ∈ lw_tbl := List.mem_of_getElem? (i := 761) (by decide +kernel)
theorem wM_X2_83 : Cond.methodLink RX2 83 yJ9_floorDiv_7cf53 ∈ lw_tbl := List.mem_of_getElem? (i := 762) (by decide +kernel)
theorem wM_X2_86 : Cond.methodLink RX2 86 yX2_costBy ∈ lw_tbl := List.mem_of_getElem? (i := 763) (by decide +kernel)
theorem wM_X2_71 : Cond.methodLink RX2 71 Lib.Math.max.name ∈ lw_tbl := List.mem_of_getElem? (i := 767) (by decide +kernel)
theorem wM_X6_226 : Cond.methodLink RX6 226 yX6_alarmOf ∈ lw_tbl := List.mem_of_getElem? (i := 768) (by decide +kernel)
theorem wMN_X6_392 : Cond.methodLinkNest RX6 392 yX5_leapsTo RX6 ∈ lw_tbl := List.mem_of_getElem? (i := 772) (by decide +kernel)
theorem wM_X5_24 : Cond.methodLink RX5 24 yX5_hasObservedIn ∈ lw_tbl := List.mem_of_getElem? (i := 776) (by decide +kernel)
theorem wMN_X5_37 : Cond.methodLinkNest RX5 37 yX6_rangeOf RX6 ∈ lw_tbl := List.mem_of_getElem? (i := 777) (by decide +kernel)
theorem wMN_X6_230 : Cond.methodLinkNest RX6 230 yX5_keepAll RX6 ∈ lw_tbl := List.mem_of_getElem? (i := 778) (by decide +kernel)
theorem wMN_X5_48 : Cond.methodLinkNest RX5 48 yX2_hasSolution RX6 ∈ lw_tbl := List.mem_of_getElem? (i := 782) (by decide +kernel)
theorem wM_X5_52 : Cond.methodLink RX5 52 yX5_keepSolution ∈ lw_tbl := List.mem_of_getElem? (i := 783) (by decide +kernel)
theorem wM_X5_71 : Cond.methodLink RX5 71 yX5_errorAt ∈ lw_tbl := List.mem_of_getElem? (i := 787) (by decide +kernel)
theorem wM_L_49 : Cond.methodLink RL 49 yX6_ofStar ∈ lw_tbl := List.mem_of_getElem? (i := 791) (by decide +kernel)
theorem wStr_X6_237 : Cond.stringRef RX6 237 "what" ∈ lw_tbl := List.mem_of_getElem? (i := 795) (by decide +kernel)
theorem wMN_X6_239 : Cond.methodLinkNest RX6 239 yX3_tell RX6 ∈ lw_tbl := List.mem_of_getElem? (i := 796) (by decide +kernel)
theorem wM_X3_67 : Cond.methodLink RX3 67 yX3_xIn ∈ lw_tbl := List.mem_of_getElem? (i := 800) (by decide +kernel)
theorem wM_X3_70 : Cond.methodLink RX3 70 yX3_yIn ∈ lw_tbl := List.mem_of_getElem? (i := 801) (by decide +kernel)
theorem wM_L_40 : Cond.methodLink RL 40 yX6_message ∈ lw_tbl := List.mem_of_getElem? (i := 802) (by decide +kernel)
theorem wMN_X6_242 : Cond.methodLinkNest RX6 242 yX3_tellMessage RX6 ∈ lw_tbl := List.mem_of_getElem? (i := 806) (by decide +kernel)
theorem wM_X3_73 : Cond.methodLink RX3 73 yX3_messageHolds ∈ lw_tbl := List.mem_of_getElem? (i := 810) (by decide +kernel)
theorem wM_X3_77 : Cond.methodLink RX3 77 yX3_toldClock ∈ lw_tbl := List.mem_of_getElem? (i := 811) (by decide +kernel)
theorem wM_X3_80 : Cond.methodLink RX3 80 Lib.Math.abs.name ∈ lw_tbl := List.mem_of_getElem? (i := 812) (by decide +kernel)
theorem wM_X3_83 : Cond.methodLink RX3 83 yX3_toldX ∈ lw_tbl := List.mem_of_getElem? (i := 813) (by decide +kernel)
theorem wM_X3_86 : Cond.methodLink RX3 86 yX3_toldY ∈ lw_tbl := List.mem_of_getElem? (i := 814) (by decide +kernel)
theorem wMN_X3_89 : Cond.methodLinkNest RX3 89 yX6_rangeOf RX6 ∈ lw_tbl := List.mem_of_getElem? (i := 815) (by decide +kernel)
theorem wM_L_92 : Cond.methodLink RL 92 yX6_seen ∈ lw_tbl := List.mem_of_getElem? (i := 816) (by decide +kernel)
theorem wStr_X6_245 : Cond.stringRef RX6 245 "no such receiver or star" ∈ lw_tbl := List.mem_of_getElem? (i := 820) (by decide +kernel)
theorem wMN_X6_251 : Cond.methodLinkNest RX6 251 yX1_tell RX6 ∈ lw_tbl := List.mem_of_getElem? (i := 821) (by decide +kernel)
theorem wM_X1_59 : Cond.methodLink RX1 59 yX1_tellSeen ∈ lw_tbl := List.mem_of_getElem? (i := 825) (by decide +kernel)
theorem wM_L_65 : Cond.methodLink RL 65 yX6_ofReceiver ∈ lw_tbl := List.mem_of_getElem? (i := 829) (by decide +kernel)
theorem wM_X6_254 : Cond.methodLink RX6 254 yX6_tellReceiver ∈ lw_tbl := List.mem_of_getElem? (i := 833) (by decide +kernel)
theorem wMN_X6_395 : Cond.methodLinkNest RX6 395 yX5_errorAt RX6 ∈ lw_tbl := List.mem_of_getElem? (i := 837) (by decide +kernel)
theorem wMN_X6_398 : Cond.methodLinkNest RX6 398 yX5_tell RX6 ∈ lw_tbl := List.mem_of_getElem? (i := 838) (by decide +kernel)
theorem wM_L_33 : Cond.methodLink RL 33 yX6_many ∈ lw_tbl := List.mem_of_getElem? (i := 842) (by decide +kernel)
theorem wM_X6_257 : Cond.methodLink RX6 257 yX6_countOf ∈ lw_tbl := List.mem_of_getElem? (i := 846) (by decide +kernel)
theorem wM_X6_399 : Cond.methodLink RX6 399 yX6_sumOfStars ∈ lw_tbl := List.mem_of_getElem? (i := 850) (by decide +kernel)
theorem wM_X6_402 : Cond.methodLink RX6 402 yX6_sumOfReceivers ∈ lw_tbl := List.mem_of_getElem? (i := 854) (by decide +kernel)
theorem wM_L_95 : Cond.methodLink RL 95 yX6_wouldSee ∈ lw_tbl := List.mem_of_getElem? (i := 858) (by decide +kernel)
theorem wM_L_37 : Cond.methodLink RL 37 yX6_heardIn ∈ lw_tbl := List.mem_of_getElem? (i := 862) (by decide +kernel)
theorem wStr_X6_264 : Cond.stringRef RX6 264 "no such star or station" ∈ lw_tbl := List.mem_of_getElem? (i := 866) (by decide +kernel)
theorem wM_X6_266 : Cond.methodLink RX6 266 yX6_firstHeard ∈ lw_tbl := List.mem_of_getElem? (i := 867) (by decide +kernel)
theorem wM_L_102 : Cond.methodLink RL 102 yX6_digest ∈ lw_tbl := List.mem_of_getElem? (i := 870) (by decide +kernel)
theorem wK_X6_284 : Cond.constantLong RX6 284 (58189 : Int64) ∈ lw_tbl := List.mem_of_getElem? (i := 874) (by decide +kernel)
theorem wK_X6_286 : Cond.constantLong RX6 286 (31 : Int64) ∈ lw_tbl := List.mem_of_getElem? (i := 875) (by decide +kernel)
theorem wM_X6_288 : Cond.methodLink RX6 288 yX6_digestStar ∈ lw_tbl := List.mem_of_getElem? (i := 876) (by decide +kernel)
theorem wM_X6_292 : Cond.methodLink RX6 292 yX6_digestReceiver ∈ lw_tbl := List.mem_of_getElem? (i := 880) (by decide +kernel)
theorem wM_X6_280 : Cond.methodLink RX6 280 yX6_supposedAlarm ∈ lw_tbl := List.mem_of_getElem? (i := 884) (by decide +kernel)
theorem wM_X6_270 : Cond.methodLink RX6 270 yX6_gatherSupposed ∈ lw_tbl := List.mem_of_getElem? (i := 888) (by decide +kernel)
theorem wM_L_18 : Cond.methodLink RL 18 yL_below ∈ lw_tbl := List.mem_of_getElem? (i := 892) (by decide +kernel)
theorem wK_L_7 : Cond.constant RL 7 (2147483647 : Int32) ∈ lw_tbl := List.mem_of_getElem? (i := 895) (by decide +kernel)
theorem wM_L_12 : Cond.methodLink RL 12 yL_cell ∈ lw_tbl := List.mem_of_getElem? (i := 896) (by decide +kernel)
theorem wK_L_8 : Cond.constant RL 8 (790386105 : Int32) ∈ lw_tbl := List.mem_of_getElem? (i := 899) (by decide +kernel)
theorem wM_L_98 : Cond.methodLink RL 98 yL_isSo ∈ lw_tbl := List.mem_of_getElem? (i := 900) (by decide +kernel)
theorem wM_L_78 : Cond.methodLink RL 78 Lib.Math.abs.name ∈ lw_tbl := List.mem_of_getElem? (i := 903) (by decide +kernel)
theorem wM_L_106 : Cond.methodLink RL 106 yX6_meanError ∈ lw_tbl := List.mem_of_getElem? (i := 904) (by decide +kernel)
theorem wMN_X6_260 : Cond.methodLinkNest RX6 260 yX5_meanOfErrors RX6 ∈ lw_tbl := List.mem_of_getElem? (i := 908) (by decide +kernel)
theorem cm_X6_init : CFm yX6_init cX6_init 1 none 0 := ⟨List.mem_of_getElem? (i := 78) (by decide +kernel), List.mem_of_getElem? (i := 59) (by decide +kernel), by decide +kernel⟩
theorem cf_X6_init : CFc yX6_init cX6_init 1 0 := ⟨cm_X6_init, rfl, List.mem_of_getElem? (i := 77) (by decide +kernel)⟩
theorem cm_X2_init : CFm yX2_init cX2_init 1 none 0 := ⟨List.mem_of_getElem? (i := 92) (by decide +kernel), List.mem_of_getElem? (i := 60) (by decide +kernel), by decide +kernel⟩
theorem cf_X2_init : CFc yX2_init cX2_init 1 0 := ⟨cm_X2_init, rfl, List.mem_of_getElem? (i := 91) (by decide +kernel)⟩
theorem cm_X6_star : CFm yX6_star cX6_star 6 (some .int) 5 := ⟨List.mem_of_getElem? (i := 180) (by decide +kernel), List.mem_of_getElem? (i := 59) (by decide +kernel), by decide +kernel⟩
theorem cf_X6_star : CFi yX6_star cX6_star 6 (some .int) 5 := ⟨cm_X6_star, List.mem_of_getElem? (i := 178) (by decide +kernel), List.mem_of_getElem? (i := 179) (by decide +kernel)⟩
theorem cm_X6_isOutside : CFm yX6_isOutside cX6_isOutside 3 (some .boolean) 3 := ⟨List.mem_of_getElem? (i := 183) (by decide +kernel), List.mem_of_getElem? (i := 59) (by decide +kernel), by decide +kernel⟩
theorem cf_X6_isOutside : CFs yX6_isOutside cX6_isOutside 3 (some .boolean) 3 := ⟨cm_X6_isOutside, List.mem_of_getElem? (i := 182) (by decide +kernel)⟩
theorem cm_X3_init : CFm yX3_init cX3_init 6 none 5 := ⟨List.mem_of_getElem? (i := 272) (by decide +kernel), List.mem_of_getElem? (i := 66) (by decide +kernel), by decide +kernel⟩
theorem cf_X3_init : CFc yX3_init cX3_init 6 5 := ⟨cm_X3_init, rfl, List.mem_of_getElem? (i := 271) (by decide +kernel)⟩
theorem cm_X6_push : CFm yX6_push cX6_push 4 (some .int) 2 := ⟨List.mem_of_getElem? (i := 319) (by decide +kernel), List.mem_of_getElem? (i := 59) (by decide +kernel), by decide +kernel⟩
theorem cf_X6_push : CFi yX6_push cX6_push 4 (some .int) 2 := ⟨cm_X6_push, List.mem_of_getElem? (i := 317) (by decide +kernel), List.mem_of_getElem? (i := 318) (by decide +kernel)⟩
theorem cm_X6_isNoStar : CFm yX6_isNoStar cX6_isNoStar 2 (some .boolean) 1 := ⟨List.mem_of_getElem? (i := 323) (by decide +kernel), List.mem_of_getElem? (i := 59) (by decide +kernel), by decide +kernel⟩
theorem cf_X6_isNoStar : CFi yX6_isNoStar cX6_isNoStar 2 (some .boolean) 1 := ⟨cm_X6_isNoStar, List.mem_of_getElem? (i := 322) (by decide +kernel), List.mem_of_getElem? (i := 1) (by decide +kernel)⟩
theorem cm_J9_floorMod_7cf53 : CFm yJ9_floorMod_7cf53 cJ9_floorMod_7cf53 3 (some .int) 2 := ⟨List.mem_of_getElem? (i := 343) (by decide +kernel), List.mem_of_getElem? (i := 72) (by decide +kernel), by decide +kernel⟩
theorem cf_J9_floorMod_7cf53 : CFs yJ9_floorMod_7cf53 cJ9_floorMod_7cf53 3 (some .int) 2 := ⟨cm_J9_floorMod_7cf53, List.mem_of_getElem? (i := 342) (by decide +kernel)⟩
theorem cm_X6_jump : CFm yX6_jump cX6_jump 5 (some .int) 3 := ⟨List.mem_of_getElem? (i := 347) (by decide +kernel), List.mem_of_getElem? (i := 59) (by decide +kernel), by decide +kernel⟩
theorem cf_X6_jump : CFi yX6_jump cX6_jump 5 (some .int) 3 := ⟨cm_X6_jump, List.mem_of_getElem? (i := 345) (by decide +kernel), List.mem_of_getElem? (i := 346) (by decide +kernel)⟩
theorem cm_X3_moveClock : CFm yX3_moveClock cX3_moveClock 2 none 1 := ⟨List.mem_of_getElem? (i := 351) (by decide +kernel), List.mem_of_getElem? (i := 66) (by decide +kernel), by decide +kernel⟩
theorem cf_X3_moveClock : CFi yX3_moveClock cX3_moveClock 2 none 1 := ⟨cm_X3_moveClock, List.mem_of_getElem? (i := 350) (by decide +kernel), List.mem_of_getElem? (i := 2) (by decide +kernel)⟩
theorem cm_X6_held : CFm yX6_held cX6_held 2 (some .int) 2 := ⟨List.mem_of_getElem? (i := 354) (by decide +kernel), List.mem_of_getElem? (i := 59) (by decide +kernel), by decide +kernel⟩
theorem cf_X6_held : CFs yX6_held cX6_held 2 (some .int) 2 := ⟨cm_X6_held, List.mem_of_getElem? (i := 353) (by decide +kernel)⟩
theorem cm_J9_min_7cf53 : CFm yJ9_min_7cf53 cJ9_min_7cf53 2 (some .int) 2 := ⟨List.mem_of_getElem? (i := 357) (by decide +kernel), List.mem_of_getElem? (i := 72) (by decide +kernel), by decide +kernel⟩
theorem cf_J9_min_7cf53 : CFs yJ9_min_7cf53 cJ9_min_7cf53 2 (some .int) 2 := ⟨cm_J9_min_7cf53, List.mem_of_getElem? (i := 356) (by decide +kernel)⟩
theorem cm_J9_max_7cf53 : CFm yJ9_max_7cf53 cJ9_max_7cf53 2 (some .int) 2 := ⟨List.mem_of_getElem? (i := 360) (by decide +kernel), List.mem_of_getElem? (i := 72) (by decide +kernel), by decide +kernel⟩
theorem cf_J9_max_7cf53 : CFs yJ9_max_7cf53 cJ9_max_7cf53 2 (some .int) 2 := ⟨cm_J9_max_7cf53, List.mem_of_getElem? (i := 359) (by decide +kernel)⟩
theorem cm_X6_health : CFm yX6_health cX6_health 4 (some .boolean) 2 := ⟨List.mem_of_getElem? (i := 364) (by decide +kernel), List.mem_of_getElem? (i := 59) (by decide +kernel), by decide +kernel⟩
theorem cf_X6_health : CFi yX6_health cX6_health 4 (some .boolean) 2 := ⟨cm_X6_health, List.mem_of_getElem? (i := 362) (by decide +kernel), List.mem_of_getElem? (i := 363) (by decide +kernel)⟩
theorem cm_X6_station : CFm yX6_station cX6_station 3 (some .int) 2 := ⟨List.mem_of_getElem? (i := 368) (by decide +kernel), List.mem_of_getElem? (i := 59) (by decide +kernel), by decide +kernel⟩
theorem cf_X6_station : CFi yX6_station cX6_station 3 (some .int) 2 := ⟨cm_X6_station, List.mem_of_getElem? (i := 366) (by decide +kernel), List.mem_of_getElem? (i := 367) (by decide +kernel)⟩
theorem cm_X4_init : CFm yX4_init cX4_init 3 none 2 := ⟨List.mem_of_getElem? (i := 374) (by decide +kernel), List.mem_of_getElem? (i := 67) (by decide +kernel), by decide +kernel⟩
theorem cf_X4_init : CFc yX4_init cX4_init 3 2 := ⟨cm_X4_init, rfl, List.mem_of_getElem? (i := 373) (by decide +kernel)⟩
theorem cm_X6_listen : CFm yX6_listen cX6_listen 5 (some .int) 2 := ⟨List.mem_of_getElem? (i := 387) (by decide +kernel), List.mem_of_getElem? (i := 59) (by decide +kernel), by decide +kernel⟩
theorem cf_X6_listen : CFi yX6_listen cX6_listen 5 (some .int) 2 := ⟨cm_X6_listen, List.mem_of_getElem? (i := 385) (by decide +kernel), List.mem_of_getElem? (i := 386) (by decide +kernel)⟩
theorem cm_X6_isNoStation : CFm yX6_isNoStation cX6_isNoStation 2 (some .boolean) 1 := ⟨List.mem_of_getElem? (i := 391) (by decide +kernel), List.mem_of_getElem? (i := 59) (by decide +kernel), by decide +kernel⟩
theorem cf_X6_isNoStation : CFi yX6_isNoStation cX6_isNoStation 2 (some .boolean) 1 := ⟨cm_X6_isNoStation, List.mem_of_getElem? (i := 390) (by decide +kernel), List.mem_of_getElem? (i := 3) (by decide +kernel)⟩
theorem cm_X4_canHear : CFm yX4_canHear cX4_canHear 4 (some .boolean) 2 := ⟨List.mem_of_getElem? (i := 396) (by decide +kernel), List.mem_of_getElem? (i := 67) (by decide +kernel), by decide +kernel⟩
theorem cf_X4_canHear : CFi yX4_canHear cX4_canHear 4 (some .boolean) 2 := ⟨cm_X4_canHear, List.mem_of_getElem? (i := 395) (by decide +kernel), List.mem_of_getElem? (i := 4) (by decide +kernel)⟩
theorem cm_X3_yIn : CFm yX3_yIn cX3_yIn 2 (some .int) 1 := ⟨List.mem_of_getElem? (i := 400) (by decide +kernel), List.mem_of_getElem? (i := 66) (by decide +kernel), by decide +kernel⟩
theorem cf_X3_yIn : CFi yX3_yIn cX3_yIn 2 (some .int) 1 := ⟨cm_X3_yIn, List.mem_of_getElem? (i := 399) (by decide +kernel), List.mem_of_getElem? (i := 5) (by decide +kernel)⟩
theorem cm_X6_swing : CFm yX6_swing cX6_swing 2 (some .int) 1 := ⟨List.mem_of_getElem? (i := 403) (by decide +kernel), List.mem_of_getElem? (i := 59) (by decide +kernel), by decide +kernel⟩
theorem cf_X6_swing : CFs yX6_swing cX6_swing 2 (some .int) 1 := ⟨cm_X6_swing, List.mem_of_getElem? (i := 402) (by decide +kernel)⟩
theorem cm_X3_xIn : CFm yX3_xIn cX3_xIn 2 (some .int) 1 := ⟨List.mem_of_getElem? (i := 407) (by decide +kernel), List.mem_of_getElem? (i := 66) (by decide +kernel), by decide +kernel⟩
theorem cf_X3_xIn : CFi yX3_xIn cX3_xIn 2 (some .int) 1 := ⟨cm_X3_xIn, List.mem_of_getElem? (i := 406) (by decide +kernel), List.mem_of_getElem? (i := 6) (by decide +kernel)⟩
theorem cm_J9_abs_0f7a4 : CFm yJ9_abs_0f7a4 cJ9_abs_0f7a4 1 (some .int) 1 := ⟨List.mem_of_getElem? (i := 410) (by decide +kernel), List.mem_of_getElem? (i := 72) (by decide +kernel), by decide +kernel⟩
theorem cf_J9_abs_0f7a4 : CFs yJ9_abs_0f7a4 cJ9_abs_0f7a4 1 (some .int) 1 := ⟨cm_J9_abs_0f7a4, List.mem_of_getElem? (i := 409) (by decide +kernel)⟩
theorem cm_X3_takeMessage : CFm yX3_takeMessage cX3_takeMessage 5 none 2 := ⟨List.mem_of_getElem? (i := 415) (by decide +kernel), List.mem_of_getElem? (i := 66) (by decide +kernel), by decide +kernel⟩
theorem cf_X3_takeMessage : CFi yX3_takeMessage cX3_takeMessage 5 none 2 := ⟨cm_X3_takeMessage, List.mem_of_getElem? (i := 414) (by decide +kernel), List.mem_of_getElem? (i := 7) (by decide +kernel)⟩
theorem cm_X6_receiver : CFm yX6_receiver cX6_receiver 4 (some .int) 3 := ⟨List.mem_of_getElem? (i := 419) (by decide +kernel), List.mem_of_getElem? (i := 59) (by decide +kernel), by decide +kernel⟩
theorem cf_X6_receiver : CFi yX6_receiver cX6_receiver 4 (some .int) 3 := ⟨cm_X6_receiver, List.mem_of_getElem? (i := 417) (by decide +kernel), List.mem_of_getElem? (i := 418) (by decide +kernel)⟩
theorem cm_X6_isNoPlace : CFm yX6_isNoPlace cX6_isNoPlace 2 (some .boolean) 2 := ⟨List.mem_of_getElem? (i := 422) (by decide +kernel), List.mem_of_getElem? (i := 59) (by decide +kernel), by decide +kernel⟩
theorem cf_X6_isNoPlace : CFs yX6_isNoPlace cX6_isNoPlace 2 (some .boolean) 2 := ⟨cm_X6_isNoPlace, List.mem_of_getElem? (i := 421) (by decide +kernel)⟩
theorem cm_X0_init : CFm yX0_init cX0_init 6 none 4 := ⟨List.mem_of_getElem? (i := 428) (by decide +kernel), List.mem_of_getElem? (i := 68) (by decide +kernel), by decide +kernel⟩
theorem cf_X0_init : CFc yX0_init cX0_init 6 4 := ⟨cm_X0_init, rfl, List.mem_of_getElem? (i := 427) (by decide +kernel)⟩
theorem cm_X5_init : CFm yX5_init cX5_init 1 none 0 := ⟨List.mem_of_getElem? (i := 434) (by decide +kernel), List.mem_of_getElem? (i := 69) (by decide +kernel), by decide +kernel⟩
theorem cf_X5_init : CFc yX5_init cX5_init 1 0 := ⟨cm_X5_init, rfl, List.mem_of_getElem? (i := 433) (by decide +kernel)⟩
theorem cm_X1_init : CFm yX1_init cX1_init 1 none 0 := ⟨List.mem_of_getElem? (i := 484) (by decide +kernel), List.mem_of_getElem? (i := 70) (by decide +kernel), by decide +kernel⟩
theorem cf_X1_init : CFc yX1_init cX1_init 1 0 := ⟨cm_X1_init, rfl, List.mem_of_getElem? (i := 483) (by decide +kernel)⟩
theorem cm_X6_go : CFm yX6_go cX6_go 6 (some .int) 3 := ⟨List.mem_of_getElem? (i := 580) (by decide +kernel), List.mem_of_getElem? (i := 59) (by decide +kernel), by decide +kernel⟩
theorem cf_X6_go : CFi yX6_go cX6_go 6 (some .int) 3 := ⟨cm_X6_go, List.mem_of_getElem? (i := 578) (by decide +kernel), List.mem_of_getElem? (i := 579) (by decide +kernel)⟩
theorem cm_X6_isNoReceiver : CFm yX6_isNoReceiver cX6_isNoReceiver 2 (some .boolean) 1 := ⟨List.mem_of_getElem? (i := 584) (by decide +kernel), List.mem_of_getElem? (i := 59) (by decide +kernel), by decide +kernel⟩
theorem cf_X6_isNoReceiver : CFi yX6_isNoReceiver cX6_isNoReceiver 2 (some .boolean) 1 := ⟨cm_X6_isNoReceiver, List.mem_of_getElem? (i := 583) (by decide +kernel), List.mem_of_getElem? (i := 8) (by decide +kernel)⟩
theorem cm_X6_rangeOf : CFm yX6_rangeOf cX6_rangeOf 4 (some .int) 4 := ⟨List.mem_of_getElem? (i := 589) (by decide +kernel), List.mem_of_getElem? (i := 59) (by decide +kernel), by decide +kernel⟩
theorem cf_X6_rangeOf : CFs yX6_rangeOf cX6_rangeOf 4 (some .int) 4 := ⟨cm_X6_rangeOf, List.mem_of_getElem? (i := 588) (by decide +kernel)⟩
theorem cm_X6_hills : CFm yX6_hills cX6_hills 5 (some .int) 3 := ⟨List.mem_of_getElem? (i := 594) (by decide +kernel), List.mem_of_getElem? (i := 59) (by decide +kernel), by decide +kernel⟩
theorem cf_X6_hills : CFi yX6_hills cX6_hills 5 (some .int) 3 := ⟨cm_X6_hills, List.mem_of_getElem? (i := 592) (by decide +kernel), List.mem_of_getElem? (i := 593) (by decide +kernel)⟩
theorem cm_X6_setSeen : CFm yX6_setSeen cX6_setSeen 5 (some .int) 2 := ⟨List.mem_of_getElem? (i := 599) (by decide +kernel), List.mem_of_getElem? (i := 59) (by decide +kernel), by decide +kernel⟩
theorem cf_X6_setSeen : CFi yX6_setSeen cX6_setSeen 5 (some .int) 2 := ⟨cm_X6_setSeen, List.mem_of_getElem? (i := 598) (by decide +kernel), List.mem_of_getElem? (i := 9) (by decide +kernel)⟩
theorem cm_X0_canSee : CFm yX0_canSee cX0_canSee 4 (some .boolean) 2 := ⟨List.mem_of_getElem? (i := 603) (by decide +kernel), List.mem_of_getElem? (i := 68) (by decide +kernel), by decide +kernel⟩
theorem cf_X0_canSee : CFi yX0_canSee cX0_canSee 4 (some .boolean) 2 := ⟨cm_X0_canSee, List.mem_of_getElem? (i := 602) (by decide +kernel), List.mem_of_getElem? (i := 10) (by decide +kernel)⟩
theorem cm_J6_bitCount_0f7a4 : CFm yJ6_bitCount_0f7a4 cJ6_bitCount_0f7a4 1 (some .int) 1 := ⟨List.mem_of_getElem? (i := 608) (by decide +kernel), List.mem_of_getElem? (i := 73) (by decide +kernel), by decide +kernel⟩
theorem cf_J6_bitCount_0f7a4 : CFs yJ6_bitCount_0f7a4 cJ6_bitCount_0f7a4 1 (some .int) 1 := ⟨cm_J6_bitCount_0f7a4, List.mem_of_getElem? (i := 607) (by decide +kernel)⟩
theorem cm_X6_air : CFm yX6_air cX6_air 6 (some .int) 3 := ⟨List.mem_of_getElem? (i := 615) (by decide +kernel), List.mem_of_getElem? (i := 59) (by decide +kernel), by decide +kernel⟩
theorem cf_X6_air : CFi yX6_air cX6_air 6 (some .int) 3 := ⟨cm_X6_air, List.mem_of_getElem? (i := 613) (by decide +kernel), List.mem_of_getElem? (i := 614) (by decide +kernel)⟩
theorem cm_X6_alert : CFm yX6_alert cX6_alert 4 (some .int) 2 := ⟨List.mem_of_getElem? (i := 620) (by decide +kernel), List.mem_of_getElem? (i := 59) (by decide +kernel), by decide +kernel⟩
theorem cf_X6_alert : CFi yX6_alert cX6_alert 4 (some .int) 2 := ⟨cm_X6_alert, List.mem_of_getElem? (i := 618) (by decide +kernel), List.mem_of_getElem? (i := 619) (by decide +kernel)⟩
theorem cm_X6_spoof : CFm yX6_spoof cX6_spoof 4 (some .int) 2 := ⟨List.mem_of_getElem? (i := 625) (by decide +kernel), List.mem_of_getElem? (i := 59) (by decide +kernel), by decide +kernel⟩
theorem cf_X6_spoof : CFi yX6_spoof cX6_spoof 4 (some .int) 2 := ⟨cm_X6_spoof, List.mem_of_getElem? (i := 623) (by decide +kernel), List.mem_of_getElem? (i := 624) (by decide +kernel)⟩
theorem cm_X6_refer : CFm yX6_refer cX6_refer 4 (some .int) 2 := ⟨List.mem_of_getElem? (i := 629) (by decide +kernel), List.mem_of_getElem? (i := 59) (by decide +kernel), by decide +kernel⟩
theorem cf_X6_refer : CFi yX6_refer cX6_refer 4 (some .int) 2 := ⟨cm_X6_refer, List.mem_of_getElem? (i := 627) (by decide +kernel), List.mem_of_getElem? (i := 628) (by decide +kernel)⟩
theorem cm_X6_pass : CFm yX6_pass cX6_pass 3 (some .int) 1 := ⟨List.mem_of_getElem? (i := 635) (by decide +kernel), List.mem_of_getElem? (i := 59) (by decide +kernel), by decide +kernel⟩
theorem cf_X6_pass : CFi yX6_pass cX6_pass 3 (some .int) 1 := ⟨cm_X6_pass, List.mem_of_getElem? (i := 633) (by decide +kernel), List.mem_of_getElem? (i := 634) (by decide +kernel)⟩
theorem cm_X6_passOne : CFm yX6_passOne cX6_passOne 2 none 0 := ⟨List.mem_of_getElem? (i := 640) (by decide +kernel), List.mem_of_getElem? (i := 59) (by decide +kernel), by decide +kernel⟩
theorem cf_X6_passOne : CFi yX6_passOne cX6_passOne 2 none 0 := ⟨cm_X6_passOne, List.mem_of_getElem? (i := 639) (by decide +kernel), List.mem_of_getElem? (i := 11) (by decide +kernel)⟩
theorem cm_X3_passOne : CFm yX3_passOne cX3_passOne 1 none 0 := ⟨List.mem_of_getElem? (i := 644) (by decide +kernel), List.mem_of_getElem? (i := 66) (by decide +kernel), by decide +kernel⟩
theorem cf_X3_passOne : CFi yX3_passOne cX3_passOne 1 none 0 := ⟨cm_X3_passOne, List.mem_of_getElem? (i := 643) (by decide +kernel), List.mem_of_getElem? (i := 12) (by decide +kernel)⟩
theorem cm_X6_observe : CFm yX6_observe cX6_observe 4 (some .int) 1 := ⟨List.mem_of_getElem? (i := 650) (by decide +kernel), List.mem_of_getElem? (i := 59) (by decide +kernel), by decide +kernel⟩
theorem cf_X6_observe : CFi yX6_observe cX6_observe 4 (some .int) 1 := ⟨cm_X6_observe, List.mem_of_getElem? (i := 648) (by decide +kernel), List.mem_of_getElem? (i := 649) (by decide +kernel)⟩
theorem cm_X5_hasObservedIn : CFm yX5_hasObservedIn cX5_hasObservedIn 2 (some .boolean) 1 := ⟨List.mem_of_getElem? (i := 654) (by decide +kernel), List.mem_of_getElem? (i := 69) (by decide +kernel), by decide +kernel⟩
theorem cf_X5_hasObservedIn : CFi yX5_hasObservedIn cX5_hasObservedIn 2 (some .boolean) 1 := ⟨cm_X5_hasObservedIn, List.mem_of_getElem? (i := 653) (by decide +kernel), List.mem_of_getElem? (i := 13) (by decide +kernel)⟩
theorem cm_X6_measure : CFm yX6_measure cX6_measure 6 none 1 := ⟨List.mem_of_getElem? (i := 659) (by decide +kernel), List.mem_of_getElem? (i := 59) (by decide +kernel), by decide +kernel⟩
theorem cf_X6_measure : CFi yX6_measure cX6_measure 6 none 1 := ⟨cm_X6_measure, List.mem_of_getElem? (i := 658) (by decide +kernel), List.mem_of_getElem? (i := 14) (by decide +kernel)⟩
theorem cm_X0_trueCount : CFm yX0_trueCount cX0_trueCount 4 (some .int) 1 := ⟨List.mem_of_getElem? (i := 663) (by decide +kernel), List.mem_of_getElem? (i := 68) (by decide +kernel), by decide +kernel⟩
theorem cf_X0_trueCount : CFi yX0_trueCount cX0_trueCount 4 (some .int) 1 := ⟨cm_X0_trueCount, List.mem_of_getElem? (i := 662) (by decide +kernel), List.mem_of_getElem? (i := 15) (by decide +kernel)⟩
theorem cm_X6_codeOf : CFm yX6_codeOf cX6_codeOf 4 (some .int) 2 := ⟨List.mem_of_getElem? (i := 668) (by decide +kernel), List.mem_of_getElem? (i := 59) (by decide +kernel), by decide +kernel⟩
theorem cf_X6_codeOf : CFi yX6_codeOf cX6_codeOf 4 (some .int) 2 := ⟨cm_X6_codeOf, List.mem_of_getElem? (i := 667) (by decide +kernel), List.mem_of_getElem? (i := 16) (by decide +kernel)⟩
theorem cm_X0_airDelay : CFm yX0_airDelay cX0_airDelay 3 (some .int) 1 := ⟨List.mem_of_getElem? (i := 672) (by decide +kernel), List.mem_of_getElem? (i := 68) (by decide +kernel), by decide +kernel⟩
theorem cf_X0_airDelay : CFi yX0_airDelay cX0_airDelay 3 (some .int) 1 := ⟨cm_X0_airDelay, List.mem_of_getElem? (i := 671) (by decide +kernel), List.mem_of_getElem? (i := 17) (by decide +kernel)⟩
theorem cm_X1_take : CFm yX1_take cX1_take 5 none 3 := ⟨List.mem_of_getElem? (i := 677) (by decide +kernel), List.mem_of_getElem? (i := 70) (by decide +kernel), by decide +kernel⟩
theorem cf_X1_take : CFi yX1_take cX1_take 5 none 3 := ⟨cm_X1_take, List.mem_of_getElem? (i := 676) (by decide +kernel), List.mem_of_getElem? (i := 18) (by decide +kernel)⟩
theorem cm_X1_forget : CFm yX1_forget cX1_forget 1 none 0 := ⟨List.mem_of_getElem? (i := 681) (by decide +kernel), List.mem_of_getElem? (i := 70) (by decide +kernel), by decide +kernel⟩
theorem cf_X1_forget : CFi yX1_forget cX1_forget 1 none 0 := ⟨cm_X1_forget, List.mem_of_getElem? (i := 680) (by decide +kernel), List.mem_of_getElem? (i := 19) (by decide +kernel)⟩
theorem cm_J9_floorDiv_7cf53 : CFm yJ9_floorDiv_7cf53 cJ9_floorDiv_7cf53 3 (some .int) 2 := ⟨List.mem_of_getElem? (i := 684) (by decide +kernel), List.mem_of_getElem? (i := 72) (by decide +kernel), by decide +kernel⟩
theorem cf_J9_floorDiv_7cf53 : CFs yJ9_floorDiv_7cf53 cJ9_floorDiv_7cf53 3 (some .int) 2 := ⟨cm_J9_floorDiv_7cf53, List.mem_of_getElem? (i := 683) (by decide +kernel)⟩
theorem cm_X1_lose : CFm yX1_lose cX1_lose 1 none 0 := ⟨List.mem_of_getElem? (i := 689) (by decide +kernel), List.mem_of_getElem? (i := 70) (by decide +kernel), by decide +kernel⟩
theorem cf_X1_lose : CFi yX1_lose cX1_lose 1 none 0 := ⟨cm_X1_lose, List.mem_of_getElem? (i := 688) (by decide +kernel), List.mem_of_getElem? (i := 20) (by decide +kernel)⟩
theorem cm_X6_gatherMeasured : CFm yX6_gatherMeasured cX6_gatherMeasured 4 none 1 := ⟨List.mem_of_getElem? (i := 693) (by decide +kernel), List.mem_of_getElem? (i := 59) (by decide +kernel), by decide +kernel⟩
theorem cf_X6_gatherMeasured : CFi yX6_gatherMeasured cX6_gatherMeasured 4 none 1 := ⟨cm_X6_gatherMeasured, List.mem_of_getElem? (i := 692) (by decide +kernel), List.mem_of_getElem? (i := 21) (by decide +kernel)⟩
theorem cm_X2_clear : CFm yX2_clear cX2_clear 1 none 0 := ⟨List.mem_of_getElem? (i := 697) (by decide +kernel), List.mem_of_getElem? (i := 60) (by decide +kernel), by decide +kernel⟩
theorem cf_X2_clear : CFi yX2_clear cX2_clear 1 none 0 := ⟨cm_X2_clear, List.mem_of_getElem? (i := 696) (by decide +kernel), List.mem_of_getElem? (i := 22) (by decide +kernel)⟩
theorem cm_X3_messageHolds : CFm yX3_messageHolds cX3_messageHolds 2 (some .boolean) 1 := ⟨List.mem_of_getElem? (i := 701) (by decide +kernel), List.mem_of_getElem? (i := 66) (by decide +kernel), by decide +kernel⟩
theorem cf_X3_messageHolds : CFi yX3_messageHolds cX3_messageHolds 2 (some .boolean) 1 := ⟨cm_X3_messageHolds, List.mem_of_getElem? (i := 700) (by decide +kernel), List.mem_of_getElem? (i := 23) (by decide +kernel)⟩
theorem cm_X6_correctionOf : CFm yX6_correctionOf cX6_correctionOf 4 (some .int) 2 := ⟨List.mem_of_getElem? (i := 706) (by decide +kernel), List.mem_of_getElem? (i := 59) (by decide +kernel), by decide +kernel⟩
theorem cf_X6_correctionOf : CFi yX6_correctionOf cX6_correctionOf 4 (some .int) 2 := ⟨cm_X6_correctionOf, List.mem_of_getElem? (i := 705) (by decide +kernel), List.mem_of_getElem? (i := 24) (by decide +kernel)⟩
theorem cm_X5_hasObservedSince : CFm yX5_hasObservedSince cX5_hasObservedSince 2 (some .boolean) 1 := ⟨List.mem_of_getElem? (i := 710) (by decide +kernel), List.mem_of_getElem? (i := 69) (by decide +kernel), by decide +kernel⟩
theorem cf_X5_hasObservedSince : CFi yX5_hasObservedSince cX5_hasObservedSince 2 (some .boolean) 1 := ⟨cm_X5_hasObservedSince, List.mem_of_getElem? (i := 709) (by decide +kernel), List.mem_of_getElem? (i := 25) (by decide +kernel)⟩
theorem cm_X1_measured : CFm yX1_measured cX1_measured 1 (some .int) 0 := ⟨List.mem_of_getElem? (i := 714) (by decide +kernel), List.mem_of_getElem? (i := 70) (by decide +kernel), by decide +kernel⟩
theorem cf_X1_measured : CFi yX1_measured cX1_measured 1 (some .int) 0 := ⟨cm_X1_measured, List.mem_of_getElem? (i := 713) (by decide +kernel), List.mem_of_getElem? (i := 26) (by decide +kernel)⟩
theorem cm_X6_use : CFm yX6_use cX6_use 7 none 3 := ⟨List.mem_of_getElem? (i := 718) (by decide +kernel), List.mem_of_getElem? (i := 59) (by decide +kernel), by decide +kernel⟩
theorem cf_X6_use : CFi yX6_use cX6_use 7 none 3 := ⟨cm_X6_use, List.mem_of_getElem? (i := 717) (by decide +kernel), List.mem_of_getElem? (i := 27) (by decide +kernel)⟩
theorem cm_X3_toldX : CFm yX3_toldX cX3_toldX 2 (some .int) 1 := ⟨List.mem_of_getElem? (i := 722) (by decide +kernel), List.mem_of_getElem? (i := 66) (by decide +kernel), by decide +kernel⟩
theorem cf_X3_toldX : CFi yX3_toldX cX3_toldX 2 (some .int) 1 := ⟨cm_X3_toldX, List.mem_of_getElem? (i := 721) (by decide +kernel), List.mem_of_getElem? (i := 28) (by decide +kernel)⟩
theorem cm_X3_toldY : CFm yX3_toldY cX3_toldY 2 (some .int) 1 := ⟨List.mem_of_getElem? (i := 726) (by decide +kernel), List.mem_of_getElem? (i := 66) (by decide +kernel), by decide +kernel⟩
theorem cf_X3_toldY : CFi yX3_toldY cX3_toldY 2 (some .int) 1 := ⟨cm_X3_toldY, List.mem_of_getElem? (i := 725) (by decide +kernel), List.mem_of_getElem? (i := 29) (by decide +kernel)⟩
theorem cm_X3_toldClock : CFm yX3_toldClock cX3_toldClock 2 (some .int) 1 := ⟨List.mem_of_getElem? (i := 730) (by decide +kernel), List.mem_of_getElem? (i := 66) (by decide +kernel), by decide +kernel⟩
theorem cf_X3_toldClock : CFi yX3_toldClock cX3_toldClock 2 (some .int) 1 := ⟨cm_X3_toldClock, List.mem_of_getElem? (i := 729) (by decide +kernel), List.mem_of_getElem? (i := 30) (by decide +kernel)⟩
theorem cm_X2_use : CFm yX2_use cX2_use 5 none 4 := ⟨List.mem_of_getElem? (i := 734) (by decide +kernel), List.mem_of_getElem? (i := 60) (by decide +kernel), by decide +kernel⟩
theorem cf_X2_use : CFi yX2_use cX2_use 5 none 4 := ⟨cm_X2_use, List.mem_of_getElem? (i := 733) (by decide +kernel), List.mem_of_getElem? (i := 31) (by decide +kernel)⟩
theorem cm_X6_offerCorrections : CFm yX6_offerCorrections cX6_offerCorrections 6 none 1 := ⟨List.mem_of_getElem? (i := 738) (by decide +kernel), List.mem_of_getElem? (i := 59) (by decide +kernel), by decide +kernel⟩
theorem cf_X6_offerCorrections : CFi yX6_offerCorrections cX6_offerCorrections 6 none 1 := ⟨cm_X6_offerCorrections, List.mem_of_getElem? (i := 737) (by decide +kernel), List.mem_of_getElem? (i := 32) (by decide +kernel)⟩
theorem cm_X6_tooFar : CFm yX6_tooFar cX6_tooFar 5 (some .int) 3 := ⟨List.mem_of_getElem? (i := 742) (by decide +kernel), List.mem_of_getElem? (i := 59) (by decide +kernel), by decide +kernel⟩
theorem cf_X6_tooFar : CFi yX6_tooFar cX6_tooFar 5 (some .int) 3 := ⟨cm_X6_tooFar, List.mem_of_getElem? (i := 741) (by decide +kernel), List.mem_of_getElem? (i := 33) (by decide +kernel)⟩
theorem cm_X2_solve : CFm yX2_solve cX2_solve 3 none 0 := ⟨List.mem_of_getElem? (i := 747) (by decide +kernel), List.mem_of_getElem? (i := 60) (by decide +kernel), by decide +kernel⟩
theorem cf_X2_solve : CFi yX2_solve cX2_solve 3 none 0 := ⟨cm_X2_solve, List.mem_of_getElem? (i := 746) (by decide +kernel), List.mem_of_getElem? (i := 34) (by decide +kernel)⟩
theorem cm_X2_hasSolution : CFm yX2_hasSolution cX2_hasSolution 1 (some .boolean) 0 := ⟨List.mem_of_getElem? (i := 751) (by decide +kernel), List.mem_of_getElem? (i := 60) (by decide +kernel), by decide +kernel⟩
theorem cf_X2_hasSolution : CFi yX2_hasSolution cX2_hasSolution 1 (some .boolean) 0 := ⟨cm_X2_hasSolution, List.mem_of_getElem? (i := 750) (by decide +kernel), List.mem_of_getElem? (i := 35) (by decide +kernel)⟩
theorem cm_X2_search : CFm yX2_search cX2_search 4 none 1 := ⟨List.mem_of_getElem? (i := 755) (by decide +kernel), List.mem_of_getElem? (i := 60) (by decide +kernel), by decide +kernel⟩
theorem cf_X2_search : CFi yX2_search cX2_search 4 none 1 := ⟨cm_X2_search, List.mem_of_getElem? (i := 754) (by decide +kernel), List.mem_of_getElem? (i := 36) (by decide +kernel)⟩
theorem cm_X2_tryPlace : CFm yX2_tryPlace cX2_tryPlace 9 none 3 := ⟨List.mem_of_getElem? (i := 760) (by decide +kernel), List.mem_of_getElem? (i := 60) (by decide +kernel), by decide +kernel⟩
theorem cf_X2_tryPlace : CFi yX2_tryPlace cX2_tryPlace 9 none 3 := ⟨cm_X2_tryPlace, List.mem_of_getElem? (i := 759) (by decide +kernel), List.mem_of_getElem? (i := 37) (by decide +kernel)⟩
theorem cm_X2_costBy : CFm yX2_costBy cX2_costBy 8 (some .long) 2 := ⟨List.mem_of_getElem? (i := 766) (by decide +kernel), List.mem_of_getElem? (i := 60) (by decide +kernel), by decide +kernel⟩
theorem cf_X2_costBy : CFi yX2_costBy cX2_costBy 8 (some .long) 2 := ⟨cm_X2_costBy, List.mem_of_getElem? (i := 765) (by decide +kernel), List.mem_of_getElem? (i := 38) (by decide +kernel)⟩
theorem cm_X6_alarmOf : CFm yX6_alarmOf cX6_alarmOf 3 (some .int) 2 := ⟨List.mem_of_getElem? (i := 771) (by decide +kernel), List.mem_of_getElem? (i := 59) (by decide +kernel), by decide +kernel⟩
theorem cf_X6_alarmOf : CFi yX6_alarmOf cX6_alarmOf 3 (some .int) 2 := ⟨cm_X6_alarmOf, List.mem_of_getElem? (i := 770) (by decide +kernel), List.mem_of_getElem? (i := 39) (by decide +kernel)⟩
theorem cm_X5_leapsTo : CFm yX5_leapsTo cX5_leapsTo 4 (some .boolean) 3 := ⟨List.mem_of_getElem? (i := 775) (by decide +kernel), List.mem_of_getElem? (i := 69) (by decide +kernel), by decide +kernel⟩
theorem cf_X5_leapsTo : CFi yX5_leapsTo cX5_leapsTo 4 (some .boolean) 3 := ⟨cm_X5_leapsTo, List.mem_of_getElem? (i := 774) (by decide +kernel), List.mem_of_getElem? (i := 40) (by decide +kernel)⟩
theorem cm_X5_keepAll : CFm yX5_keepAll cX5_keepAll 6 none 5 := ⟨List.mem_of_getElem? (i := 781) (by decide +kernel), List.mem_of_getElem? (i := 69) (by decide +kernel), by decide +kernel⟩
theorem cf_X5_keepAll : CFi yX5_keepAll cX5_keepAll 6 none 5 := ⟨cm_X5_keepAll, List.mem_of_getElem? (i := 780) (by decide +kernel), List.mem_of_getElem? (i := 41) (by decide +kernel)⟩
theorem cm_X5_keepSolution : CFm yX5_keepSolution cX5_keepSolution 5 none 3 := ⟨List.mem_of_getElem? (i := 786) (by decide +kernel), List.mem_of_getElem? (i := 69) (by decide +kernel), by decide +kernel⟩
theorem cf_X5_keepSolution : CFi yX5_keepSolution cX5_keepSolution 5 none 3 := ⟨cm_X5_keepSolution, List.mem_of_getElem? (i := 785) (by decide +kernel), List.mem_of_getElem? (i := 42) (by decide +kernel)⟩
theorem cm_X5_errorAt : CFm yX5_errorAt cX5_errorAt 3 (some .int) 2 := ⟨List.mem_of_getElem? (i := 790) (by decide +kernel), List.mem_of_getElem? (i := 69) (by decide +kernel), by decide +kernel⟩
theorem cf_X5_errorAt : CFi yX5_errorAt cX5_errorAt 3 (some .int) 2 := ⟨cm_X5_errorAt, List.mem_of_getElem? (i := 789) (by decide +kernel), List.mem_of_getElem? (i := 43) (by decide +kernel)⟩
theorem cm_X6_ofStar : CFm yX6_ofStar cX6_ofStar 3 (some .int) 2 := ⟨List.mem_of_getElem? (i := 794) (by decide +kernel), List.mem_of_getElem? (i := 59) (by decide +kernel), by decide +kernel⟩
theorem cf_X6_ofStar : CFi yX6_ofStar cX6_ofStar 3 (some .int) 2 := ⟨cm_X6_ofStar, List.mem_of_getElem? (i := 792) (by decide +kernel), List.mem_of_getElem? (i := 793) (by decide +kernel)⟩
theorem cm_X3_tell : CFm yX3_tell cX3_tell 2 (some .int) 1 := ⟨List.mem_of_getElem? (i := 799) (by decide +kernel), List.mem_of_getElem? (i := 66) (by decide +kernel), by decide +kernel⟩
theorem cf_X3_tell : CFi yX3_tell cX3_tell 2 (some .int) 1 := ⟨cm_X3_tell, List.mem_of_getElem? (i := 798) (by decide +kernel), List.mem_of_getElem? (i := 44) (by decide +kernel)⟩
theorem cm_X6_message : CFm yX6_message cX6_message 3 (some .int) 2 := ⟨List.mem_of_getElem? (i := 805) (by decide +kernel), List.mem_of_getElem? (i := 59) (by decide +kernel), by decide +kernel⟩
theorem cf_X6_message : CFi yX6_message cX6_message 3 (some .int) 2 := ⟨cm_X6_message, List.mem_of_getElem? (i := 803) (by decide +kernel), List.mem_of_getElem? (i := 804) (by decide +kernel)⟩
theorem cm_X3_tellMessage : CFm yX3_tellMessage cX3_tellMessage 3 (some .int) 2 := ⟨List.mem_of_getElem? (i := 809) (by decide +kernel), List.mem_of_getElem? (i := 66) (by decide +kernel), by decide +kernel⟩
theorem cf_X3_tellMessage : CFi yX3_tellMessage cX3_tellMessage 3 (some .int) 2 := ⟨cm_X3_tellMessage, List.mem_of_getElem? (i := 808) (by decide +kernel), List.mem_of_getElem? (i := 45) (by decide +kernel)⟩
theorem cm_X6_seen : CFm yX6_seen cX6_seen 4 (some .int) 3 := ⟨List.mem_of_getElem? (i := 819) (by decide +kernel), List.mem_of_getElem? (i := 59) (by decide +kernel), by decide +kernel⟩
theorem cf_X6_seen : CFi yX6_seen cX6_seen 4 (some .int) 3 := ⟨cm_X6_seen, List.mem_of_getElem? (i := 817) (by decide +kernel), List.mem_of_getElem? (i := 818) (by decide +kernel)⟩
theorem cm_X1_tell : CFm yX1_tell cX1_tell 2 (some .int) 1 := ⟨List.mem_of_getElem? (i := 824) (by decide +kernel), List.mem_of_getElem? (i := 70) (by decide +kernel), by decide +kernel⟩
theorem cf_X1_tell : CFi yX1_tell cX1_tell 2 (some .int) 1 := ⟨cm_X1_tell, List.mem_of_getElem? (i := 823) (by decide +kernel), List.mem_of_getElem? (i := 46) (by decide +kernel)⟩
theorem cm_X1_tellSeen : CFm yX1_tellSeen cX1_tellSeen 2 (some .int) 1 := ⟨List.mem_of_getElem? (i := 828) (by decide +kernel), List.mem_of_getElem? (i := 70) (by decide +kernel), by decide +kernel⟩
theorem cf_X1_tellSeen : CFi yX1_tellSeen cX1_tellSeen 2 (some .int) 1 := ⟨cm_X1_tellSeen, List.mem_of_getElem? (i := 827) (by decide +kernel), List.mem_of_getElem? (i := 47) (by decide +kernel)⟩
theorem cm_X6_ofReceiver : CFm yX6_ofReceiver cX6_ofReceiver 3 (some .int) 2 := ⟨List.mem_of_getElem? (i := 832) (by decide +kernel), List.mem_of_getElem? (i := 59) (by decide +kernel), by decide +kernel⟩
theorem cf_X6_ofReceiver : CFi yX6_ofReceiver cX6_ofReceiver 3 (some .int) 2 := ⟨cm_X6_ofReceiver, List.mem_of_getElem? (i := 830) (by decide +kernel), List.mem_of_getElem? (i := 831) (by decide +kernel)⟩
theorem cm_X6_tellReceiver : CFm yX6_tellReceiver cX6_tellReceiver 3 (some .int) 2 := ⟨List.mem_of_getElem? (i := 836) (by decide +kernel), List.mem_of_getElem? (i := 59) (by decide +kernel), by decide +kernel⟩
theorem cf_X6_tellReceiver : CFi yX6_tellReceiver cX6_tellReceiver 3 (some .int) 2 := ⟨cm_X6_tellReceiver, List.mem_of_getElem? (i := 835) (by decide +kernel), List.mem_of_getElem? (i := 48) (by decide +kernel)⟩
theorem cm_X5_tell : CFm yX5_tell cX5_tell 2 (some .int) 1 := ⟨List.mem_of_getElem? (i := 841) (by decide +kernel), List.mem_of_getElem? (i := 69) (by decide +kernel), by decide +kernel⟩
theorem cf_X5_tell : CFi yX5_tell cX5_tell 2 (some .int) 1 := ⟨cm_X5_tell, List.mem_of_getElem? (i := 840) (by decide +kernel), List.mem_of_getElem? (i := 49) (by decide +kernel)⟩
theorem cm_X6_many : CFm yX6_many cX6_many 2 (some .int) 1 := ⟨List.mem_of_getElem? (i := 845) (by decide +kernel), List.mem_of_getElem? (i := 59) (by decide +kernel), by decide +kernel⟩
theorem cf_X6_many : CFi yX6_many cX6_many 2 (some .int) 1 := ⟨cm_X6_many, List.mem_of_getElem? (i := 843) (by decide +kernel), List.mem_of_getElem? (i := 844) (by decide +kernel)⟩
theorem cm_X6_countOf : CFm yX6_countOf cX6_countOf 2 (some .int) 1 := ⟨List.mem_of_getElem? (i := 849) (by decide +kernel), List.mem_of_getElem? (i := 59) (by decide +kernel), by decide +kernel⟩
theorem cf_X6_countOf : CFi yX6_countOf cX6_countOf 2 (some .int) 1 := ⟨cm_X6_countOf, List.mem_of_getElem? (i := 848) (by decide +kernel), List.mem_of_getElem? (i := 50) (by decide +kernel)⟩
theorem cm_X6_sumOfStars : CFm yX6_sumOfStars cX6_sumOfStars 4 (some .int) 1 := ⟨List.mem_of_getElem? (i := 853) (by decide +kernel), List.mem_of_getElem? (i := 59) (by decide +kernel), by decide +kernel⟩
theorem cf_X6_sumOfStars : CFi yX6_sumOfStars cX6_sumOfStars 4 (some .int) 1 := ⟨cm_X6_sumOfStars, List.mem_of_getElem? (i := 852) (by decide +kernel), List.mem_of_getElem? (i := 51) (by decide +kernel)⟩
theorem cm_X6_sumOfReceivers : CFm yX6_sumOfReceivers cX6_sumOfReceivers 4 (some .int) 1 := ⟨List.mem_of_getElem? (i := 857) (by decide +kernel), List.mem_of_getElem? (i := 59) (by decide +kernel), by decide +kernel⟩
theorem cf_X6_sumOfReceivers : CFi yX6_sumOfReceivers cX6_sumOfReceivers 4 (some .int) 1 := ⟨cm_X6_sumOfReceivers, List.mem_of_getElem? (i := 856) (by decide +kernel), List.mem_of_getElem? (i := 52) (by decide +kernel)⟩
theorem cm_X6_wouldSee : CFm yX6_wouldSee cX6_wouldSee 3 (some .int) 2 := ⟨List.mem_of_getElem? (i := 861) (by decide +kernel), List.mem_of_getElem? (i := 59) (by decide +kernel), by decide +kernel⟩
theorem cf_X6_wouldSee : CFi yX6_wouldSee cX6_wouldSee 3 (some .int) 2 := ⟨cm_X6_wouldSee, List.mem_of_getElem? (i := 859) (by decide +kernel), List.mem_of_getElem? (i := 860) (by decide +kernel)⟩
theorem cm_X6_heardIn : CFm yX6_heardIn cX6_heardIn 3 (some .int) 2 := ⟨List.mem_of_getElem? (i := 865) (by decide +kernel), List.mem_of_getElem? (i := 59) (by decide +kernel), by decide +kernel⟩
theorem cf_X6_heardIn : CFi yX6_heardIn cX6_heardIn 3 (some .int) 2 := ⟨cm_X6_heardIn, List.mem_of_getElem? (i := 863) (by decide +kernel), List.mem_of_getElem? (i := 864) (by decide +kernel)⟩
theorem cm_X6_firstHeard : CFm yX6_firstHeard cX6_firstHeard 3 (some .int) 2 := ⟨List.mem_of_getElem? (i := 869) (by decide +kernel), List.mem_of_getElem? (i := 59) (by decide +kernel), by decide +kernel⟩
theorem cf_X6_firstHeard : CFs yX6_firstHeard cX6_firstHeard 3 (some .int) 2 := ⟨cm_X6_firstHeard, List.mem_of_getElem? (i := 868) (by decide +kernel)⟩
theorem cm_X6_digest : CFm yX6_digest cX6_digest 4 (some .long) 0 := ⟨List.mem_of_getElem? (i := 873) (by decide +kernel), List.mem_of_getElem? (i := 59) (by decide +kernel), by decide +kernel⟩
theorem cf_X6_digest : CFi yX6_digest cX6_digest 4 (some .long) 0 := ⟨cm_X6_digest, List.mem_of_getElem? (i := 871) (by decide +kernel), List.mem_of_getElem? (i := 872) (by decide +kernel)⟩
theorem cm_X6_digestStar : CFm yX6_digestStar cX6_digestStar 7 (some .long) 2 := ⟨List.mem_of_getElem? (i := 879) (by decide +kernel), List.mem_of_getElem? (i := 59) (by decide +kernel), by decide +kernel⟩
theorem cf_X6_digestStar : CFi yX6_digestStar cX6_digestStar 7 (some .long) 2 := ⟨cm_X6_digestStar, List.mem_of_getElem? (i := 878) (by decide +kernel), List.mem_of_getElem? (i := 53) (by decide +kernel)⟩
theorem cm_X6_digestReceiver : CFm yX6_digestReceiver cX6_digestReceiver 8 (some .long) 2 := ⟨List.mem_of_getElem? (i := 883) (by decide +kernel), List.mem_of_getElem? (i := 59) (by decide +kernel), by decide +kernel⟩
theorem cf_X6_digestReceiver : CFi yX6_digestReceiver cX6_digestReceiver 8 (some .long) 2 := ⟨cm_X6_digestReceiver, List.mem_of_getElem? (i := 882) (by decide +kernel), List.mem_of_getElem? (i := 54) (by decide +kernel)⟩
theorem cm_X6_supposedAlarm : CFm yX6_supposedAlarm cX6_supposedAlarm 2 (some .int) 1 := ⟨List.mem_of_getElem? (i := 887) (by decide +kernel), List.mem_of_getElem? (i := 59) (by decide +kernel), by decide +kernel⟩
theorem cf_X6_supposedAlarm : CFi yX6_supposedAlarm cX6_supposedAlarm 2 (some .int) 1 := ⟨cm_X6_supposedAlarm, List.mem_of_getElem? (i := 886) (by decide +kernel), List.mem_of_getElem? (i := 55) (by decide +kernel)⟩
theorem cm_X6_gatherSupposed : CFm yX6_gatherSupposed cX6_gatherSupposed 4 none 2 := ⟨List.mem_of_getElem? (i := 891) (by decide +kernel), List.mem_of_getElem? (i := 59) (by decide +kernel), by decide +kernel⟩
theorem cf_X6_gatherSupposed : CFi yX6_gatherSupposed cX6_gatherSupposed 4 none 2 := ⟨cm_X6_gatherSupposed, List.mem_of_getElem? (i := 890) (by decide +kernel), List.mem_of_getElem? (i := 56) (by decide +kernel)⟩
theorem cm_L_below : CFm yL_below cL_below 2 (some .int) 2 := ⟨List.mem_of_getElem? (i := 894) (by decide +kernel), List.mem_of_getElem? (i := 58) (by decide +kernel), by decide +kernel⟩
theorem cf_L_below : CFs yL_below cL_below 2 (some .int) 2 := ⟨cm_L_below, List.mem_of_getElem? (i := 893) (by decide +kernel)⟩
theorem cm_L_cell : CFm yL_cell cL_cell 2 (some .int) 2 := ⟨List.mem_of_getElem? (i := 898) (by decide +kernel), List.mem_of_getElem? (i := 58) (by decide +kernel), by decide +kernel⟩
theorem cf_L_cell : CFs yL_cell cL_cell 2 (some .int) 2 := ⟨cm_L_cell, List.mem_of_getElem? (i := 897) (by decide +kernel)⟩
theorem cm_L_isSo : CFm yL_isSo cL_isSo 11 (some .boolean) 3 := ⟨List.mem_of_getElem? (i := 902) (by decide +kernel), List.mem_of_getElem? (i := 58) (by decide +kernel), by decide +kernel⟩
theorem cf_L_isSo : CFs yL_isSo cL_isSo 11 (some .boolean) 3 := ⟨cm_L_isSo, List.mem_of_getElem? (i := 901) (by decide +kernel)⟩
theorem cm_X6_meanError : CFm yX6_meanError cX6_meanError 2 (some .double) 1 := ⟨List.mem_of_getElem? (i := 907) (by decide +kernel), List.mem_of_getElem? (i := 59) (by decide +kernel), by decide +kernel⟩
theorem cf_X6_meanError : CFi yX6_meanError cX6_meanError 2 (some .double) 1 := ⟨cm_X6_meanError, List.mem_of_getElem? (i := 905) (by decide +kernel), List.mem_of_getElem? (i := 906) (by decide +kernel)⟩
theorem cm_X5_meanOfErrors : CFm yX5_meanOfErrors cX5_meanOfErrors 1 (some .double) 0 := ⟨List.mem_of_getElem? (i := 911) (by decide +kernel), List.mem_of_getElem? (i := 69) (by decide +kernel), by decide +kernel⟩
theorem cf_X5_meanOfErrors : CFi yX5_meanOfErrors cX5_meanOfErrors 1 (some .double) 0 := ⟨cm_X5_meanOfErrors, List.mem_of_getElem? (i := 910) (by decide +kernel), List.mem_of_getElem? (i := 57) (by decide +kernel)⟩
theorem kin_X0 : ∀ w ∈ u_ws RX0 TX0 13, w ∈ lw_tbl ∧ okw w = true := by decide +kernel
theorem kin_X1 : ∀ w ∈ u_ws RX1 TX1 11, w ∈ lw_tbl ∧ okw w = true := by decide +kernel
theorem kin_X2 : ∀ w ∈ u_ws RX2 TX2 15, w ∈ lw_tbl ∧ okw w = true := by decide +kernel
theorem kin_X3 : ∀ w ∈ u_ws RX3 TX3 11, w ∈ lw_tbl ∧ okw w = true := by decide +kernel
theorem kin_X4 : ∀ w ∈ u_ws RX4 TX4 2, w ∈ lw_tbl ∧ okw w = true := by decide +kernel
theorem kin_X5 : ∀ w ∈ u_ws RX5 TX5 13, w ∈ lw_tbl ∧ okw w = true := by decide +kernel
theorem kin_X6 : ∀ w ∈ u_ws RX6 TX6 8, w ∈ lw_tbl ∧ okw w = true := by decide +kernel
