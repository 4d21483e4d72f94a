theorem wIni_L : Cond.initialized RL ∈ lw_tbl := List.mem_of_getElem? (i := 92) (by decide +kernel)
theorem wIni_X6 : Cond.initialized RX6 ∈ lw_tbl := List.mem_of_getElem? (i := 93) (by decide +kernel)
theorem wIni_X2 : Cond.initialized RX2 ∈ lw_tbl := List.mem_of_getElem? (i := 94) (by decide +kernel)
theorem wIni_X7 : Cond.initialized RX7 ∈ lw_tbl := List.mem_of_getElem? (i := 95) (by decide +kernel)
theorem wIni_Throwable : Cond.initialized "java/lang/Throwable" ∈ lw_tbl := List.mem_of_getElem? (i := 96) (by decide +kernel)
theorem wIni_Exception : Cond.initialized "java/lang/Exception" ∈ lw_tbl := List.mem_of_getElem? (i := 97) (by decide +kernel)
theorem wIni_RuntimeException : Cond.initialized "java/lang/RuntimeException" ∈ lw_tbl := List.mem_of_getElem? (i := 98) (by decide +kernel)
theorem wIni_IllegalArgumentException : Cond.initialized "java/lang/IllegalArgumentException" ∈ lw_tbl := List.mem_of_getElem? (i := 99) (by decide +kernel)
theorem wIni_IllegalStateException : Cond.initialized "java/lang/IllegalStateException" ∈ lw_tbl := List.mem_of_getElem? (i := 100) (by decide +kernel)
theorem wIni_X3 : Cond.initialized RX3 ∈ lw_tbl := List.mem_of_getElem? (i := 101) (by decide +kernel)
theorem wIni_IndexOutOfBoundsException : Cond.initialized "java/lang/IndexOutOfBoundsException" ∈ lw_tbl := List.mem_of_getElem? (i := 102) (by decide +kernel)
theorem wIni_J9 : Cond.initialized RJ9 ∈ lw_tbl := List.mem_of_getElem? (i := 103) (by decide +kernel)
theorem wIni_X4 : Cond.initialized RX4 ∈ lw_tbl := List.mem_of_getElem? (i := 104) (by decide +kernel)
theorem wIni_X0 : Cond.initialized RX0 ∈ lw_tbl := List.mem_of_getElem? (i := 105) (by decide +kernel)
theorem wIni_X5 : Cond.initialized RX5 ∈ lw_tbl := List.mem_of_getElem? (i := 106) (by decide +kernel)
theorem wIni_X1 : Cond.initialized RX1 ∈ lw_tbl := List.mem_of_getElem? (i := 107) (by decide +kernel)
theorem wIni_J6 : Cond.initialized RJ6 ∈ lw_tbl := List.mem_of_getElem? (i := 108) (by decide +kernel)
theorem wC_L_8 : Cond.classLink RL 8 RX6 ∈ lw_tbl := List.mem_of_getElem? (i := 109) (by decide +kernel)
theorem wI_X6 : Cond.instantiable RX6 8 ∈ lw_tbl := List.mem_of_getElem? (i := 110) (by decide +kernel)
theorem wM_L_97 : Cond.methodLink RL 97 yX6_init ∈ lw_tbl := List.mem_of_getElem? (i := 111) (by decide +kernel)
theorem wM_X6_1 : Cond.methodLink RX6 1 objectInit ∈ lw_tbl := List.mem_of_getElem? (i := 114) (by decide +kernel)
theorem wC_X6_9 : Cond.classLink RX6 9 RX3 ∈ lw_tbl := List.mem_of_getElem? (i := 117) (by decide +kernel)
theorem wAO__object_Pseudorange_Star_ : Cond.arrayOver (.object "Pseudorange$Star") ∈ lw_tbl := List.mem_of_getElem? (i := 118) (by decide +kernel)
theorem wC_X6_15 : Cond.classLink RX6 15 RX4 ∈ lw_tbl := List.mem_of_getElem? (i := 119) (by decide +kernel)
theorem wAO__object_Pseudorange_Station_ : Cond.arrayOver (.object "Pseudorange$Station") ∈ lw_tbl := List.mem_of_getElem? (i := 120) (by decide +kernel)
theorem wC_X6_21 : Cond.classLink RX6 21 RX0 ∈ lw_tbl := List.mem_of_getElem? (i := 121) (by decide +kernel)
theorem wAO__object_Pseudorange_Receiver_ : Cond.arrayOver (.object "Pseudorange$Receiver") ∈ lw_tbl := List.mem_of_getElem? (i := 122) (by decide +kernel)
theorem wC_X6_27 : Cond.classLink RX6 27 RX2 ∈ lw_tbl := List.mem_of_getElem? (i := 123) (by decide +kernel)
theorem wI_X2 : Cond.instantiable RX2 15 ∈ lw_tbl := List.mem_of_getElem? (i := 124) (by decide +kernel)
theorem wMN_X6_29 : Cond.methodLinkNest RX6 29 yX2_init RX6 ∈ lw_tbl := List.mem_of_getElem? (i := 125) (by decide +kernel)
theorem wM_X2_3 : Cond.methodLink RX2 3 objectInit ∈ lw_tbl := List.mem_of_getElem? (i := 128) (by decide +kernel)
theorem wF_X2_9 : Cond.fieldLink RX2 9 RX2 "starX" "[I" ∈ lw_tbl := List.mem_of_getElem? (i := 129) (by decide +kernel)
theorem wF_X2_15 : Cond.fieldLink RX2 15 RX2 "starY" "[I" ∈ lw_tbl := List.mem_of_getElem? (i := 130) (by decide +kernel)
theorem wF_X2_18 : Cond.fieldLink RX2 18 RX2 "pseudoranges" "[I" ∈ lw_tbl := List.mem_of_getElem? (i := 131) (by decide +kernel)
theorem wF_X2_21 : Cond.fieldLink RX2 21 RX2 "weights" "[I" ∈ lw_tbl := List.mem_of_getElem? (i := 132) (by decide +kernel)
theorem wF_X2_24 : Cond.fieldLink RX2 24 RX2 "over" "[I" ∈ lw_tbl := List.mem_of_getElem? (i := 133) (by decide +kernel)
theorem wF_X2_27 : Cond.fieldLink RX2 27 RX2 "used" "I" ∈ lw_tbl := List.mem_of_getElem? (i := 134) (by decide +kernel)
theorem wFN_X5_41 : Cond.fieldLinkNest RX5 41 RX2 "used" "I" RX6 ∈ lw_tbl := List.mem_of_getElem? (i := 135) (by decide +kernel)
theorem wFN_X6_382 : Cond.fieldLinkNest RX6 382 RX2 "used" "I" RX6 ∈ lw_tbl := List.mem_of_getElem? (i := 136) (by decide +kernel)
theorem wF_X2_45 : Cond.fieldLink RX2 45 RX2 "x" "I" ∈ lw_tbl := List.mem_of_getElem? (i := 137) (by decide +kernel)
theorem wFN_X5_56 : Cond.fieldLinkNest RX5 56 RX2 "x" "I" RX6 ∈ lw_tbl := List.mem_of_getElem? (i := 138) (by decide +kernel)
theorem wFN_X6_278 : Cond.fieldLinkNest RX6 278 RX2 "x" "I" RX6 ∈ lw_tbl := List.mem_of_getElem? (i := 139) (by decide +kernel)
theorem wF_X2_51 : Cond.fieldLink RX2 51 RX2 "y" "I" ∈ lw_tbl := List.mem_of_getElem? (i := 140) (by decide +kernel)
theorem wFN_X5_57 : Cond.fieldLinkNest RX5 57 RX2 "y" "I" RX6 ∈ lw_tbl := List.mem_of_getElem? (i := 141) (by decide +kernel)
theorem wFN_X6_279 : Cond.fieldLinkNest RX6 279 RX2 "y" "I" RX6 ∈ lw_tbl := List.mem_of_getElem? (i := 142) (by decide +kernel)
theorem wF_X2_57 : Cond.fieldLink RX2 57 RX2 "time" "I" ∈ lw_tbl := List.mem_of_getElem? (i := 143) (by decide +kernel)
theorem wFN_X5_58 : Cond.fieldLinkNest RX5 58 RX2 "time" "I" RX6 ∈ lw_tbl := List.mem_of_getElem? (i := 144) (by decide +kernel)
theorem wF_X2_64 : Cond.fieldLink RX2 64 RX2 "cost" "J" ∈ lw_tbl := List.mem_of_getElem? (i := 145) (by decide +kernel)
theorem wFN_X5_62 : Cond.fieldLinkNest RX5 62 RX2 "cost" "J" RX6 ∈ lw_tbl := List.mem_of_getElem? (i := 146) (by decide +kernel)
theorem wFN_X6_385 : Cond.fieldLinkNest RX6 385 RX2 "cost" "J" RX6 ∈ lw_tbl := List.mem_of_getElem? (i := 147) (by decide +kernel)
theorem wF_X2_31 : Cond.fieldLink RX2 31 RX2 "level" "I" ∈ lw_tbl := List.mem_of_getElem? (i := 148) (by decide +kernel)
theorem wFN_X5_44 : Cond.fieldLinkNest RX5 44 RX2 "level" "I" RX6 ∈ lw_tbl := List.mem_of_getElem? (i := 149) (by decide +kernel)
theorem wFN_X6_389 : Cond.fieldLinkNest RX6 389 RX2 "level" "I" RX6 ∈ lw_tbl := List.mem_of_getElem? (i := 150) (by decide +kernel)
theorem wF_X2_42 : Cond.fieldLink RX2 42 RX2 "bestX" "I" ∈ lw_tbl := List.mem_of_getElem? (i := 151) (by decide +kernel)
theorem wF_X2_48 : Cond.fieldLink RX2 48 RX2 "bestY" "I" ∈ lw_tbl := List.mem_of_getElem? (i := 152) (by decide +kernel)
theorem wF_X2_54 : Cond.fieldLink RX2 54 RX2 "bestTime" "I" ∈ lw_tbl := List.mem_of_getElem? (i := 153) (by decide +kernel)
theorem wF_X2_60 : Cond.fieldLink RX2 60 RX2 "bestCost" "J" ∈ lw_tbl := List.mem_of_getElem? (i := 154) (by decide +kernel)
theorem wAC_int : Cond.arrayClass .int ∈ lw_tbl := List.mem_of_getElem? (i := 186) (by decide +kernel)
theorem wF_X6_11 : Cond.fieldLink RX6 11 RX6 "stars" "[LPseudorange$Star;" ∈ lw_tbl := List.mem_of_getElem? (i := 187) (by decide +kernel)
theorem wF_X6_17 : Cond.fieldLink RX6 17 RX6 "stations" "[LPseudorange$Station;" ∈ lw_tbl := List.mem_of_getElem? (i := 188) (by decide +kernel)
theorem wF_X6_23 : Cond.fieldLink RX6 23 RX6 "receivers" "[LPseudorange$Receiver;" ∈ lw_tbl := List.mem_of_getElem? (i := 189) (by decide +kernel)
theorem wF_X6_30 : Cond.fieldLink RX6 30 RX6 "solver" "LPseudorange$Solver;" ∈ lw_tbl := List.mem_of_getElem? (i := 190) (by decide +kernel)
theorem wF_X6_47 : Cond.fieldLink RX6 47 RX6 "starCount" "I" ∈ lw_tbl := List.mem_of_getElem? (i := 191) (by decide +kernel)
theorem wF_X6_95 : Cond.fieldLink RX6 95 RX6 "stationCount" "I" ∈ lw_tbl := List.mem_of_getElem? (i := 192) (by decide +kernel)
theorem wF_X6_132 : Cond.fieldLink RX6 132 RX6 "receiverCount" "I" ∈ lw_tbl := List.mem_of_getElem? (i := 193) (by decide +kernel)
theorem wF_X6_114 : Cond.fieldLink RX6 114 RX6 "epoch" "I" ∈ lw_tbl := List.mem_of_getElem? (i := 194) (by decide +kernel)
theorem wM_L_189 : Cond.methodLink RL 189 yX6_digest ∈ lw_tbl := List.mem_of_getElem? (i := 212) (by decide +kernel)
theorem wK_X6_284 : Cond.constantLong RX6 284 (58189 : Int64) ∈ lw_tbl := List.mem_of_getElem? (i := 216) (by decide +kernel)
theorem wK_X6_286 : Cond.constantLong RX6 286 (31 : Int64) ∈ lw_tbl := List.mem_of_getElem? (i := 217) (by decide +kernel)
theorem wM_X6_257 : Cond.methodLink RX6 257 yX6_countOf ∈ lw_tbl := List.mem_of_getElem? (i := 218) (by decide +kernel)
theorem wM_X6_399 : Cond.methodLink RX6 399 yX6_sumOfStars ∈ lw_tbl := List.mem_of_getElem? (i := 222) (by decide +kernel)
theorem wMN_X6_335 : Cond.methodLinkNest RX6 335 yX3_messageHolds RX6 ∈ lw_tbl := List.mem_of_getElem? (i := 226) (by decide +kernel)
theorem wI_X3 : Cond.instantiable RX3 11 ∈ lw_tbl := List.mem_of_getElem? (i := 229) (by decide +kernel)
theorem wMN_X3_63 : Cond.methodLinkNest RX3 63 yX6_isOutside RX6 ∈ lw_tbl := List.mem_of_getElem? (i := 231) (by decide +kernel)
theorem wM_X6_402 : Cond.methodLink RX6 402 yX6_sumOfReceivers ∈ lw_tbl := List.mem_of_getElem? (i := 234) (by decide +kernel)
theorem wM_X6_288 : Cond.methodLink RX6 288 yX6_digestStar ∈ lw_tbl := List.mem_of_getElem? (i := 238) (by decide +kernel)
theorem wMN_X6_239 : Cond.methodLinkNest RX6 239 yX3_tell RX6 ∈ lw_tbl := List.mem_of_getElem? (i := 242) (by decide +kernel)
theorem wM_X3_67 : Cond.methodLink RX3 67 yX3_xIn ∈ lw_tbl := List.mem_of_getElem? (i := 246) (by decide +kernel)
theorem wMN_X3_50 : Cond.methodLinkNest RX3 50 yX6_swing RX6 ∈ lw_tbl := List.mem_of_getElem? (i := 250) (by decide +kernel)
theorem wM_X3_70 : Cond.methodLink RX3 70 yX3_yIn ∈ lw_tbl := List.mem_of_getElem? (i := 253) (by decide +kernel)
theorem wMN_X6_242 : Cond.methodLinkNest RX6 242 yX3_tellMessage RX6 ∈ lw_tbl := List.mem_of_getElem? (i := 257) (by decide +kernel)
theorem wM_X3_73 : Cond.methodLink RX3 73 yX3_messageHolds ∈ lw_tbl := List.mem_of_getElem? (i := 261) (by decide +kernel)
theorem wM_X3_77 : Cond.methodLink RX3 77 yX3_toldClock ∈ lw_tbl := List.mem_of_getElem? (i := 262) (by decide +kernel)
theorem wM_X3_80 : Cond.methodLink RX3 80 Lib.Math.abs.name ∈ lw_tbl := List.mem_of_getElem? (i := 266) (by decide +kernel)
theorem wM_X3_83 : Cond.methodLink RX3 83 yX3_toldX ∈ lw_tbl := List.mem_of_getElem? (i := 269) (by decide +kernel)
theorem wM_X3_86 : Cond.methodLink RX3 86 yX3_toldY ∈ lw_tbl := List.mem_of_getElem? (i := 273) (by decide +kernel)
theorem wMN_X3_89 : Cond.methodLinkNest RX3 89 yX6_rangeOf RX6 ∈ lw_tbl := List.mem_of_getElem? (i := 277) (by decide +kernel)
theorem wM_X6_302 : Cond.methodLink RX6 302 Lib.Math.abs.name ∈ lw_tbl := List.mem_of_getElem? (i := 280) (by decide +kernel)
theorem wM_X6_299 : Cond.methodLink RX6 299 Lib.Math.max.name ∈ lw_tbl := List.mem_of_getElem? (i := 281) (by decide +kernel)
theorem wM_X6_266 : Cond.methodLink RX6 266 yX6_firstHeard ∈ lw_tbl := List.mem_of_getElem? (i := 284) (by decide +kernel)
theorem wMN_X6_108 : Cond.methodLinkNest RX6 108 yX4_canHear RX6 ∈ lw_tbl := List.mem_of_getElem? (i := 287) (by decide +kernel)
theorem wI_X4 : Cond.instantiable RX4 2 ∈ lw_tbl := List.mem_of_getElem? (i := 290) (by decide +kernel)
theorem wMN_X4_16 : Cond.methodLinkNest RX4 16 yX3_yIn RX6 ∈ lw_tbl := List.mem_of_getElem? (i := 292) (by decide +kernel)
theorem wMN_X4_26 : Cond.methodLinkNest RX4 26 yX3_xIn RX6 ∈ lw_tbl := List.mem_of_getElem? (i := 293) (by decide +kernel)
theorem wM_X4_29 : Cond.methodLink RX4 29 Lib.Math.abs.name ∈ lw_tbl := List.mem_of_getElem? (i := 294) (by decide +kernel)
theorem wM_X6_292 : Cond.methodLink RX6 292 yX6_digestReceiver ∈ lw_tbl := List.mem_of_getElem? (i := 295) (by decide +kernel)
theorem wM_X6_254 : Cond.methodLink RX6 254 yX6_tellReceiver ∈ lw_tbl := List.mem_of_getElem? (i := 299) (by decide +kernel)
theorem wM_X6_165 : Cond.methodLink RX6 165 yX6_setSeen ∈ lw_tbl := List.mem_of_getElem? (i := 303) (by decide +kernel)
theorem wMN_X6_306 : Cond.methodLinkNest RX6 306 yX0_canSee RX6 ∈ lw_tbl := List.mem_of_getElem? (i := 307) (by decide +kernel)
theorem wI_X0 : Cond.instantiable RX0 13 ∈ lw_tbl := List.mem_of_getElem? (i := 310) (by decide +kernel)
theorem wMN_X0_54 : Cond.methodLinkNest RX0 54 yX3_xIn RX6 ∈ lw_tbl := List.mem_of_getElem? (i := 312) (by decide +kernel)
theorem wMN_X0_63 : Cond.methodLinkNest RX0 63 yX3_yIn RX6 ∈ lw_tbl := List.mem_of_getElem? (i := 313) (by decide +kernel)
theorem wM_X6_169 : Cond.methodLink RX6 169 yJ6_bitCount_0f7a4 ∈ lw_tbl := List.mem_of_getElem? (i := 314) (by decide +kernel)
theorem wK_J6_265 : Cond.constant RJ6 265 (1431655765 : Int32) ∈ lw_tbl := List.mem_of_getElem? (i := 317) (by decide +kernel)
theorem wK_J6_266 : Cond.constant RJ6 266 (858993459 : Int32) ∈ lw_tbl := List.mem_of_getElem? (i := 318) (by decide +kernel)
theorem wK_J6_267 : Cond.constant RJ6 267 (252645135 : Int32) ∈ lw_tbl := List.mem_of_getElem? (i := 319) (by decide +kernel)
theorem wMN_X6_395 : Cond.methodLinkNest RX6 395 yX5_errorAt RX6 ∈ lw_tbl := List.mem_of_getElem? (i := 320) (by decide +kernel)
theorem wI_X5 : Cond.instantiable RX5 13 ∈ lw_tbl := List.mem_of_getElem? (i := 323) (by decide +kernel)
theorem wMN_X5_37 : Cond.methodLinkNest RX5 37 yX6_rangeOf RX6 ∈ lw_tbl := List.mem_of_getElem? (i := 325) (by decide +kernel)
theorem wMN_X6_398 : Cond.methodLinkNest RX6 398 yX5_tell RX6 ∈ lw_tbl := List.mem_of_getElem? (i := 326) (by decide +kernel)
theorem wMN_X6_251 : Cond.methodLinkNest RX6 251 yX1_tell RX6 ∈ lw_tbl := List.mem_of_getElem? (i := 330) (by decide +kernel)
theorem wI_X1 : Cond.instantiable RX1 11 ∈ lw_tbl := List.mem_of_getElem? (i := 333) (by decide +kernel)
theorem wM_X1_59 : Cond.methodLink RX1 59 yX1_tellSeen ∈ lw_tbl := List.mem_of_getElem? (i := 335) (by decide +kernel)
theorem wM_X6_280 : Cond.methodLink RX6 280 yX6_supposedAlarm ∈ lw_tbl := List.mem_of_getElem? (i := 339) (by decide +kernel)
theorem wM_X6_270 : Cond.methodLink RX6 270 yX6_gatherSupposed ∈ lw_tbl := List.mem_of_getElem? (i := 343) (by decide +kernel)
theorem wMN_X6_329 : Cond.methodLinkNest RX6 329 yX2_clear RX6 ∈ lw_tbl := List.mem_of_getElem? (i := 347) (by decide +kernel)
theorem wM_X6_313 : Cond.methodLink RX6 313 yX6_codeOf ∈ lw_tbl := List.mem_of_getElem? (i := 351) (by decide +kernel)
theorem wM_X6_73 : Cond.methodLink RX6 73 yJ9_floorMod_7cf53 ∈ lw_tbl := List.mem_of_getElem? (i := 355) (by decide +kernel)
theorem wMN_X6_309 : Cond.methodLinkNest RX6 309 yX0_trueCount RX6 ∈ lw_tbl := List.mem_of_getElem? (i := 358) (by decide +kernel)
theorem wMN_X0_66 : Cond.methodLinkNest RX0 66 yX6_rangeOf RX6 ∈ lw_tbl := List.mem_of_getElem? (i := 362) (by decide +kernel)
theorem wMN_X6_326 : Cond.methodLinkNest RX6 326 yX0_airDelay RX6 ∈ lw_tbl := List.mem_of_getElem? (i := 363) (by decide +kernel)
theorem wM_X0_76 : Cond.methodLink RX0 76 Lib.Math.abs.name ∈ lw_tbl := List.mem_of_getElem? (i := 367) (by decide +kernel)
theorem wM_X6_341 : Cond.methodLink RX6 341 yX6_correctionOf ∈ lw_tbl := List.mem_of_getElem? (i := 368) (by decide +kernel)
theorem wM_X6_140 : Cond.methodLink RX6 140 yX6_isNoReceiver ∈ lw_tbl := List.mem_of_getElem? (i := 372) (by decide +kernel)
theorem wM_X6_34 : Cond.methodLink RX6 34 yX6_isOutside ∈ lw_tbl := List.mem_of_getElem? (i := 376) (by decide +kernel)
theorem wMN_X6_369 : Cond.methodLinkNest RX6 369 yX5_hasObservedSince RX6 ∈ lw_tbl := List.mem_of_getElem? (i := 377) (by decide +kernel)
theorem wM_X6_354 : Cond.methodLink RX6 354 yX6_use ∈ lw_tbl := List.mem_of_getElem? (i := 381) (by decide +kernel)
theorem wMN_X6_358 : Cond.methodLinkNest RX6 358 yX3_toldX RX6 ∈ lw_tbl := List.mem_of_getElem? (i := 385) (by decide +kernel)
theorem wMN_X6_361 : Cond.methodLinkNest RX6 361 yX3_toldY RX6 ∈ lw_tbl := List.mem_of_getElem? (i := 386) (by decide +kernel)
theorem wMN_X6_364 : Cond.methodLinkNest RX6 364 yX3_toldClock RX6 ∈ lw_tbl := List.mem_of_getElem? (i := 387) (by decide +kernel)
theorem wMN_X6_367 : Cond.methodLinkNest RX6 367 yX2_use RX6 ∈ lw_tbl := List.mem_of_getElem? (i := 388) (by decide +kernel)
theorem wMN_X6_223 : Cond.methodLinkNest RX6 223 yX2_solve RX6 ∈ lw_tbl := List.mem_of_getElem? (i := 392) (by decide +kernel)
theorem wM_X2_34 : Cond.methodLink RX2 34 yX2_hasSolution ∈ lw_tbl := List.mem_of_getElem? (i := 396) (by decide +kernel)
theorem wM_X2_38 : Cond.methodLink RX2 38 yX2_search ∈ lw_tbl := List.mem_of_getElem? (i := 400) (by decide +kernel)
theorem wK_X2_77 : Cond.constantLong RX2 77 (-1 : Int64) ∈ lw_tbl := List.mem_of_getElem? (i := 404) (by decide +kernel)
theorem wM_X2_79 : Cond.methodLink RX2 79 yX2_tryPlace ∈ lw_tbl := List.mem_of_getElem? (i := 405) (by decide +kernel)
theorem wMN_X2_67 : Cond.methodLinkNest RX2 67 yX6_rangeOf RX6 ∈ lw_tbl := List.mem_of_getElem? (i := 409) (by decide +kernel)
theorem wM_X2_83 : Cond.methodLink RX2 83 yJ9_floorDiv_7cf53 ∈ lw_tbl := List.mem_of_getElem? (i := 410) (by decide +kernel)
theorem wM_X2_86 : Cond.methodLink RX2 86 yX2_costBy ∈ lw_tbl := List.mem_of_getElem? (i := 413) (by decide +kernel)
theorem wM_X2_71 : Cond.methodLink RX2 71 Lib.Math.max.name ∈ lw_tbl := List.mem_of_getElem? (i := 417) (by decide +kernel)
theorem wM_X6_226 : Cond.methodLink RX6 226 yX6_alarmOf ∈ lw_tbl := List.mem_of_getElem? (i := 418) (by decide +kernel)
theorem wMN_X6_392 : Cond.methodLinkNest RX6 392 yX5_leapsTo RX6 ∈ lw_tbl := List.mem_of_getElem? (i := 422) (by decide +kernel)
theorem wM_X5_24 : Cond.methodLink RX5 24 yX5_hasObservedIn ∈ lw_tbl := List.mem_of_getElem? (i := 426) (by decide +kernel)
theorem wM_L_101 : Cond.methodLink RL 101 yL_star ∈ lw_tbl := List.mem_of_getElem? (i := 430) (by decide +kernel)
theorem wC_L_13 : Cond.classLink RL 13 "java/lang/IllegalArgumentException" ∈ lw_tbl := List.mem_of_getElem? (i := 433) (by decide +kernel)
theorem wC_L_15 : Cond.classLink RL 15 "java/lang/IllegalStateException" ∈ lw_tbl := List.mem_of_getElem? (i := 434) (by decide +kernel)
theorem wM_L_7 : Cond.methodLink RL 7 yX6_star ∈ lw_tbl := List.mem_of_getElem? (i := 435) (by decide +kernel)
theorem wC_X6_38 : Cond.classLink RX6 38 "java/lang/IllegalArgumentException" ∈ lw_tbl := List.mem_of_getElem? (i := 439) (by decide +kernel)
theorem wI_IllegalArgumentException : Cond.instantiable "java/lang/IllegalArgumentException" 6 ∈ lw_tbl := List.mem_of_getElem? (i := 440) (by decide +kernel)
theorem wCast_IllegalArgumentException_IllegalArgumentException : Cond.castable "java/lang/IllegalArgumentException" "java/lang/IllegalArgumentException" ∈ lw_tbl := List.mem_of_getElem? (i := 441) (by decide +kernel)
theorem wI_Throwable : Cond.instantiable "java/lang/Throwable" 6 ∈ lw_tbl := List.mem_of_getElem? (i := 478) (by decide +kernel)
theorem wStr_X6_40 : Cond.stringRef RX6 40 "radius, phase or spin" ∈ lw_tbl := List.mem_of_getElem? (i := 480) (by decide +kernel)
theorem wM_X6_42 : Cond.methodLink RX6 42 ⟨"java/lang/IllegalArgumentException", "<init>", "(Ljava/lang/String;)V"⟩ ∈ lw_tbl := List.mem_of_getElem? (i := 481) (by decide +kernel)
theorem wAC_byte : Cond.arrayClass .byte ∈ lw_tbl := List.mem_of_getElem? (i := 506) (by decide +kernel)
theorem wStr_X6_45 : Cond.stringRef RX6 45 "offset or drift" ∈ lw_tbl := List.mem_of_getElem? (i := 507) (by decide +kernel)
theorem wC_X6_51 : Cond.classLink RX6 51 "java/lang/IllegalStateException" ∈ lw_tbl := List.mem_of_getElem? (i := 508) (by decide +kernel)
theorem wI_IllegalStateException : Cond.instantiable "java/lang/IllegalStateException" 6 ∈ lw_tbl := List.mem_of_getElem? (i := 509) (by decide +kernel)
theorem wCast_IllegalStateException_IllegalStateException : Cond.castable "java/lang/IllegalStateException" "java/lang/IllegalStateException" ∈ lw_tbl := List.mem_of_getElem? (i := 510) (by decide +kernel)
theorem wStr_X6_53 : Cond.stringRef RX6 53 "there are 8 stars" ∈ lw_tbl := List.mem_of_getElem? (i := 517) (by decide +kernel)
theorem wM_X6_55 : Cond.methodLink RX6 55 ⟨"java/lang/IllegalStateException", "<init>", "(Ljava/lang/String;)V"⟩ ∈ lw_tbl := List.mem_of_getElem? (i := 518) (by decide +kernel)
theorem wMN_X6_56 : Cond.methodLinkNest RX6 56 yX3_init RX6 ∈ lw_tbl := List.mem_of_getElem? (i := 524) (by decide +kernel)
theorem wM_X3_3 : Cond.methodLink RX3 3 objectInit ∈ lw_tbl := List.mem_of_getElem? (i := 527) (by decide +kernel)
theorem wF_X3_9 : Cond.fieldLink RX3 9 RX3 "radius" "I" ∈ lw_tbl := List.mem_of_getElem? (i := 528) (by decide +kernel)
theorem wF_X3_18 : Cond.fieldLink RX3 18 RX3 "spin" "I" ∈ lw_tbl := List.mem_of_getElem? (i := 529) (by decide +kernel)
theorem wF_X3_15 : Cond.fieldLink RX3 15 RX3 "phase" "I" ∈ lw_tbl := List.mem_of_getElem? (i := 530) (by decide +kernel)
theorem wFN_X6_70 : Cond.fieldLinkNest RX6 70 RX3 "phase" "I" RX6 ∈ lw_tbl := List.mem_of_getElem? (i := 531) (by decide +kernel)
theorem wF_X3_21 : Cond.fieldLink RX3 21 RX3 "offset" "I" ∈ lw_tbl := List.mem_of_getElem? (i := 532) (by decide +kernel)
theorem wFN_X0_70 : Cond.fieldLinkNest RX0 70 RX3 "offset" "I" RX6 ∈ lw_tbl := List.mem_of_getElem? (i := 533) (by decide +kernel)
theorem wFN_X6_86 : Cond.fieldLinkNest RX6 86 RX3 "offset" "I" RX6 ∈ lw_tbl := List.mem_of_getElem? (i := 534) (by decide +kernel)
theorem wF_X3_24 : Cond.fieldLink RX3 24 RX3 "drift" "I" ∈ lw_tbl := List.mem_of_getElem? (i := 535) (by decide +kernel)
theorem wFN_X6_83 : Cond.fieldLinkNest RX6 83 RX3 "drift" "I" RX6 ∈ lw_tbl := List.mem_of_getElem? (i := 536) (by decide +kernel)
theorem wF_X3_27 : Cond.fieldLink RX3 27 RX3 "isHealthy" "Z" ∈ lw_tbl := List.mem_of_getElem? (i := 537) (by decide +kernel)
theorem wFN_X4_22 : Cond.fieldLinkNest RX4 22 RX3 "isHealthy" "Z" RX6 ∈ lw_tbl := List.mem_of_getElem? (i := 538) (by decide +kernel)
theorem wFN_X0_60 : Cond.fieldLinkNest RX0 60 RX3 "isHealthy" "Z" RX6 ∈ lw_tbl := List.mem_of_getElem? (i := 539) (by decide +kernel)
theorem wFN_X6_89 : Cond.fieldLinkNest RX6 89 RX3 "isHealthy" "Z" RX6 ∈ lw_tbl := List.mem_of_getElem? (i := 540) (by decide +kernel)
theorem wF_X3_54 : Cond.fieldLink RX3 54 RX3 "issue" "I" ∈ lw_tbl := List.mem_of_getElem? (i := 541) (by decide +kernel)
theorem wFN_X6_123 : Cond.fieldLinkNest RX6 123 RX3 "issue" "I" RX6 ∈ lw_tbl := List.mem_of_getElem? (i := 542) (by decide +kernel)
theorem wF_X3_31 : Cond.fieldLink RX3 31 RX3 "toldEpoch" "I" ∈ lw_tbl := List.mem_of_getElem? (i := 543) (by decide +kernel)
theorem wF_X3_34 : Cond.fieldLink RX3 34 RX3 "toldPhase" "I" ∈ lw_tbl := List.mem_of_getElem? (i := 544) (by decide +kernel)
theorem wF_X3_57 : Cond.fieldLink RX3 57 RX3 "toldOffset" "I" ∈ lw_tbl := List.mem_of_getElem? (i := 545) (by decide +kernel)
theorem wF_X3_60 : Cond.fieldLink RX3 60 RX3 "toldDrift" "I" ∈ lw_tbl := List.mem_of_getElem? (i := 546) (by decide +kernel)
theorem wM_L_111 : Cond.methodLink RL 111 yL_push ∈ lw_tbl := List.mem_of_getElem? (i := 570) (by decide +kernel)
theorem wC_L_21 : Cond.classLink RL 21 "java/lang/IndexOutOfBoundsException" ∈ lw_tbl := List.mem_of_getElem? (i := 573) (by decide +kernel)
theorem wM_L_17 : Cond.methodLink RL 17 yX6_push ∈ lw_tbl := List.mem_of_getElem? (i := 574) (by decide +kernel)
theorem wM_X6_59 : Cond.methodLink RX6 59 yX6_isNoStar ∈ lw_tbl := List.mem_of_getElem? (i := 578) (by decide +kernel)
theorem wC_X6_63 : Cond.classLink RX6 63 "java/lang/IndexOutOfBoundsException" ∈ lw_tbl := List.mem_of_getElem? (i := 582) (by decide +kernel)
theorem wI_IndexOutOfBoundsException : Cond.instantiable "java/lang/IndexOutOfBoundsException" 6 ∈ lw_tbl := List.mem_of_getElem? (i := 583) (by decide +kernel)
theorem wCast_IndexOutOfBoundsException_IndexOutOfBoundsException : Cond.castable "java/lang/IndexOutOfBoundsException" "java/lang/IndexOutOfBoundsException" ∈ lw_tbl := List.mem_of_getElem? (i := 584) (by decide +kernel)
theorem wStr_X6_65 : Cond.stringRef RX6 65 "no such star" ∈ lw_tbl := List.mem_of_getElem? (i := 591) (by decide +kernel)
theorem wM_X6_67 : Cond.methodLink RX6 67 ⟨"java/lang/IndexOutOfBoundsException", "<init>", "(Ljava/lang/String;)V"⟩ ∈ lw_tbl := List.mem_of_getElem? (i := 592) (by decide +kernel)
theorem wStr_X6_68 : Cond.stringRef RX6 68 "by" ∈ lw_tbl := List.mem_of_getElem? (i := 598) (by decide +kernel)
theorem wM_L_115 : Cond.methodLink RL 115 yL_jump ∈ lw_tbl := List.mem_of_getElem? (i := 599) (by decide +kernel)
theorem wM_L_23 : Cond.methodLink RL 23 yX6_jump ∈ lw_tbl := List.mem_of_getElem? (i := 602) (by decide +kernel)
theorem wMN_X6_79 : Cond.methodLinkNest RX6 79 yX3_moveClock RX6 ∈ lw_tbl := List.mem_of_getElem? (i := 606) (by decide +kernel)
theorem wMN_X3_37 : Cond.methodLinkNest RX3 37 yX6_held RX6 ∈ lw_tbl := List.mem_of_getElem? (i := 610) (by decide +kernel)
theorem wM_X6_296 : Cond.methodLink RX6 296 Lib.Math.min.name ∈ lw_tbl := List.mem_of_getElem? (i := 613) (by decide +kernel)
theorem wM_L_119 : Cond.methodLink RL 119 yL_health ∈ lw_tbl := List.mem_of_getElem? (i := 616) (by decide +kernel)
theorem wM_L_27 : Cond.methodLink RL 27 yX6_health ∈ lw_tbl := List.mem_of_getElem? (i := 619) (by decide +kernel)
theorem wM_L_123 : Cond.methodLink RL 123 yL_station ∈ lw_tbl := List.mem_of_getElem? (i := 623) (by decide +kernel)
theorem wM_L_31 : Cond.methodLink RL 31 yX6_station ∈ lw_tbl := List.mem_of_getElem? (i := 626) (by decide +kernel)
theorem wStr_X6_93 : Cond.stringRef RX6 93 "x or delay" ∈ lw_tbl := List.mem_of_getElem? (i := 630) (by decide +kernel)
theorem wStr_X6_98 : Cond.stringRef RX6 98 "there are 3 stations" ∈ lw_tbl := List.mem_of_getElem? (i := 631) (by decide +kernel)
theorem wMN_X6_100 : Cond.methodLinkNest RX6 100 yX4_init RX6 ∈ lw_tbl := List.mem_of_getElem? (i := 632) (by decide +kernel)
theorem wM_X4_1 : Cond.methodLink RX4 1 objectInit ∈ lw_tbl := List.mem_of_getElem? (i := 635) (by decide +kernel)
theorem wF_X4_7 : Cond.fieldLink RX4 7 RX4 "x" "I" ∈ lw_tbl := List.mem_of_getElem? (i := 636) (by decide +kernel)
theorem wF_X4_13 : Cond.fieldLink RX4 13 RX4 "delay" "I" ∈ lw_tbl := List.mem_of_getElem? (i := 637) (by decide +kernel)
theorem wFN_X6_117 : Cond.fieldLinkNest RX6 117 RX4 "delay" "I" RX6 ∈ lw_tbl := List.mem_of_getElem? (i := 638) (by decide +kernel)
theorem wM_L_126 : Cond.methodLink RL 126 yL_listen ∈ lw_tbl := List.mem_of_getElem? (i := 644) (by decide +kernel)
theorem wM_L_34 : Cond.methodLink RL 34 yX6_listen ∈ lw_tbl := List.mem_of_getElem? (i := 647) (by decide +kernel)
theorem wM_X6_103 : Cond.methodLink RX6 103 yX6_isNoStation ∈ lw_tbl := List.mem_of_getElem? (i := 651) (by decide +kernel)
theorem wStr_X6_106 : Cond.stringRef RX6 106 "no such station or star" ∈ lw_tbl := List.mem_of_getElem? (i := 655) (by decide +kernel)
theorem wStr_X6_112 : Cond.stringRef RX6 112 "the station can not hear the star" ∈ lw_tbl := List.mem_of_getElem? (i := 656) (by decide +kernel)
theorem wMN_X6_120 : Cond.methodLinkNest RX6 120 yX3_takeMessage RX6 ∈ lw_tbl := List.mem_of_getElem? (i := 657) (by decide +kernel)
theorem wM_L_129 : Cond.methodLink RL 129 yL_receiver ∈ lw_tbl := List.mem_of_getElem? (i := 661) (by decide +kernel)
theorem wM_L_37 : Cond.methodLink RL 37 yX6_receiver ∈ lw_tbl := List.mem_of_getElem? (i := 664) (by decide +kernel)
theorem wM_X6_126 : Cond.methodLink RX6 126 yX6_isNoPlace ∈ lw_tbl := List.mem_of_getElem? (i := 668) (by decide +kernel)
theorem wStr_X6_130 : Cond.stringRef RX6 130 "x, y or bias" ∈ lw_tbl := List.mem_of_getElem? (i := 671) (by decide +kernel)
theorem wStr_X6_135 : Cond.stringRef RX6 135 "there are 3 receivers" ∈ lw_tbl := List.mem_of_getElem? (i := 672) (by decide +kernel)
theorem wMN_X6_137 : Cond.methodLinkNest RX6 137 yX0_init RX6 ∈ lw_tbl := List.mem_of_getElem? (i := 673) (by decide +kernel)
theorem wM_X0_3 : Cond.methodLink RX0 3 objectInit ∈ lw_tbl := List.mem_of_getElem? (i := 676) (by decide +kernel)
theorem wC_X0_40 : Cond.classLink RX0 40 RX5 ∈ lw_tbl := List.mem_of_getElem? (i := 677) (by decide +kernel)
theorem wMN_X0_42 : Cond.methodLinkNest RX0 42 yX5_init RX6 ∈ lw_tbl := List.mem_of_getElem? (i := 678) (by decide +kernel)
theorem wM_X5_3 : Cond.methodLink RX5 3 objectInit ∈ lw_tbl := List.mem_of_getElem? (i := 681) (by decide +kernel)
theorem wF_X5_21 : Cond.fieldLink RX5 21 RX5 "observations" "I" ∈ lw_tbl := List.mem_of_getElem? (i := 682) (by decide +kernel)
theorem wFN_X6_405 : Cond.fieldLinkNest RX6 405 RX5 "observations" "I" RX6 ∈ lw_tbl := List.mem_of_getElem? (i := 683) (by decide +kernel)
theorem wF_X5_9 : Cond.fieldLink RX5 9 RX5 "latest" "I" ∈ lw_tbl := List.mem_of_getElem? (i := 684) (by decide +kernel)
theorem wF_X5_28 : Cond.fieldLink RX5 28 RX5 "used" "I" ∈ lw_tbl := List.mem_of_getElem? (i := 685) (by decide +kernel)
theorem wF_X5_68 : Cond.fieldLink RX5 68 RX5 "solutions" "I" ∈ lw_tbl := List.mem_of_getElem? (i := 686) (by decide +kernel)
theorem wF_X5_75 : Cond.fieldLink RX5 75 RX5 "errors" "I" ∈ lw_tbl := List.mem_of_getElem? (i := 687) (by decide +kernel)
theorem wF_X5_31 : Cond.fieldLink RX5 31 RX5 "x" "I" ∈ lw_tbl := List.mem_of_getElem? (i := 688) (by decide +kernel)
theorem wF_X5_34 : Cond.fieldLink RX5 34 RX5 "y" "I" ∈ lw_tbl := List.mem_of_getElem? (i := 689) (by decide +kernel)
theorem wF_X5_61 : Cond.fieldLink RX5 61 RX5 "time" "I" ∈ lw_tbl := List.mem_of_getElem? (i := 690) (by decide +kernel)
theorem wF_X5_66 : Cond.fieldLink RX5 66 RX5 "cost" "I" ∈ lw_tbl := List.mem_of_getElem? (i := 691) (by decide +kernel)
theorem wF_X5_15 : Cond.fieldLink RX5 15 RX5 "level" "I" ∈ lw_tbl := List.mem_of_getElem? (i := 692) (by decide +kernel)
theorem wF_X5_45 : Cond.fieldLink RX5 45 RX5 "alarm" "I" ∈ lw_tbl := List.mem_of_getElem? (i := 693) (by decide +kernel)
theorem wFN_X6_234 : Cond.fieldLinkNest RX6 234 RX5 "alarm" "I" RX6 ∈ lw_tbl := List.mem_of_getElem? (i := 694) (by decide +kernel)
theorem wF_X5_78 : Cond.fieldLink RX5 78 RX5 "misled" "I" ∈ lw_tbl := List.mem_of_getElem? (i := 695) (by decide +kernel)
theorem wFN_X6_408 : Cond.fieldLinkNest RX6 408 RX5 "misled" "I" RX6 ∈ lw_tbl := List.mem_of_getElem? (i := 696) (by decide +kernel)
theorem wF_X5_18 : Cond.fieldLink RX5 18 RX5 "alarmEpoch" "I" ∈ lw_tbl := List.mem_of_getElem? (i := 697) (by decide +kernel)
theorem wC_X0_47 : Cond.classLink RX0 47 RX1 ∈ lw_tbl := List.mem_of_getElem? (i := 725) (by decide +kernel)
theorem wAO__object_Pseudorange_Sight_ : Cond.arrayOver (.object "Pseudorange$Sight") ∈ lw_tbl := List.mem_of_getElem? (i := 726) (by decide +kernel)
theorem wMN_X0_53 : Cond.methodLinkNest RX0 53 yX1_init RX6 ∈ lw_tbl := List.mem_of_getElem? (i := 727) (by decide +kernel)
theorem wM_X1_3 : Cond.methodLink RX1 3 objectInit ∈ lw_tbl := List.mem_of_getElem? (i := 730) (by decide +kernel)
theorem wF_X1_9 : Cond.fieldLink RX1 9 RX1 "isSeen" "Z" ∈ lw_tbl := List.mem_of_getElem? (i := 731) (by decide +kernel)
theorem wFN_X6_332 : Cond.fieldLinkNest RX6 332 RX1 "isSeen" "Z" RX6 ∈ lw_tbl := List.mem_of_getElem? (i := 732) (by decide +kernel)
theorem wF_X1_47 : Cond.fieldLink RX1 47 RX1 "isFixed" "Z" ∈ lw_tbl := List.mem_of_getElem? (i := 733) (by decide +kernel)
theorem wFN_X6_351 : Cond.fieldLinkNest RX6 351 RX1 "isFixed" "Z" RX6 ∈ lw_tbl := List.mem_of_getElem? (i := 734) (by decide +kernel)
theorem wF_X1_50 : Cond.fieldLink RX1 50 RX1 "isUsed" "Z" ∈ lw_tbl := List.mem_of_getElem? (i := 735) (by decide +kernel)
theorem wFN_X6_338 : Cond.fieldLinkNest RX6 338 RX1 "isUsed" "Z" RX6 ∈ lw_tbl := List.mem_of_getElem? (i := 736) (by decide +kernel)
theorem wF_X1_18 : Cond.fieldLink RX1 18 RX1 "code" "I" ∈ lw_tbl := List.mem_of_getElem? (i := 737) (by decide +kernel)
theorem wF_X1_22 : Cond.fieldLink RX1 22 RX1 "wave" "I" ∈ lw_tbl := List.mem_of_getElem? (i := 738) (by decide +kernel)
theorem wF_X1_31 : Cond.fieldLink RX1 31 RX1 "count" "I" ∈ lw_tbl := List.mem_of_getElem? (i := 739) (by decide +kernel)
theorem wF_X1_34 : Cond.fieldLink RX1 34 RX1 "left" "I" ∈ lw_tbl := List.mem_of_getElem? (i := 740) (by decide +kernel)
theorem wF_X1_37 : Cond.fieldLink RX1 37 RX1 "kept" "I" ∈ lw_tbl := List.mem_of_getElem? (i := 741) (by decide +kernel)
theorem wF_X1_44 : Cond.fieldLink RX1 44 RX1 "steady" "I" ∈ lw_tbl := List.mem_of_getElem? (i := 742) (by decide +kernel)
theorem wF_X1_53 : Cond.fieldLink RX1 53 RX1 "correction" "I" ∈ lw_tbl := List.mem_of_getElem? (i := 743) (by decide +kernel)
theorem wFN_X6_344 : Cond.fieldLinkNest RX6 344 RX1 "correction" "I" RX6 ∈ lw_tbl := List.mem_of_getElem? (i := 744) (by decide +kernel)
theorem wF_X1_56 : Cond.fieldLink RX1 56 RX1 "offered" "I" ∈ lw_tbl := List.mem_of_getElem? (i := 745) (by decide +kernel)
theorem wFN_X6_372 : Cond.fieldLinkNest RX6 372 RX1 "offered" "I" RX6 ∈ lw_tbl := List.mem_of_getElem? (i := 746) (by decide +kernel)
theorem wF_X0_9 : Cond.fieldLink RX0 9 RX0 "number" "I" ∈ lw_tbl := List.mem_of_getElem? (i := 770) (by decide +kernel)
theorem wFN_X6_323 : Cond.fieldLinkNest RX6 323 RX0 "number" "I" RX6 ∈ lw_tbl := List.mem_of_getElem? (i := 771) (by decide +kernel)
theorem wF_X0_21 : Cond.fieldLink RX0 21 RX0 "bias" "I" ∈ lw_tbl := List.mem_of_getElem? (i := 772) (by decide +kernel)
theorem wF_X0_49 : Cond.fieldLink RX0 49 RX0 "sights" "[LPseudorange$Sight;" ∈ lw_tbl := List.mem_of_getElem? (i := 773) (by decide +kernel)
theorem wFN_X6_247 : Cond.fieldLinkNest RX6 247 RX0 "sights" "[LPseudorange$Sight;" RX6 ∈ lw_tbl := List.mem_of_getElem? (i := 774) (by decide +kernel)
theorem wF_X0_43 : Cond.fieldLink RX0 43 RX0 "track" "LPseudorange$Track;" ∈ lw_tbl := List.mem_of_getElem? (i := 775) (by decide +kernel)
theorem wFN_X6_202 : Cond.fieldLinkNest RX6 202 RX0 "track" "LPseudorange$Track;" RX6 ∈ lw_tbl := List.mem_of_getElem? (i := 776) (by decide +kernel)
theorem wF_X0_15 : Cond.fieldLink RX0 15 RX0 "x" "I" ∈ lw_tbl := List.mem_of_getElem? (i := 777) (by decide +kernel)
theorem wFN_X6_147 : Cond.fieldLinkNest RX6 147 RX0 "x" "I" RX6 ∈ lw_tbl := List.mem_of_getElem? (i := 778) (by decide +kernel)
theorem wF_X0_18 : Cond.fieldLink RX0 18 RX0 "y" "I" ∈ lw_tbl := List.mem_of_getElem? (i := 779) (by decide +kernel)
theorem wFN_X6_150 : Cond.fieldLinkNest RX6 150 RX0 "y" "I" RX6 ∈ lw_tbl := List.mem_of_getElem? (i := 780) (by decide +kernel)
theorem wF_X0_24 : Cond.fieldLink RX0 24 RX0 "leftHill" "I" ∈ lw_tbl := List.mem_of_getElem? (i := 781) (by decide +kernel)
theorem wFN_X6_159 : Cond.fieldLinkNest RX6 159 RX0 "leftHill" "I" RX6 ∈ lw_tbl := List.mem_of_getElem? (i := 782) (by decide +kernel)
theorem wF_X0_27 : Cond.fieldLink RX0 27 RX0 "rightHill" "I" ∈ lw_tbl := List.mem_of_getElem? (i := 783) (by decide +kernel)
theorem wFN_X6_162 : Cond.fieldLinkNest RX6 162 RX0 "rightHill" "I" RX6 ∈ lw_tbl := List.mem_of_getElem? (i := 784) (by decide +kernel)
theorem wF_X0_81 : Cond.fieldLink RX0 81 RX0 "iono" "I" ∈ lw_tbl := List.mem_of_getElem? (i := 785) (by decide +kernel)
theorem wFN_X6_177 : Cond.fieldLinkNest RX6 177 RX0 "iono" "I" RX6 ∈ lw_tbl := List.mem_of_getElem? (i := 786) (by decide +kernel)
theorem wF_X0_30 : Cond.fieldLink RX0 30 RX0 "isDual" "Z" ∈ lw_tbl := List.mem_of_getElem? (i := 787) (by decide +kernel)
theorem wFN_X6_179 : Cond.fieldLinkNest RX6 179 RX0 "isDual" "Z" RX6 ∈ lw_tbl := List.mem_of_getElem? (i := 788) (by decide +kernel)
theorem wF_X0_34 : Cond.fieldLink RX0 34 RX0 "alertLimit" "I" ∈ lw_tbl := List.mem_of_getElem? (i := 789) (by decide +kernel)
theorem wFN_X6_184 : Cond.fieldLinkNest RX6 184 RX0 "alertLimit" "I" RX6 ∈ lw_tbl := List.mem_of_getElem? (i := 790) (by decide +kernel)
theorem wF_X0_73 : Cond.fieldLink RX0 73 RX0 "spoofed" "I" ∈ lw_tbl := List.mem_of_getElem? (i := 791) (by decide +kernel)
theorem wFN_X6_187 : Cond.fieldLinkNest RX6 187 RX0 "spoofed" "I" RX6 ∈ lw_tbl := List.mem_of_getElem? (i := 792) (by decide +kernel)
theorem wF_X0_37 : Cond.fieldLink RX0 37 RX0 "reference" "I" ∈ lw_tbl := List.mem_of_getElem? (i := 793) (by decide +kernel)
theorem wFN_X6_194 : Cond.fieldLinkNest RX6 194 RX0 "reference" "I" RX6 ∈ lw_tbl := List.mem_of_getElem? (i := 794) (by decide +kernel)
theorem wM_L_132 : Cond.methodLink RL 132 yL_go ∈ lw_tbl := List.mem_of_getElem? (i := 822) (by decide +kernel)
theorem wM_L_40 : Cond.methodLink RL 40 yX6_go ∈ lw_tbl := List.mem_of_getElem? (i := 825) (by decide +kernel)
theorem wStr_X6_143 : Cond.stringRef RX6 143 "no such receiver" ∈ lw_tbl := List.mem_of_getElem? (i := 829) (by decide +kernel)
theorem wStr_X6_145 : Cond.stringRef RX6 145 "x or y" ∈ lw_tbl := List.mem_of_getElem? (i := 830) (by decide +kernel)
theorem wM_X6_153 : Cond.methodLink RX6 153 yX6_rangeOf ∈ lw_tbl := List.mem_of_getElem? (i := 831) (by decide +kernel)
theorem wM_L_135 : Cond.methodLink RL 135 yL_hills ∈ lw_tbl := List.mem_of_getElem? (i := 832) (by decide +kernel)
theorem wM_L_43 : Cond.methodLink RL 43 yX6_hills ∈ lw_tbl := List.mem_of_getElem? (i := 835) (by decide +kernel)
theorem wStr_X6_157 : Cond.stringRef RX6 157 "left or right" ∈ lw_tbl := List.mem_of_getElem? (i := 839) (by decide +kernel)
theorem wM_L_138 : Cond.methodLink RL 138 yL_air ∈ lw_tbl := List.mem_of_getElem? (i := 840) (by decide +kernel)
theorem wM_L_46 : Cond.methodLink RL 46 yX6_air ∈ lw_tbl := List.mem_of_getElem? (i := 843) (by decide +kernel)
theorem wStr_X6_175 : Cond.stringRef RX6 175 "iono" ∈ lw_tbl := List.mem_of_getElem? (i := 847) (by decide +kernel)
theorem wM_L_142 : Cond.methodLink RL 142 yL_alert ∈ lw_tbl := List.mem_of_getElem? (i := 848) (by decide +kernel)
theorem wM_L_50 : Cond.methodLink RL 50 yX6_alert ∈ lw_tbl := List.mem_of_getElem? (i := 851) (by decide +kernel)
theorem wStr_X6_182 : Cond.stringRef RX6 182 "alert" ∈ lw_tbl := List.mem_of_getElem? (i := 855) (by decide +kernel)
theorem wM_L_145 : Cond.methodLink RL 145 yL_spoof ∈ lw_tbl := List.mem_of_getElem? (i := 856) (by decide +kernel)
theorem wM_L_53 : Cond.methodLink RL 53 yX6_spoof ∈ lw_tbl := List.mem_of_getElem? (i := 859) (by decide +kernel)
theorem wM_L_148 : Cond.methodLink RL 148 yL_refer ∈ lw_tbl := List.mem_of_getElem? (i := 863) (by decide +kernel)
theorem wM_L_56 : Cond.methodLink RL 56 yX6_refer ∈ lw_tbl := List.mem_of_getElem? (i := 866) (by decide +kernel)
theorem wStr_X6_190 : Cond.stringRef RX6 190 "no such receiver or reference" ∈ lw_tbl := List.mem_of_getElem? (i := 870) (by decide +kernel)
theorem wStr_X6_192 : Cond.stringRef RX6 192 "a receiver is no reference of itself" ∈ lw_tbl := List.mem_of_getElem? (i := 871) (by decide +kernel)
theorem wM_L_151 : Cond.methodLink RL 151 yL_pass ∈ lw_tbl := List.mem_of_getElem? (i := 872) (by decide +kernel)
theorem wM_L_59 : Cond.methodLink RL 59 yX6_pass ∈ lw_tbl := List.mem_of_getElem? (i := 875) (by decide +kernel)
theorem wStr_X6_197 : Cond.stringRef RX6 197 "epochs" ∈ lw_tbl := List.mem_of_getElem? (i := 879) (by decide +kernel)
theorem wM_X6_199 : Cond.methodLink RX6 199 yX6_passOne ∈ lw_tbl := List.mem_of_getElem? (i := 880) (by decide +kernel)
theorem wMN_X6_305 : Cond.methodLinkNest RX6 305 yX3_passOne RX6 ∈ lw_tbl := List.mem_of_getElem? (i := 884) (by decide +kernel)
theorem wM_X3_41 : Cond.methodLink RX3 41 yJ9_floorMod_7cf53 ∈ lw_tbl := List.mem_of_getElem? (i := 888) (by decide +kernel)
theorem wM_X3_46 : Cond.methodLink RX3 46 yX3_moveClock ∈ lw_tbl := List.mem_of_getElem? (i := 889) (by decide +kernel)
theorem wM_L_155 : Cond.methodLink RL 155 yL_observe ∈ lw_tbl := List.mem_of_getElem? (i := 890) (by decide +kernel)
theorem wM_L_63 : Cond.methodLink RL 63 yX6_observe ∈ lw_tbl := List.mem_of_getElem? (i := 893) (by decide +kernel)
theorem wMN_X6_206 : Cond.methodLinkNest RX6 206 yX5_hasObservedIn RX6 ∈ lw_tbl := List.mem_of_getElem? (i := 897) (by decide +kernel)
theorem wStr_X6_211 : Cond.stringRef RX6 211 "it observed in this epoch" ∈ lw_tbl := List.mem_of_getElem? (i := 898) (by decide +kernel)
theorem wM_X6_213 : Cond.methodLink RX6 213 yX6_measure ∈ lw_tbl := List.mem_of_getElem? (i := 899) (by decide +kernel)
theorem wMN_X6_316 : Cond.methodLinkNest RX6 316 yX1_take RX6 ∈ lw_tbl := List.mem_of_getElem? (i := 903) (by decide +kernel)
theorem wM_X1_15 : Cond.methodLink RX1 15 yX1_forget ∈ lw_tbl := List.mem_of_getElem? (i := 907) (by decide +kernel)
theorem wM_X1_25 : Cond.methodLink RX1 25 yJ9_floorDiv_7cf53 ∈ lw_tbl := List.mem_of_getElem? (i := 911) (by decide +kernel)
theorem wMN_X1_40 : Cond.methodLinkNest RX1 40 yX6_isOutside RX6 ∈ lw_tbl := List.mem_of_getElem? (i := 912) (by decide +kernel)
theorem wMN_X6_320 : Cond.methodLinkNest RX6 320 yX1_lose RX6 ∈ lw_tbl := List.mem_of_getElem? (i := 913) (by decide +kernel)
theorem wM_X6_217 : Cond.methodLink RX6 217 yX6_gatherMeasured ∈ lw_tbl := List.mem_of_getElem? (i := 917) (by decide +kernel)
theorem wMN_X6_347 : Cond.methodLinkNest RX6 347 yX1_measured RX6 ∈ lw_tbl := List.mem_of_getElem? (i := 921) (by decide +kernel)
theorem wM_X6_220 : Cond.methodLink RX6 220 yX6_offerCorrections ∈ lw_tbl := List.mem_of_getElem? (i := 925) (by decide +kernel)
theorem wM_X6_375 : Cond.methodLink RX6 375 yX6_tooFar ∈ lw_tbl := List.mem_of_getElem? (i := 929) (by decide +kernel)
theorem wM_X6_379 : Cond.methodLink RX6 379 yJ9_floorDiv_7cf53 ∈ lw_tbl := List.mem_of_getElem? (i := 933) (by decide +kernel)
theorem wMN_X6_230 : Cond.methodLinkNest RX6 230 yX5_keepAll RX6 ∈ lw_tbl := List.mem_of_getElem? (i := 934) (by decide +kernel)
theorem wMN_X5_48 : Cond.methodLinkNest RX5 48 yX2_hasSolution RX6 ∈ lw_tbl := List.mem_of_getElem? (i := 938) (by decide +kernel)
theorem wM_X5_52 : Cond.methodLink RX5 52 yX5_keepSolution ∈ lw_tbl := List.mem_of_getElem? (i := 939) (by decide +kernel)
theorem wM_X5_71 : Cond.methodLink RX5 71 yX5_errorAt ∈ lw_tbl := List.mem_of_getElem? (i := 943) (by decide +kernel)
theorem wM_L_158 : Cond.methodLink RL 158 yL_ofStar ∈ lw_tbl := List.mem_of_getElem? (i := 944) (by decide +kernel)
theorem wM_L_66 : Cond.methodLink RL 66 yX6_ofStar ∈ lw_tbl := List.mem_of_getElem? (i := 947) (by decide +kernel)
theorem wStr_X6_237 : Cond.stringRef RX6 237 "what" ∈ lw_tbl := List.mem_of_getElem? (i := 951) (by decide +kernel)
theorem wM_L_161 : Cond.methodLink RL 161 yL_message ∈ lw_tbl := List.mem_of_getElem? (i := 952) (by decide +kernel)
theorem wM_L_69 : Cond.methodLink RL 69 yX6_message ∈ lw_tbl := List.mem_of_getElem? (i := 955) (by decide +kernel)
theorem wM_L_164 : Cond.methodLink RL 164 yL_seen ∈ lw_tbl := List.mem_of_getElem? (i := 959) (by decide +kernel)
theorem wM_L_72 : Cond.methodLink RL 72 yX6_seen ∈ lw_tbl := List.mem_of_getElem? (i := 962) (by decide +kernel)
theorem wStr_X6_245 : Cond.stringRef RX6 245 "no such receiver or star" ∈ lw_tbl := List.mem_of_getElem? (i := 966) (by decide +kernel)
theorem wM_L_167 : Cond.methodLink RL 167 yL_ofReceiver ∈ lw_tbl := List.mem_of_getElem? (i := 967) (by decide +kernel)
theorem wM_L_75 : Cond.methodLink RL 75 yX6_ofReceiver ∈ lw_tbl := List.mem_of_getElem? (i := 970) (by decide +kernel)
theorem wM_L_170 : Cond.methodLink RL 170 yL_many ∈ lw_tbl := List.mem_of_getElem? (i := 974) (by decide +kernel)
theorem wM_L_78 : Cond.methodLink RL 78 yX6_many ∈ lw_tbl := List.mem_of_getElem? (i := 977) (by decide +kernel)
theorem wM_L_173 : Cond.methodLink RL 173 yL_meanError ∈ lw_tbl := List.mem_of_getElem? (i := 981) (by decide +kernel)
theorem wM_L_81 : Cond.methodLink RL 81 yX6_meanError ∈ lw_tbl := List.mem_of_getElem? (i := 984) (by decide +kernel)
theorem wMN_X6_260 : Cond.methodLinkNest RX6 260 yX5_meanOfErrors RX6 ∈ lw_tbl := List.mem_of_getElem? (i := 988) (by decide +kernel)
theorem wM_L_177 : Cond.methodLink RL 177 yL_wouldSee ∈ lw_tbl := List.mem_of_getElem? (i := 992) (by decide +kernel)
theorem wM_L_85 : Cond.methodLink RL 85 yX6_wouldSee ∈ lw_tbl := List.mem_of_getElem? (i := 995) (by decide +kernel)
theorem wM_L_180 : Cond.methodLink RL 180 yL_heardIn ∈ lw_tbl := List.mem_of_getElem? (i := 999) (by decide +kernel)
theorem wM_L_88 : Cond.methodLink RL 88 yX6_heardIn ∈ lw_tbl := List.mem_of_getElem? (i := 1002) (by decide +kernel)
theorem wStr_X6_264 : Cond.stringRef RX6 264 "no such star or station" ∈ lw_tbl := List.mem_of_getElem? (i := 1006) (by decide +kernel)
theorem wM_L_183 : Cond.methodLink RL 183 yL_without ∈ lw_tbl := List.mem_of_getElem? (i := 1007) (by decide +kernel)
theorem wM_L_91 : Cond.methodLink RL 91 yX6_without ∈ lw_tbl := List.mem_of_getElem? (i := 1010) (by decide +kernel)
theorem wMN_X6_274 : Cond.methodLinkNest RX6 274 yX2_hasSolution RX6 ∈ lw_tbl := List.mem_of_getElem? (i := 1014) (by decide +kernel)
theorem wM_L_186 : Cond.methodLink RL 186 yL_wouldAlarm ∈ lw_tbl := List.mem_of_getElem? (i := 1015) (by decide +kernel)
theorem wM_L_94 : Cond.methodLink RL 94 yX6_wouldAlarm ∈ lw_tbl := List.mem_of_getElem? (i := 1018) (by decide +kernel)
theorem wC_L_98 : Cond.classLink RL 98 RX7 ∈ lw_tbl := List.mem_of_getElem? (i := 1022) (by decide +kernel)
theorem wI_X7 : Cond.instantiable RX7 20 ∈ lw_tbl := List.mem_of_getElem? (i := 1023) (by decide +kernel)
theorem wM_L_100 : Cond.methodLink RL 100 yX7_init ∈ lw_tbl := List.mem_of_getElem? (i := 1024) (by decide +kernel)
theorem wM_X7_1 : Cond.methodLink RX7 1 objectInit ∈ lw_tbl := List.mem_of_getElem? (i := 1027) (by decide +kernel)
theorem wC_X7_9 : Cond.classLink RX7 9 "[[I" ∈ lw_tbl := List.mem_of_getElem? (i := 1028) (by decide +kernel)
theorem wAO__array_int_ : Cond.arrayOver (.array .int) ∈ lw_tbl := List.mem_of_getElem? (i := 1029) (by decide +kernel)
theorem wC_X7_23 : Cond.classLink RX7 23 "[[[I" ∈ lw_tbl := List.mem_of_getElem? (i := 1030) (by decide +kernel)
theorem wAO__array_array_int_ : Cond.arrayOver (.array (.array .int)) ∈ lw_tbl := List.mem_of_getElem? (i := 1031) (by decide +kernel)
theorem wF_X7_41 : Cond.fieldLink RX7 41 RX7 "thrown" "I" ∈ lw_tbl := List.mem_of_getElem? (i := 1032) (by decide +kernel)
theorem wF_X7_64 : Cond.fieldLink RX7 64 RX7 "epoch" "I" ∈ lw_tbl := List.mem_of_getElem? (i := 1033) (by decide +kernel)
theorem wF_X7_192 : Cond.fieldLink RX7 192 RX7 "observations" "I" ∈ lw_tbl := List.mem_of_getElem? (i := 1034) (by decide +kernel)
theorem wF_X7_11 : Cond.fieldLink RX7 11 RX7 "stars" "[[I" ∈ lw_tbl := List.mem_of_getElem? (i := 1035) (by decide +kernel)
theorem wF_X7_14 : Cond.fieldLink RX7 14 RX7 "messages" "[[I" ∈ lw_tbl := List.mem_of_getElem? (i := 1036) (by decide +kernel)
theorem wF_X7_17 : Cond.fieldLink RX7 17 RX7 "stations" "[[I" ∈ lw_tbl := List.mem_of_getElem? (i := 1037) (by decide +kernel)
theorem wF_X7_20 : Cond.fieldLink RX7 20 RX7 "receivers" "[[I" ∈ lw_tbl := List.mem_of_getElem? (i := 1038) (by decide +kernel)
theorem wF_X7_25 : Cond.fieldLink RX7 25 RX7 "rows" "[[[I" ∈ lw_tbl := List.mem_of_getElem? (i := 1039) (by decide +kernel)
theorem wF_X7_79 : Cond.fieldLink RX7 79 RX7 "manyStars" "I" ∈ lw_tbl := List.mem_of_getElem? (i := 1040) (by decide +kernel)
theorem wF_X7_89 : Cond.fieldLink RX7 89 RX7 "manyStations" "I" ∈ lw_tbl := List.mem_of_getElem? (i := 1041) (by decide +kernel)
theorem wF_X7_92 : Cond.fieldLink RX7 92 RX7 "manyReceivers" "I" ∈ lw_tbl := List.mem_of_getElem? (i := 1042) (by decide +kernel)
theorem wF_X7_28 : Cond.fieldLink RX7 28 RX7 "sx" "[I" ∈ lw_tbl := List.mem_of_getElem? (i := 1043) (by decide +kernel)
theorem wF_X7_32 : Cond.fieldLink RX7 32 RX7 "sy" "[I" ∈ lw_tbl := List.mem_of_getElem? (i := 1044) (by decide +kernel)
theorem wF_X7_35 : Cond.fieldLink RX7 35 RX7 "pseudo" "[I" ∈ lw_tbl := List.mem_of_getElem? (i := 1045) (by decide +kernel)
theorem wF_X7_38 : Cond.fieldLink RX7 38 RX7 "weights" "[I" ∈ lw_tbl := List.mem_of_getElem? (i := 1046) (by decide +kernel)
theorem wF_X7_155 : Cond.fieldLink RX7 155 RX7 "bestX" "I" ∈ lw_tbl := List.mem_of_getElem? (i := 1047) (by decide +kernel)
theorem wF_X7_158 : Cond.fieldLink RX7 158 RX7 "bestY" "I" ∈ lw_tbl := List.mem_of_getElem? (i := 1048) (by decide +kernel)
theorem wF_X7_161 : Cond.fieldLink RX7 161 RX7 "bestTime" "I" ∈ lw_tbl := List.mem_of_getElem? (i := 1049) (by decide +kernel)
theorem wF_X7_144 : Cond.fieldLink RX7 144 RX7 "bestCost" "J" ∈ lw_tbl := List.mem_of_getElem? (i := 1050) (by decide +kernel)
theorem wF_X7_226 : Cond.fieldLink RX7 226 RX7 "sum" "J" ∈ lw_tbl := List.mem_of_getElem? (i := 1051) (by decide +kernel)
theorem wM_L_107 : Cond.methodLink RL 107 yX7_thrown ∈ lw_tbl := List.mem_of_getElem? (i := 1093) (by decide +kernel)
theorem wM_L_106 : Cond.methodLink RL 106 yX7_star ∈ lw_tbl := List.mem_of_getElem? (i := 1097) (by decide +kernel)
theorem wM_X7_86 : Cond.methodLink RX7 86 yX7_is ∈ lw_tbl := List.mem_of_getElem? (i := 1101) (by decide +kernel)
theorem wM_X7_95 : Cond.methodLink RX7 95 yX7_refuse ∈ lw_tbl := List.mem_of_getElem? (i := 1104) (by decide +kernel)
theorem wM_L_114 : Cond.methodLink RL 114 yX7_push ∈ lw_tbl := List.mem_of_getElem? (i := 1108) (by decide +kernel)
theorem wM_X7_98 : Cond.methodLink RX7 98 yX7_isStar ∈ lw_tbl := List.mem_of_getElem? (i := 1112) (by decide +kernel)
theorem wM_X7_54 : Cond.methodLink RX7 54 yJ9_floorMod_7cf53 ∈ lw_tbl := List.mem_of_getElem? (i := 1116) (by decide +kernel)
theorem wM_L_118 : Cond.methodLink RL 118 yX7_jump ∈ lw_tbl := List.mem_of_getElem? (i := 1117) (by decide +kernel)
theorem wM_X7_102 : Cond.methodLink RX7 102 yX7_held ∈ lw_tbl := List.mem_of_getElem? (i := 1121) (by decide +kernel)
theorem wM_X7_45 : Cond.methodLink RX7 45 Lib.Math.min.name ∈ lw_tbl := List.mem_of_getElem? (i := 1124) (by decide +kernel)
theorem wM_X7_51 : Cond.methodLink RX7 51 Lib.Math.max.name ∈ lw_tbl := List.mem_of_getElem? (i := 1125) (by decide +kernel)
theorem wM_L_122 : Cond.methodLink RL 122 yX7_health ∈ lw_tbl := List.mem_of_getElem? (i := 1126) (by decide +kernel)
theorem wM_L_125 : Cond.methodLink RL 125 yX7_station ∈ lw_tbl := List.mem_of_getElem? (i := 1130) (by decide +kernel)
theorem wM_L_128 : Cond.methodLink RL 128 yX7_listen ∈ lw_tbl := List.mem_of_getElem? (i := 1134) (by decide +kernel)
theorem wM_X7_105 : Cond.methodLink RX7 105 yX7_isStation ∈ lw_tbl := List.mem_of_getElem? (i := 1138) (by decide +kernel)
theorem wM_X7_108 : Cond.methodLink RX7 108 yX7_isHeard ∈ lw_tbl := List.mem_of_getElem? (i := 1142) (by decide +kernel)
theorem wM_X7_70 : Cond.methodLink RX7 70 yX7_phaseIn ∈ lw_tbl := List.mem_of_getElem? (i := 1146) (by decide +kernel)
theorem wM_X7_73 : Cond.methodLink RX7 73 yX7_yAt ∈ lw_tbl := List.mem_of_getElem? (i := 1150) (by decide +kernel)
theorem wM_X7_57 : Cond.methodLink RX7 57 yX7_tOf ∈ lw_tbl := List.mem_of_getElem? (i := 1154) (by decide +kernel)
theorem wM_X7_76 : Cond.methodLink RX7 76 yX7_xAt ∈ lw_tbl := List.mem_of_getElem? (i := 1157) (by decide +kernel)
theorem wM_X7_61 : Cond.methodLink RX7 61 Lib.Math.abs.name ∈ lw_tbl := List.mem_of_getElem? (i := 1161) (by decide +kernel)
theorem wM_X7_67 : Cond.methodLink RX7 67 yX7_since ∈ lw_tbl := List.mem_of_getElem? (i := 1162) (by decide +kernel)
theorem wM_L_131 : Cond.methodLink RL 131 yX7_receiver ∈ lw_tbl := List.mem_of_getElem? (i := 1166) (by decide +kernel)
theorem wM_X7_111 : Cond.methodLink RX7 111 yX7_isPlace ∈ lw_tbl := List.mem_of_getElem? (i := 1170) (by decide +kernel)
theorem wM_L_134 : Cond.methodLink RL 134 yX7_go ∈ lw_tbl := List.mem_of_getElem? (i := 1173) (by decide +kernel)
theorem wM_X7_115 : Cond.methodLink RX7 115 yX7_isReceiver ∈ lw_tbl := List.mem_of_getElem? (i := 1177) (by decide +kernel)
theorem wM_X7_118 : Cond.methodLink RX7 118 yX7_range ∈ lw_tbl := List.mem_of_getElem? (i := 1181) (by decide +kernel)
theorem wM_L_137 : Cond.methodLink RL 137 yX7_hills ∈ lw_tbl := List.mem_of_getElem? (i := 1184) (by decide +kernel)
theorem wM_X7_122 : Cond.methodLink RX7 122 yX7_setSeen ∈ lw_tbl := List.mem_of_getElem? (i := 1188) (by decide +kernel)
theorem wM_X7_82 : Cond.methodLink RX7 82 yX7_sees ∈ lw_tbl := List.mem_of_getElem? (i := 1192) (by decide +kernel)
theorem wM_X7_125 : Cond.methodLink RX7 125 yJ6_bitCount_0f7a4 ∈ lw_tbl := List.mem_of_getElem? (i := 1196) (by decide +kernel)
theorem wM_L_141 : Cond.methodLink RL 141 yX7_air ∈ lw_tbl := List.mem_of_getElem? (i := 1197) (by decide +kernel)
theorem wM_X7_130 : Cond.methodLink RX7 130 yX7_change ∈ lw_tbl := List.mem_of_getElem? (i := 1201) (by decide +kernel)
theorem wM_L_144 : Cond.methodLink RL 144 yX7_alert ∈ lw_tbl := List.mem_of_getElem? (i := 1205) (by decide +kernel)
theorem wM_L_147 : Cond.methodLink RL 147 yX7_spoof ∈ lw_tbl := List.mem_of_getElem? (i := 1209) (by decide +kernel)
theorem wM_L_150 : Cond.methodLink RL 150 yX7_refer ∈ lw_tbl := List.mem_of_getElem? (i := 1213) (by decide +kernel)
theorem wM_L_154 : Cond.methodLink RL 154 yX7_pass ∈ lw_tbl := List.mem_of_getElem? (i := 1217) (by decide +kernel)
theorem wM_L_157 : Cond.methodLink RL 157 yX7_observe ∈ lw_tbl := List.mem_of_getElem? (i := 1221) (by decide +kernel)
theorem wM_X7_184 : Cond.methodLink RX7 184 yX7_see ∈ lw_tbl := List.mem_of_getElem? (i := 1225) (by decide +kernel)
theorem wM_X7_170 : Cond.methodLink RX7 170 yX7_codeOf ∈ lw_tbl := List.mem_of_getElem? (i := 1229) (by decide +kernel)
theorem wM_X7_134 : Cond.methodLink RX7 134 yX7_trueOf ∈ lw_tbl := List.mem_of_getElem? (i := 1233) (by decide +kernel)
theorem wM_X7_137 : Cond.methodLink RX7 137 yJ9_floorDiv_7cf53 ∈ lw_tbl := List.mem_of_getElem? (i := 1237) (by decide +kernel)
theorem wM_X7_188 : Cond.methodLink RX7 188 yX7_lay ∈ lw_tbl := List.mem_of_getElem? (i := 1238) (by decide +kernel)
theorem wM_X7_164 : Cond.methodLink RX7 164 yX7_holds ∈ lw_tbl := List.mem_of_getElem? (i := 1242) (by decide +kernel)
theorem wM_X7_167 : Cond.methodLink RX7 167 yX7_toldPhase ∈ lw_tbl := List.mem_of_getElem? (i := 1246) (by decide +kernel)
theorem wM_X7_173 : Cond.methodLink RX7 173 yX7_toldOffset ∈ lw_tbl := List.mem_of_getElem? (i := 1250) (by decide +kernel)
theorem wM_X7_176 : Cond.methodLink RX7 176 yX7_correction ∈ lw_tbl := List.mem_of_getElem? (i := 1254) (by decide +kernel)
theorem wM_X7_195 : Cond.methodLink RX7 195 yX7_place ∈ lw_tbl := List.mem_of_getElem? (i := 1258) (by decide +kernel)
theorem wM_X7_179 : Cond.methodLink RX7 179 yX7_solve ∈ lw_tbl := List.mem_of_getElem? (i := 1262) (by decide +kernel)
theorem wK_X7_142 : Cond.constantLong RX7 142 (9223372036854775807 : Int64) ∈ lw_tbl := List.mem_of_getElem? (i := 1266) (by decide +kernel)
theorem wM_X7_148 : Cond.methodLink RX7 148 yX7_look ∈ lw_tbl := List.mem_of_getElem? (i := 1267) (by decide +kernel)
theorem wM_X7_152 : Cond.methodLink RX7 152 yX7_over ∈ lw_tbl := List.mem_of_getElem? (i := 1271) (by decide +kernel)
theorem wM_X7_199 : Cond.methodLink RX7 199 yX7_level ∈ lw_tbl := List.mem_of_getElem? (i := 1275) (by decide +kernel)
theorem wM_X7_202 : Cond.methodLink RX7 202 yX7_alarm ∈ lw_tbl := List.mem_of_getElem? (i := 1279) (by decide +kernel)
theorem wK_X7_182 : Cond.constantLong RX7 182 (40 : Int64) ∈ lw_tbl := List.mem_of_getElem? (i := 1283) (by decide +kernel)
theorem wM_L_160 : Cond.methodLink RL 160 yX7_ofStar ∈ lw_tbl := List.mem_of_getElem? (i := 1284) (by decide +kernel)
theorem wM_X7_205 : Cond.methodLink RX7 205 yX7_ofStarNow ∈ lw_tbl := List.mem_of_getElem? (i := 1288) (by decide +kernel)
theorem wM_L_163 : Cond.methodLink RL 163 yX7_message ∈ lw_tbl := List.mem_of_getElem? (i := 1292) (by decide +kernel)
theorem wM_X7_208 : Cond.methodLink RX7 208 yX7_messageNow ∈ lw_tbl := List.mem_of_getElem? (i := 1296) (by decide +kernel)
theorem wM_L_166 : Cond.methodLink RL 166 yX7_seen ∈ lw_tbl := List.mem_of_getElem? (i := 1300) (by decide +kernel)
theorem wM_X7_211 : Cond.methodLink RX7 211 yX7_seenNow ∈ lw_tbl := List.mem_of_getElem? (i := 1304) (by decide +kernel)
theorem wM_L_169 : Cond.methodLink RL 169 yX7_ofReceiver ∈ lw_tbl := List.mem_of_getElem? (i := 1308) (by decide +kernel)
theorem wM_X7_214 : Cond.methodLink RX7 214 yX7_ofReceiverNow ∈ lw_tbl := List.mem_of_getElem? (i := 1312) (by decide +kernel)
theorem wM_L_172 : Cond.methodLink RL 172 yX7_many ∈ lw_tbl := List.mem_of_getElem? (i := 1316) (by decide +kernel)
theorem wM_X7_217 : Cond.methodLink RX7 217 yX7_manyNow ∈ lw_tbl := List.mem_of_getElem? (i := 1320) (by decide +kernel)
theorem wM_L_176 : Cond.methodLink RL 176 yX7_meanError ∈ lw_tbl := List.mem_of_getElem? (i := 1324) (by decide +kernel)
theorem wM_L_179 : Cond.methodLink RL 179 yX7_wouldSee ∈ lw_tbl := List.mem_of_getElem? (i := 1328) (by decide +kernel)
theorem wM_L_182 : Cond.methodLink RL 182 yX7_heardIn ∈ lw_tbl := List.mem_of_getElem? (i := 1332) (by decide +kernel)
theorem wM_X7_220 : Cond.methodLink RX7 220 yX7_heardNow ∈ lw_tbl := List.mem_of_getElem? (i := 1336) (by decide +kernel)
theorem wM_L_185 : Cond.methodLink RL 185 yX7_without ∈ lw_tbl := List.mem_of_getElem? (i := 1340) (by decide +kernel)
theorem wM_L_188 : Cond.methodLink RL 188 yX7_wouldAlarm ∈ lw_tbl := List.mem_of_getElem? (i := 1344) (by decide +kernel)
theorem wM_X7_223 : Cond.methodLink RX7 223 yX7_alarmNow ∈ lw_tbl := List.mem_of_getElem? (i := 1348) (by decide +kernel)
theorem wM_L_193 : Cond.methodLink RL 193 yX7_digest ∈ lw_tbl := List.mem_of_getElem? (i := 1352) (by decide +kernel)
theorem wK_X7_231 : Cond.constantLong RX7 231 (58189 : Int64) ∈ lw_tbl := List.mem_of_getElem? (i := 1356) (by decide +kernel)
theorem wM_X7_233 : Cond.methodLink RX7 233 yX7_add ∈ lw_tbl := List.mem_of_getElem? (i := 1357) (by decide +kernel)
theorem wK_X7_229 : Cond.constantLong RX7 229 (31 : Int64) ∈ lw_tbl := List.mem_of_getElem? (i := 1361) (by decide +kernel)
theorem wAC_long : Cond.arrayClass .long ∈ lw_tbl := List.mem_of_getElem? (i := 1362) (by decide +kernel)
theorem wAC_double : Cond.arrayClass .double ∈ lw_tbl := List.mem_of_getElem? (i := 1363) (by decide +kernel)
theorem cm_X6_init : CFm yX6_init cX6_init 1 none 0 := ⟨List.mem_of_getElem? (i := 113) (by decide +kernel), List.mem_of_getElem? (i := 93) (by decide +kernel), by decide +kernel⟩
theorem cf_X6_init : CFc yX6_init cX6_init 1 0 := ⟨cm_X6_init, rfl, List.mem_of_getElem? (i := 112) (by decide +kernel)⟩
theorem cm_X2_init : CFm yX2_init cX2_init 1 none 0 := ⟨List.mem_of_getElem? (i := 127) (by decide +kernel), List.mem_of_getElem? (i := 94) (by decide +kernel), by decide +kernel⟩
theorem cf_X2_init : CFc yX2_init cX2_init 1 0 := ⟨cm_X2_init, rfl, List.mem_of_getElem? (i := 126) (by decide +kernel)⟩
theorem cm_X6_digest : CFm yX6_digest cX6_digest 4 (some .long) 0 := ⟨List.mem_of_getElem? (i := 215) (by decide +kernel), List.mem_of_getElem? (i := 93) (by decide +kernel), by decide +kernel⟩
theorem cf_X6_digest : CFi yX6_digest cX6_digest 4 (some .long) 0 := ⟨cm_X6_digest, List.mem_of_getElem? (i := 213) (by decide +kernel), List.mem_of_getElem? (i := 214) (by decide +kernel)⟩
theorem cm_X6_countOf : CFm yX6_countOf cX6_countOf 2 (some .int) 1 := ⟨List.mem_of_getElem? (i := 221) (by decide +kernel), List.mem_of_getElem? (i := 93) (by decide +kernel), by decide +kernel⟩
theorem cf_X6_countOf : CFi yX6_countOf cX6_countOf 2 (some .int) 1 := ⟨cm_X6_countOf, List.mem_of_getElem? (i := 220) (by decide +kernel), List.mem_of_getElem? (i := 0) (by decide +kernel)⟩
theorem cm_X6_sumOfStars : CFm yX6_sumOfStars cX6_sumOfStars 4 (some .int) 1 := ⟨List.mem_of_getElem? (i := 225) (by decide +kernel), List.mem_of_getElem? (i := 93) (by decide +kernel), by decide +kernel⟩
theorem cf_X6_sumOfStars : CFi yX6_sumOfStars cX6_sumOfStars 4 (some .int) 1 := ⟨cm_X6_sumOfStars, List.mem_of_getElem? (i := 224) (by decide +kernel), List.mem_of_getElem? (i := 1) (by decide +kernel)⟩
theorem cm_X3_messageHolds : CFm yX3_messageHolds cX3_messageHolds 2 (some .boolean) 1 := ⟨List.mem_of_getElem? (i := 230) (by decide +kernel), List.mem_of_getElem? (i := 101) (by decide +kernel), by decide +kernel⟩
theorem cf_X3_messageHolds : CFi yX3_messageHolds cX3_messageHolds 2 (some .boolean) 1 := ⟨cm_X3_messageHolds, List.mem_of_getElem? (i := 228) (by decide +kernel), List.mem_of_getElem? (i := 2) (by decide +kernel)⟩
theorem cm_X6_isOutside : CFm yX6_isOutside cX6_isOutside 3 (some .boolean) 3 := ⟨List.mem_of_getElem? (i := 233) (by decide +kernel), List.mem_of_getElem? (i := 93) (by decide +kernel), by decide +kernel⟩
theorem cf_X6_isOutside : CFs yX6_isOutside cX6_isOutside 3 (some .boolean) 3 := ⟨cm_X6_isOutside, List.mem_of_getElem? (i := 232) (by decide +kernel)⟩
theorem cm_X6_sumOfReceivers : CFm yX6_sumOfReceivers cX6_sumOfReceivers 4 (some .int) 1 := ⟨List.mem_of_getElem? (i := 237) (by decide +kernel), List.mem_of_getElem? (i := 93) (by decide +kernel), by decide +kernel⟩
theorem cf_X6_sumOfReceivers : CFi yX6_sumOfReceivers cX6_sumOfReceivers 4 (some .int) 1 := ⟨cm_X6_sumOfReceivers, List.mem_of_getElem? (i := 236) (by decide +kernel), List.mem_of_getElem? (i := 3) (by decide +kernel)⟩
theorem cm_X6_digestStar : CFm yX6_digestStar cX6_digestStar 7 (some .long) 2 := ⟨List.mem_of_getElem? (i := 241) (by decide +kernel), List.mem_of_getElem? (i := 93) (by decide +kernel), by decide +kernel⟩
theorem cf_X6_digestStar : CFi yX6_digestStar cX6_digestStar 7 (some .long) 2 := ⟨cm_X6_digestStar, List.mem_of_getElem? (i := 240) (by decide +kernel), List.mem_of_getElem? (i := 4) (by decide +kernel)⟩
theorem cm_X3_tell : CFm yX3_tell cX3_tell 2 (some .int) 1 := ⟨List.mem_of_getElem? (i := 245) (by decide +kernel), List.mem_of_getElem? (i := 101) (by decide +kernel), by decide +kernel⟩
theorem cf_X3_tell : CFi yX3_tell cX3_tell 2 (some .int) 1 := ⟨cm_X3_tell, List.mem_of_getElem? (i := 244) (by decide +kernel), List.mem_of_getElem? (i := 5) (by decide +kernel)⟩
theorem cm_X3_xIn : CFm yX3_xIn cX3_xIn 2 (some .int) 1 := ⟨List.mem_of_getElem? (i := 249) (by decide +kernel), List.mem_of_getElem? (i := 101) (by decide +kernel), by decide +kernel⟩
theorem cf_X3_xIn : CFi yX3_xIn cX3_xIn 2 (some .int) 1 := ⟨cm_X3_xIn, List.mem_of_getElem? (i := 248) (by decide +kernel), List.mem_of_getElem? (i := 6) (by decide +kernel)⟩
theorem cm_X6_swing : CFm yX6_swing cX6_swing 2 (some .int) 1 := ⟨List.mem_of_getElem? (i := 252) (by decide +kernel), List.mem_of_getElem? (i := 93) (by decide +kernel), by decide +kernel⟩
theorem cf_X6_swing : CFs yX6_swing cX6_swing 2 (some .int) 1 := ⟨cm_X6_swing, List.mem_of_getElem? (i := 251) (by decide +kernel)⟩
theorem cm_X3_yIn : CFm yX3_yIn cX3_yIn 2 (some .int) 1 := ⟨List.mem_of_getElem? (i := 256) (by decide +kernel), List.mem_of_getElem? (i := 101) (by decide +kernel), by decide +kernel⟩
theorem cf_X3_yIn : CFi yX3_yIn cX3_yIn 2 (some .int) 1 := ⟨cm_X3_yIn, List.mem_of_getElem? (i := 255) (by decide +kernel), List.mem_of_getElem? (i := 7) (by decide +kernel)⟩
theorem cm_X3_tellMessage : CFm yX3_tellMessage cX3_tellMessage 3 (some .int) 2 := ⟨List.mem_of_getElem? (i := 260) (by decide +kernel), List.mem_of_getElem? (i := 101) (by decide +kernel), by decide +kernel⟩
theorem cf_X3_tellMessage : CFi yX3_tellMessage cX3_tellMessage 3 (some .int) 2 := ⟨cm_X3_tellMessage, List.mem_of_getElem? (i := 259) (by decide +kernel), List.mem_of_getElem? (i := 8) (by decide +kernel)⟩
theorem cm_X3_toldClock : CFm yX3_toldClock cX3_toldClock 2 (some .int) 1 := ⟨List.mem_of_getElem? (i := 265) (by decide +kernel), List.mem_of_getElem? (i := 101) (by decide +kernel), by decide +kernel⟩
theorem cf_X3_toldClock : CFi yX3_toldClock cX3_toldClock 2 (some .int) 1 := ⟨cm_X3_toldClock, List.mem_of_getElem? (i := 264) (by decide +kernel), List.mem_of_getElem? (i := 9) (by decide +kernel)⟩
theorem cm_J9_abs_0f7a4 : CFm yJ9_abs_0f7a4 cJ9_abs_0f7a4 1 (some .int) 1 := ⟨List.mem_of_getElem? (i := 268) (by decide +kernel), List.mem_of_getElem? (i := 103) (by decide +kernel), by decide +kernel⟩
theorem cf_J9_abs_0f7a4 : CFs yJ9_abs_0f7a4 cJ9_abs_0f7a4 1 (some .int) 1 := ⟨cm_J9_abs_0f7a4, List.mem_of_getElem? (i := 267) (by decide +kernel)⟩
theorem cm_X3_toldX : CFm yX3_toldX cX3_toldX 2 (some .int) 1 := ⟨List.mem_of_getElem? (i := 272) (by decide +kernel), List.mem_of_getElem? (i := 101) (by decide +kernel), by decide +kernel⟩
theorem cf_X3_toldX : CFi yX3_toldX cX3_toldX 2 (some .int) 1 := ⟨cm_X3_toldX, List.mem_of_getElem? (i := 271) (by decide +kernel), List.mem_of_getElem? (i := 10) (by decide +kernel)⟩
theorem cm_X3_toldY : CFm yX3_toldY cX3_toldY 2 (some .int) 1 := ⟨List.mem_of_getElem? (i := 276) (by decide +kernel), List.mem_of_getElem? (i := 101) (by decide +kernel), by decide +kernel⟩
theorem cf_X3_toldY : CFi yX3_toldY cX3_toldY 2 (some .int) 1 := ⟨cm_X3_toldY, List.mem_of_getElem? (i := 275) (by decide +kernel), List.mem_of_getElem? (i := 11) (by decide +kernel)⟩
theorem cm_X6_rangeOf : CFm yX6_rangeOf cX6_rangeOf 4 (some .int) 4 := ⟨List.mem_of_getElem? (i := 279) (by decide +kernel), List.mem_of_getElem? (i := 93) (by decide +kernel), by decide +kernel⟩
theorem cf_X6_rangeOf : CFs yX6_rangeOf cX6_rangeOf 4 (some .int) 4 := ⟨cm_X6_rangeOf, List.mem_of_getElem? (i := 278) (by decide +kernel)⟩
theorem cm_J9_max_7cf53 : CFm yJ9_max_7cf53 cJ9_max_7cf53 2 (some .int) 2 := ⟨List.mem_of_getElem? (i := 283) (by decide +kernel), List.mem_of_getElem? (i := 103) (by decide +kernel), by decide +kernel⟩
theorem cf_J9_max_7cf53 : CFs yJ9_max_7cf53 cJ9_max_7cf53 2 (some .int) 2 := ⟨cm_J9_max_7cf53, List.mem_of_getElem? (i := 282) (by decide +kernel)⟩
theorem cm_X6_firstHeard : CFm yX6_firstHeard cX6_firstHeard 3 (some .int) 2 := ⟨List.mem_of_getElem? (i := 286) (by decide +kernel), List.mem_of_getElem? (i := 93) (by decide +kernel), by decide +kernel⟩
theorem cf_X6_firstHeard : CFs yX6_firstHeard cX6_firstHeard 3 (some .int) 2 := ⟨cm_X6_firstHeard, List.mem_of_getElem? (i := 285) (by decide +kernel)⟩
theorem cm_X4_canHear : CFm yX4_canHear cX4_canHear 4 (some .boolean) 2 := ⟨List.mem_of_getElem? (i := 291) (by decide +kernel), List.mem_of_getElem? (i := 104) (by decide +kernel), by decide +kernel⟩
theorem cf_X4_canHear : CFi yX4_canHear cX4_canHear 4 (some .boolean) 2 := ⟨cm_X4_canHear, List.mem_of_getElem? (i := 289) (by decide +kernel), List.mem_of_getElem? (i := 12) (by decide +kernel)⟩
theorem cm_X6_digestReceiver : CFm yX6_digestReceiver cX6_digestReceiver 8 (some .long) 2 := ⟨List.mem_of_getElem? (i := 298) (by decide +kernel), List.mem_of_getElem? (i := 93) (by decide +kernel), by decide +kernel⟩
theorem cf_X6_digestReceiver : CFi yX6_digestReceiver cX6_digestReceiver 8 (some .long) 2 := ⟨cm_X6_digestReceiver, List.mem_of_getElem? (i := 297) (by decide +kernel), List.mem_of_getElem? (i := 13) (by decide +kernel)⟩
theorem cm_X6_tellReceiver : CFm yX6_tellReceiver cX6_tellReceiver 3 (some .int) 2 := ⟨List.mem_of_getElem? (i := 302) (by decide +kernel), List.mem_of_getElem? (i := 93) (by decide +kernel), by decide +kernel⟩
theorem cf_X6_tellReceiver : CFi yX6_tellReceiver cX6_tellReceiver 3 (some .int) 2 := ⟨cm_X6_tellReceiver, List.mem_of_getElem? (i := 301) (by decide +kernel), List.mem_of_getElem? (i := 14) (by decide +kernel)⟩
theorem cm_X6_setSeen : CFm yX6_setSeen cX6_setSeen 5 (some .int) 2 := ⟨List.mem_of_getElem? (i := 306) (by decide +kernel), List.mem_of_getElem? (i := 93) (by decide +kernel), by decide +kernel⟩
theorem cf_X6_setSeen : CFi yX6_setSeen cX6_setSeen 5 (some .int) 2 := ⟨cm_X6_setSeen, List.mem_of_getElem? (i := 305) (by decide +kernel), List.mem_of_getElem? (i := 15) (by decide +kernel)⟩
theorem cm_X0_canSee : CFm yX0_canSee cX0_canSee 4 (some .boolean) 2 := ⟨List.mem_of_getElem? (i := 311) (by decide +kernel), List.mem_of_getElem? (i := 105) (by decide +kernel), by decide +kernel⟩
theorem cf_X0_canSee : CFi yX0_canSee cX0_canSee 4 (some .boolean) 2 := ⟨cm_X0_canSee, List.mem_of_getElem? (i := 309) (by decide +kernel), List.mem_of_getElem? (i := 16) (by decide +kernel)⟩
theorem cm_J6_bitCount_0f7a4 : CFm yJ6_bitCount_0f7a4 cJ6_bitCount_0f7a4 1 (some .int) 1 := ⟨List.mem_of_getElem? (i := 316) (by decide +kernel), List.mem_of_getElem? (i := 108) (by decide +kernel), by decide +kernel⟩
theorem cf_J6_bitCount_0f7a4 : CFs yJ6_bitCount_0f7a4 cJ6_bitCount_0f7a4 1 (some .int) 1 := ⟨cm_J6_bitCount_0f7a4, List.mem_of_getElem? (i := 315) (by decide +kernel)⟩
theorem cm_X5_errorAt : CFm yX5_errorAt cX5_errorAt 3 (some .int) 2 := ⟨List.mem_of_getElem? (i := 324) (by decide +kernel), List.mem_of_getElem? (i := 106) (by decide +kernel), by decide +kernel⟩
theorem cf_X5_errorAt : CFi yX5_errorAt cX5_errorAt 3 (some .int) 2 := ⟨cm_X5_errorAt, List.mem_of_getElem? (i := 322) (by decide +kernel), List.mem_of_getElem? (i := 17) (by decide +kernel)⟩
theorem cm_X5_tell : CFm yX5_tell cX5_tell 2 (some .int) 1 := ⟨List.mem_of_getElem? (i := 329) (by decide +kernel), List.mem_of_getElem? (i := 106) (by decide +kernel), by decide +kernel⟩
theorem cf_X5_tell : CFi yX5_tell cX5_tell 2 (some .int) 1 := ⟨cm_X5_tell, List.mem_of_getElem? (i := 328) (by decide +kernel), List.mem_of_getElem? (i := 18) (by decide +kernel)⟩
theorem cm_X1_tell : CFm yX1_tell cX1_tell 2 (some .int) 1 := ⟨List.mem_of_getElem? (i := 334) (by decide +kernel), List.mem_of_getElem? (i := 107) (by decide +kernel), by decide +kernel⟩
theorem cf_X1_tell : CFi yX1_tell cX1_tell 2 (some .int) 1 := ⟨cm_X1_tell, List.mem_of_getElem? (i := 332) (by decide +kernel), List.mem_of_getElem? (i := 19) (by decide +kernel)⟩
theorem cm_X1_tellSeen : CFm yX1_tellSeen cX1_tellSeen 2 (some .int) 1 := ⟨List.mem_of_getElem? (i := 338) (by decide +kernel), List.mem_of_getElem? (i := 107) (by decide +kernel), by decide +kernel⟩
theorem cf_X1_tellSeen : CFi yX1_tellSeen cX1_tellSeen 2 (some .int) 1 := ⟨cm_X1_tellSeen, List.mem_of_getElem? (i := 337) (by decide +kernel), List.mem_of_getElem? (i := 20) (by decide +kernel)⟩
theorem cm_X6_supposedAlarm : CFm yX6_supposedAlarm cX6_supposedAlarm 2 (some .int) 1 := ⟨List.mem_of_getElem? (i := 342) (by decide +kernel), List.mem_of_getElem? (i := 93) (by decide +kernel), by decide +kernel⟩
theorem cf_X6_supposedAlarm : CFi yX6_supposedAlarm cX6_supposedAlarm 2 (some .int) 1 := ⟨cm_X6_supposedAlarm, List.mem_of_getElem? (i := 341) (by decide +kernel), List.mem_of_getElem? (i := 21) (by decide +kernel)⟩
theorem cm_X6_gatherSupposed : CFm yX6_gatherSupposed cX6_gatherSupposed 4 none 2 := ⟨List.mem_of_getElem? (i := 346) (by decide +kernel), List.mem_of_getElem? (i := 93) (by decide +kernel), by decide +kernel⟩
theorem cf_X6_gatherSupposed : CFi yX6_gatherSupposed cX6_gatherSupposed 4 none 2 := ⟨cm_X6_gatherSupposed, List.mem_of_getElem? (i := 345) (by decide +kernel), List.mem_of_getElem? (i := 22) (by decide +kernel)⟩
theorem cm_X2_clear : CFm yX2_clear cX2_clear 1 none 0 := ⟨List.mem_of_getElem? (i := 350) (by decide +kernel), List.mem_of_getElem? (i := 94) (by decide +kernel), by decide +kernel⟩
theorem cf_X2_clear : CFi yX2_clear cX2_clear 1 none 0 := ⟨cm_X2_clear, List.mem_of_getElem? (i := 349) (by decide +kernel), List.mem_of_getElem? (i := 23) (by decide +kernel)⟩
theorem cm_X6_codeOf : CFm yX6_codeOf cX6_codeOf 4 (some .int) 2 := ⟨List.mem_of_getElem? (i := 354) (by decide +kernel), List.mem_of_getElem? (i := 93) (by decide +kernel), by decide +kernel⟩
theorem cf_X6_codeOf : CFi yX6_codeOf cX6_codeOf 4 (some .int) 2 := ⟨cm_X6_codeOf, List.mem_of_getElem? (i := 353) (by decide +kernel), List.mem_of_getElem? (i := 24) (by decide +kernel)⟩
theorem cm_J9_floorMod_7cf53 : CFm yJ9_floorMod_7cf53 cJ9_floorMod_7cf53 3 (some .int) 2 := ⟨List.mem_of_getElem? (i := 357) (by decide +kernel), List.mem_of_getElem? (i := 103) (by decide +kernel), by decide +kernel⟩
theorem cf_J9_floorMod_7cf53 : CFs yJ9_floorMod_7cf53 cJ9_floorMod_7cf53 3 (some .int) 2 := ⟨cm_J9_floorMod_7cf53, List.mem_of_getElem? (i := 356) (by decide +kernel)⟩
theorem cm_X0_trueCount : CFm yX0_trueCount cX0_trueCount 4 (some .int) 1 := ⟨List.mem_of_getElem? (i := 361) (by decide +kernel), List.mem_of_getElem? (i := 105) (by decide +kernel), by decide +kernel⟩
theorem cf_X0_trueCount : CFi yX0_trueCount cX0_trueCount 4 (some .int) 1 := ⟨cm_X0_trueCount, List.mem_of_getElem? (i := 360) (by decide +kernel), List.mem_of_getElem? (i := 25) (by decide +kernel)⟩
theorem cm_X0_airDelay : CFm yX0_airDelay cX0_airDelay 3 (some .int) 1 := ⟨List.mem_of_getElem? (i := 366) (by decide +kernel), List.mem_of_getElem? (i := 105) (by decide +kernel), by decide +kernel⟩
theorem cf_X0_airDelay : CFi yX0_airDelay cX0_airDelay 3 (some .int) 1 := ⟨cm_X0_airDelay, List.mem_of_getElem? (i := 365) (by decide +kernel), List.mem_of_getElem? (i := 26) (by decide +kernel)⟩
theorem cm_X6_correctionOf : CFm yX6_correctionOf cX6_correctionOf 4 (some .int) 2 := ⟨List.mem_of_getElem? (i := 371) (by decide +kernel), List.mem_of_getElem? (i := 93) (by decide +kernel), by decide +kernel⟩
theorem cf_X6_correctionOf : CFi yX6_correctionOf cX6_correctionOf 4 (some .int) 2 := ⟨cm_X6_correctionOf, List.mem_of_getElem? (i := 370) (by decide +kernel), List.mem_of_getElem? (i := 27) (by decide +kernel)⟩
theorem cm_X6_isNoReceiver : CFm yX6_isNoReceiver cX6_isNoReceiver 2 (some .boolean) 1 := ⟨List.mem_of_getElem? (i := 375) (by decide +kernel), List.mem_of_getElem? (i := 93) (by decide +kernel), by decide +kernel⟩
theorem cf_X6_isNoReceiver : CFi yX6_isNoReceiver cX6_isNoReceiver 2 (some .boolean) 1 := ⟨cm_X6_isNoReceiver, List.mem_of_getElem? (i := 374) (by decide +kernel), List.mem_of_getElem? (i := 28) (by decide +kernel)⟩
theorem cm_X5_hasObservedSince : CFm yX5_hasObservedSince cX5_hasObservedSince 2 (some .boolean) 1 := ⟨List.mem_of_getElem? (i := 380) (by decide +kernel), List.mem_of_getElem? (i := 106) (by decide +kernel), by decide +kernel⟩
theorem cf_X5_hasObservedSince : CFi yX5_hasObservedSince cX5_hasObservedSince 2 (some .boolean) 1 := ⟨cm_X5_hasObservedSince, List.mem_of_getElem? (i := 379) (by decide +kernel), List.mem_of_getElem? (i := 29) (by decide +kernel)⟩
theorem cm_X6_use : CFm yX6_use cX6_use 7 none 3 := ⟨List.mem_of_getElem? (i := 384) (by decide +kernel), List.mem_of_getElem? (i := 93) (by decide +kernel), by decide +kernel⟩
theorem cf_X6_use : CFi yX6_use cX6_use 7 none 3 := ⟨cm_X6_use, List.mem_of_getElem? (i := 383) (by decide +kernel), List.mem_of_getElem? (i := 30) (by decide +kernel)⟩
theorem cm_X2_use : CFm yX2_use cX2_use 5 none 4 := ⟨List.mem_of_getElem? (i := 391) (by decide +kernel), List.mem_of_getElem? (i := 94) (by decide +kernel), by decide +kernel⟩
theorem cf_X2_use : CFi yX2_use cX2_use 5 none 4 := ⟨cm_X2_use, List.mem_of_getElem? (i := 390) (by decide +kernel), List.mem_of_getElem? (i := 31) (by decide +kernel)⟩
theorem cm_X2_solve : CFm yX2_solve cX2_solve 3 none 0 := ⟨List.mem_of_getElem? (i := 395) (by decide +kernel), List.mem_of_getElem? (i := 94) (by decide +kernel), by decide +kernel⟩
theorem cf_X2_solve : CFi yX2_solve cX2_solve 3 none 0 := ⟨cm_X2_solve, List.mem_of_getElem? (i := 394) (by decide +kernel), List.mem_of_getElem? (i := 32) (by decide +kernel)⟩
theorem cm_X2_hasSolution : CFm yX2_hasSolution cX2_hasSolution 1 (some .boolean) 0 := ⟨List.mem_of_getElem? (i := 399) (by decide +kernel), List.mem_of_getElem? (i := 94) (by decide +kernel), by decide +kernel⟩
theorem cf_X2_hasSolution : CFi yX2_hasSolution cX2_hasSolution 1 (some .boolean) 0 := ⟨cm_X2_hasSolution, List.mem_of_getElem? (i := 398) (by decide +kernel), List.mem_of_getElem? (i := 33) (by decide +kernel)⟩
theorem cm_X2_search : CFm yX2_search cX2_search 4 none 1 := ⟨List.mem_of_getElem? (i := 403) (by decide +kernel), List.mem_of_getElem? (i := 94) (by decide +kernel), by decide +kernel⟩
theorem cf_X2_search : CFi yX2_search cX2_search 4 none 1 := ⟨cm_X2_search, List.mem_of_getElem? (i := 402) (by decide +kernel), List.mem_of_getElem? (i := 34) (by decide +kernel)⟩
theorem cm_X2_tryPlace : CFm yX2_tryPlace cX2_tryPlace 9 none 3 := ⟨List.mem_of_getElem? (i := 408) (by decide +kernel), List.mem_of_getElem? (i := 94) (by decide +kernel), by decide +kernel⟩
theorem cf_X2_tryPlace : CFi yX2_tryPlace cX2_tryPlace 9 none 3 := ⟨cm_X2_tryPlace, List.mem_of_getElem? (i := 407) (by decide +kernel), List.mem_of_getElem? (i := 35) (by decide +kernel)⟩
theorem cm_J9_floorDiv_7cf53 : CFm yJ9_floorDiv_7cf53 cJ9_floorDiv_7cf53 3 (some .int) 2 := ⟨List.mem_of_getElem? (i := 412) (by decide +kernel), List.mem_of_getElem? (i := 103) (by decide +kernel), by decide +kernel⟩
theorem cf_J9_floorDiv_7cf53 : CFs yJ9_floorDiv_7cf53 cJ9_floorDiv_7cf53 3 (some .int) 2 := ⟨cm_J9_floorDiv_7cf53, List.mem_of_getElem? (i := 411) (by decide +kernel)⟩
theorem cm_X2_costBy : CFm yX2_costBy cX2_costBy 8 (some .long) 2 := ⟨List.mem_of_getElem? (i := 416) (by decide +kernel), List.mem_of_getElem? (i := 94) (by decide +kernel), by decide +kernel⟩
theorem cf_X2_costBy : CFi yX2_costBy cX2_costBy 8 (some .long) 2 := ⟨cm_X2_costBy, List.mem_of_getElem? (i := 415) (by decide +kernel), List.mem_of_getElem? (i := 36) (by decide +kernel)⟩
theorem cm_X6_alarmOf : CFm yX6_alarmOf cX6_alarmOf 3 (some .int) 2 := ⟨List.mem_of_getElem? (i := 421) (by decide +kernel), List.mem_of_getElem? (i := 93) (by decide +kernel), by decide +kernel⟩
theorem cf_X6_alarmOf : CFi yX6_alarmOf cX6_alarmOf 3 (some .int) 2 := ⟨cm_X6_alarmOf, List.mem_of_getElem? (i := 420) (by decide +kernel), List.mem_of_getElem? (i := 37) (by decide +kernel)⟩
theorem cm_X5_leapsTo : CFm yX5_leapsTo cX5_leapsTo 4 (some .boolean) 3 := ⟨List.mem_of_getElem? (i := 425) (by decide +kernel), List.mem_of_getElem? (i := 106) (by decide +kernel), by decide +kernel⟩
theorem cf_X5_leapsTo : CFi yX5_leapsTo cX5_leapsTo 4 (some .boolean) 3 := ⟨cm_X5_leapsTo, List.mem_of_getElem? (i := 424) (by decide +kernel), List.mem_of_getElem? (i := 38) (by decide +kernel)⟩
theorem cm_X5_hasObservedIn : CFm yX5_hasObservedIn cX5_hasObservedIn 2 (some .boolean) 1 := ⟨List.mem_of_getElem? (i := 429) (by decide +kernel), List.mem_of_getElem? (i := 106) (by decide +kernel), by decide +kernel⟩
theorem cf_X5_hasObservedIn : CFi yX5_hasObservedIn cX5_hasObservedIn 2 (some .boolean) 1 := ⟨cm_X5_hasObservedIn, List.mem_of_getElem? (i := 428) (by decide +kernel), List.mem_of_getElem? (i := 39) (by decide +kernel)⟩
theorem cm_X6_star : CFm yX6_star cX6_star 6 (some .int) 5 := ⟨List.mem_of_getElem? (i := 438) (by decide +kernel), List.mem_of_getElem? (i := 93) (by decide +kernel), by decide +kernel⟩
theorem cf_X6_star : CFi yX6_star cX6_star 6 (some .int) 5 := ⟨cm_X6_star, List.mem_of_getElem? (i := 436) (by decide +kernel), List.mem_of_getElem? (i := 437) (by decide +kernel)⟩
theorem cm_X3_init : CFm yX3_init cX3_init 6 none 5 := ⟨List.mem_of_getElem? (i := 526) (by decide +kernel), List.mem_of_getElem? (i := 101) (by decide +kernel), by decide +kernel⟩
theorem cf_X3_init : CFc yX3_init cX3_init 6 5 := ⟨cm_X3_init, rfl, List.mem_of_getElem? (i := 525) (by decide +kernel)⟩
theorem cm_X6_push : CFm yX6_push cX6_push 4 (some .int) 2 := ⟨List.mem_of_getElem? (i := 577) (by decide +kernel), List.mem_of_getElem? (i := 93) (by decide +kernel), by decide +kernel⟩
theorem cf_X6_push : CFi yX6_push cX6_push 4 (some .int) 2 := ⟨cm_X6_push, List.mem_of_getElem? (i := 575) (by decide +kernel), List.mem_of_getElem? (i := 576) (by decide +kernel)⟩
theorem cm_X6_isNoStar : CFm yX6_isNoStar cX6_isNoStar 2 (some .boolean) 1 := ⟨List.mem_of_getElem? (i := 581) (by decide +kernel), List.mem_of_getElem? (i := 93) (by decide +kernel), by decide +kernel⟩
theorem cf_X6_isNoStar : CFi yX6_isNoStar cX6_isNoStar 2 (some .boolean) 1 := ⟨cm_X6_isNoStar, List.mem_of_getElem? (i := 580) (by decide +kernel), List.mem_of_getElem? (i := 41) (by decide +kernel)⟩
theorem cm_X6_jump : CFm yX6_jump cX6_jump 5 (some .int) 3 := ⟨List.mem_of_getElem? (i := 605) (by decide +kernel), List.mem_of_getElem? (i := 93) (by decide +kernel), by decide +kernel⟩
theorem cf_X6_jump : CFi yX6_jump cX6_jump 5 (some .int) 3 := ⟨cm_X6_jump, List.mem_of_getElem? (i := 603) (by decide +kernel), List.mem_of_getElem? (i := 604) (by decide +kernel)⟩
theorem cm_X3_moveClock : CFm yX3_moveClock cX3_moveClock 2 none 1 := ⟨List.mem_of_getElem? (i := 609) (by decide +kernel), List.mem_of_getElem? (i := 101) (by decide +kernel), by decide +kernel⟩
theorem cf_X3_moveClock : CFi yX3_moveClock cX3_moveClock 2 none 1 := ⟨cm_X3_moveClock, List.mem_of_getElem? (i := 608) (by decide +kernel), List.mem_of_getElem? (i := 42) (by decide +kernel)⟩
theorem cm_X6_held : CFm yX6_held cX6_held 2 (some .int) 2 := ⟨List.mem_of_getElem? (i := 612) (by decide +kernel), List.mem_of_getElem? (i := 93) (by decide +kernel), by decide +kernel⟩
theorem cf_X6_held : CFs yX6_held cX6_held 2 (some .int) 2 := ⟨cm_X6_held, List.mem_of_getElem? (i := 611) (by decide +kernel)⟩
theorem cm_J9_min_7cf53 : CFm yJ9_min_7cf53 cJ9_min_7cf53 2 (some .int) 2 := ⟨List.mem_of_getElem? (i := 615) (by decide +kernel), List.mem_of_getElem? (i := 103) (by decide +kernel), by decide +kernel⟩
theorem cf_J9_min_7cf53 : CFs yJ9_min_7cf53 cJ9_min_7cf53 2 (some .int) 2 := ⟨cm_J9_min_7cf53, List.mem_of_getElem? (i := 614) (by decide +kernel)⟩
theorem cm_X6_health : CFm yX6_health cX6_health 4 (some .boolean) 2 := ⟨List.mem_of_getElem? (i := 622) (by decide +kernel), List.mem_of_getElem? (i := 93) (by decide +kernel), by decide +kernel⟩
theorem cf_X6_health : CFi yX6_health cX6_health 4 (some .boolean) 2 := ⟨cm_X6_health, List.mem_of_getElem? (i := 620) (by decide +kernel), List.mem_of_getElem? (i := 621) (by decide +kernel)⟩
theorem cm_X6_station : CFm yX6_station cX6_station 3 (some .int) 2 := ⟨List.mem_of_getElem? (i := 629) (by decide +kernel), List.mem_of_getElem? (i := 93) (by decide +kernel), by decide +kernel⟩
theorem cf_X6_station : CFi yX6_station cX6_station 3 (some .int) 2 := ⟨cm_X6_station, List.mem_of_getElem? (i := 627) (by decide +kernel), List.mem_of_getElem? (i := 628) (by decide +kernel)⟩
theorem cm_X4_init : CFm yX4_init cX4_init 3 none 2 := ⟨List.mem_of_getElem? (i := 634) (by decide +kernel), List.mem_of_getElem? (i := 104) (by decide +kernel), by decide +kernel⟩
theorem cf_X4_init : CFc yX4_init cX4_init 3 2 := ⟨cm_X4_init, rfl, List.mem_of_getElem? (i := 633) (by decide +kernel)⟩
theorem cm_X6_listen : CFm yX6_listen cX6_listen 5 (some .int) 2 := ⟨List.mem_of_getElem? (i := 650) (by decide +kernel), List.mem_of_getElem? (i := 93) (by decide +kernel), by decide +kernel⟩
theorem cf_X6_listen : CFi yX6_listen cX6_listen 5 (some .int) 2 := ⟨cm_X6_listen, List.mem_of_getElem? (i := 648) (by decide +kernel), List.mem_of_getElem? (i := 649) (by decide +kernel)⟩
theorem cm_X6_isNoStation : CFm yX6_isNoStation cX6_isNoStation 2 (some .boolean) 1 := ⟨List.mem_of_getElem? (i := 654) (by decide +kernel), List.mem_of_getElem? (i := 93) (by decide +kernel), by decide +kernel⟩
theorem cf_X6_isNoStation : CFi yX6_isNoStation cX6_isNoStation 2 (some .boolean) 1 := ⟨cm_X6_isNoStation, List.mem_of_getElem? (i := 653) (by decide +kernel), List.mem_of_getElem? (i := 43) (by decide +kernel)⟩
theorem cm_X3_takeMessage : CFm yX3_takeMessage cX3_takeMessage 5 none 2 := ⟨List.mem_of_getElem? (i := 660) (by decide +kernel), List.mem_of_getElem? (i := 101) (by decide +kernel), by decide +kernel⟩
theorem cf_X3_takeMessage : CFi yX3_takeMessage cX3_takeMessage 5 none 2 := ⟨cm_X3_takeMessage, List.mem_of_getElem? (i := 659) (by decide +kernel), List.mem_of_getElem? (i := 44) (by decide +kernel)⟩
theorem cm_X6_receiver : CFm yX6_receiver cX6_receiver 4 (some .int) 3 := ⟨List.mem_of_getElem? (i := 667) (by decide +kernel), List.mem_of_getElem? (i := 93) (by decide +kernel), by decide +kernel⟩
theorem cf_X6_receiver : CFi yX6_receiver cX6_receiver 4 (some .int) 3 := ⟨cm_X6_receiver, List.mem_of_getElem? (i := 665) (by decide +kernel), List.mem_of_getElem? (i := 666) (by decide +kernel)⟩
theorem cm_X6_isNoPlace : CFm yX6_isNoPlace cX6_isNoPlace 2 (some .boolean) 2 := ⟨List.mem_of_getElem? (i := 670) (by decide +kernel), List.mem_of_getElem? (i := 93) (by decide +kernel), by decide +kernel⟩
theorem cf_X6_isNoPlace : CFs yX6_isNoPlace cX6_isNoPlace 2 (some .boolean) 2 := ⟨cm_X6_isNoPlace, List.mem_of_getElem? (i := 669) (by decide +kernel)⟩
theorem cm_X0_init : CFm yX0_init cX0_init 6 none 4 := ⟨List.mem_of_getElem? (i := 675) (by decide +kernel), List.mem_of_getElem? (i := 105) (by decide +kernel), by decide +kernel⟩
theorem cf_X0_init : CFc yX0_init cX0_init 6 4 := ⟨cm_X0_init, rfl, List.mem_of_getElem? (i := 674) (by decide +kernel)⟩
theorem cm_X5_init : CFm yX5_init cX5_init 1 none 0 := ⟨List.mem_of_getElem? (i := 680) (by decide +kernel), List.mem_of_getElem? (i := 106) (by decide +kernel), by decide +kernel⟩
theorem cf_X5_init : CFc yX5_init cX5_init 1 0 := ⟨cm_X5_init, rfl, List.mem_of_getElem? (i := 679) (by decide +kernel)⟩
theorem cm_X1_init : CFm yX1_init cX1_init 1 none 0 := ⟨List.mem_of_getElem? (i := 729) (by decide +kernel), List.mem_of_getElem? (i := 107) (by decide +kernel), by decide +kernel⟩
theorem cf_X1_init : CFc yX1_init cX1_init 1 0 := ⟨cm_X1_init, rfl, List.mem_of_getElem? (i := 728) (by decide +kernel)⟩
theorem cm_X6_go : CFm yX6_go cX6_go 6 (some .int) 3 := ⟨List.mem_of_getElem? (i := 828) (by decide +kernel), List.mem_of_getElem? (i := 93) (by decide +kernel), by decide +kernel⟩
theorem cf_X6_go : CFi yX6_go cX6_go 6 (some .int) 3 := ⟨cm_X6_go, List.mem_of_getElem? (i := 826) (by decide +kernel), List.mem_of_getElem? (i := 827) (by decide +kernel)⟩
theorem cm_X6_hills : CFm yX6_hills cX6_hills 5 (some .int) 3 := ⟨List.mem_of_getElem? (i := 838) (by decide +kernel), List.mem_of_getElem? (i := 93) (by decide +kernel), by decide +kernel⟩
theorem cf_X6_hills : CFi yX6_hills cX6_hills 5 (some .int) 3 := ⟨cm_X6_hills, List.mem_of_getElem? (i := 836) (by decide +kernel), List.mem_of_getElem? (i := 837) (by decide +kernel)⟩
theorem cm_X6_air : CFm yX6_air cX6_air 6 (some .int) 3 := ⟨List.mem_of_getElem? (i := 846) (by decide +kernel), List.mem_of_getElem? (i := 93) (by decide +kernel), by decide +kernel⟩
theorem cf_X6_air : CFi yX6_air cX6_air 6 (some .int) 3 := ⟨cm_X6_air, List.mem_of_getElem? (i := 844) (by decide +kernel), List.mem_of_getElem? (i := 845) (by decide +kernel)⟩
theorem cm_X6_alert : CFm yX6_alert cX6_alert 4 (some .int) 2 := ⟨List.mem_of_getElem? (i := 854) (by decide +kernel), List.mem_of_getElem? (i := 93) (by decide +kernel), by decide +kernel⟩
theorem cf_X6_alert : CFi yX6_alert cX6_alert 4 (some .int) 2 := ⟨cm_X6_alert, List.mem_of_getElem? (i := 852) (by decide +kernel), List.mem_of_getElem? (i := 853) (by decide +kernel)⟩
theorem cm_X6_spoof : CFm yX6_spoof cX6_spoof 4 (some .int) 2 := ⟨List.mem_of_getElem? (i := 862) (by decide +kernel), List.mem_of_getElem? (i := 93) (by decide +kernel), by decide +kernel⟩
theorem cf_X6_spoof : CFi yX6_spoof cX6_spoof 4 (some .int) 2 := ⟨cm_X6_spoof, List.mem_of_getElem? (i := 860) (by decide +kernel), List.mem_of_getElem? (i := 861) (by decide +kernel)⟩
theorem cm_X6_refer : CFm yX6_refer cX6_refer 4 (some .int) 2 := ⟨List.mem_of_getElem? (i := 869) (by decide +kernel), List.mem_of_getElem? (i := 93) (by decide +kernel), by decide +kernel⟩
theorem cf_X6_refer : CFi yX6_refer cX6_refer 4 (some .int) 2 := ⟨cm_X6_refer, List.mem_of_getElem? (i := 867) (by decide +kernel), List.mem_of_getElem? (i := 868) (by decide +kernel)⟩
theorem cm_X6_pass : CFm yX6_pass cX6_pass 3 (some .int) 1 := ⟨List.mem_of_getElem? (i := 878) (by decide +kernel), List.mem_of_getElem? (i := 93) (by decide +kernel), by decide +kernel⟩
theorem cf_X6_pass : CFi yX6_pass cX6_pass 3 (some .int) 1 := ⟨cm_X6_pass, List.mem_of_getElem? (i := 876) (by decide +kernel), List.mem_of_getElem? (i := 877) (by decide +kernel)⟩
theorem cm_X6_passOne : CFm yX6_passOne cX6_passOne 2 none 0 := ⟨List.mem_of_getElem? (i := 883) (by decide +kernel), List.mem_of_getElem? (i := 93) (by decide +kernel), by decide +kernel⟩
theorem cf_X6_passOne : CFi yX6_passOne cX6_passOne 2 none 0 := ⟨cm_X6_passOne, List.mem_of_getElem? (i := 882) (by decide +kernel), List.mem_of_getElem? (i := 45) (by decide +kernel)⟩
theorem cm_X3_passOne : CFm yX3_passOne cX3_passOne 1 none 0 := ⟨List.mem_of_getElem? (i := 887) (by decide +kernel), List.mem_of_getElem? (i := 101) (by decide +kernel), by decide +kernel⟩
theorem cf_X3_passOne : CFi yX3_passOne cX3_passOne 1 none 0 := ⟨cm_X3_passOne, List.mem_of_getElem? (i := 886) (by decide +kernel), List.mem_of_getElem? (i := 46) (by decide +kernel)⟩
theorem cm_X6_observe : CFm yX6_observe cX6_observe 4 (some .int) 1 := ⟨List.mem_of_getElem? (i := 896) (by decide +kernel), List.mem_of_getElem? (i := 93) (by decide +kernel), by decide +kernel⟩
theorem cf_X6_observe : CFi yX6_observe cX6_observe 4 (some .int) 1 := ⟨cm_X6_observe, List.mem_of_getElem? (i := 894) (by decide +kernel), List.mem_of_getElem? (i := 895) (by decide +kernel)⟩
theorem cm_X6_measure : CFm yX6_measure cX6_measure 6 none 1 := ⟨List.mem_of_getElem? (i := 902) (by decide +kernel), List.mem_of_getElem? (i := 93) (by decide +kernel), by decide +kernel⟩
theorem cf_X6_measure : CFi yX6_measure cX6_measure 6 none 1 := ⟨cm_X6_measure, List.mem_of_getElem? (i := 901) (by decide +kernel), List.mem_of_getElem? (i := 47) (by decide +kernel)⟩
theorem cm_X1_take : CFm yX1_take cX1_take 5 none 3 := ⟨List.mem_of_getElem? (i := 906) (by decide +kernel), List.mem_of_getElem? (i := 107) (by decide +kernel), by decide +kernel⟩
theorem cf_X1_take : CFi yX1_take cX1_take 5 none 3 := ⟨cm_X1_take, List.mem_of_getElem? (i := 905) (by decide +kernel), List.mem_of_getElem? (i := 48) (by decide +kernel)⟩
theorem cm_X1_forget : CFm yX1_forget cX1_forget 1 none 0 := ⟨List.mem_of_getElem? (i := 910) (by decide +kernel), List.mem_of_getElem? (i := 107) (by decide +kernel), by decide +kernel⟩
theorem cf_X1_forget : CFi yX1_forget cX1_forget 1 none 0 := ⟨cm_X1_forget, List.mem_of_getElem? (i := 909) (by decide +kernel), List.mem_of_getElem? (i := 49) (by decide +kernel)⟩
theorem cm_X1_lose : CFm yX1_lose cX1_lose 1 none 0 := ⟨List.mem_of_getElem? (i := 916) (by decide +kernel), List.mem_of_getElem? (i := 107) (by decide +kernel), by decide +kernel⟩
theorem cf_X1_lose : CFi yX1_lose cX1_lose 1 none 0 := ⟨cm_X1_lose, List.mem_of_getElem? (i := 915) (by decide +kernel), List.mem_of_getElem? (i := 50) (by decide +kernel)⟩
theorem cm_X6_gatherMeasured : CFm yX6_gatherMeasured cX6_gatherMeasured 4 none 1 := ⟨List.mem_of_getElem? (i := 920) (by decide +kernel), List.mem_of_getElem? (i := 93) (by decide +kernel), by decide +kernel⟩
theorem cf_X6_gatherMeasured : CFi yX6_gatherMeasured cX6_gatherMeasured 4 none 1 := ⟨cm_X6_gatherMeasured, List.mem_of_getElem? (i := 919) (by decide +kernel), List.mem_of_getElem? (i := 51) (by decide +kernel)⟩
theorem cm_X1_measured : CFm yX1_measured cX1_measured 1 (some .int) 0 := ⟨List.mem_of_getElem? (i := 924) (by decide +kernel), List.mem_of_getElem? (i := 107) (by decide +kernel), by decide +kernel⟩
theorem cf_X1_measured : CFi yX1_measured cX1_measured 1 (some .int) 0 := ⟨cm_X1_measured, List.mem_of_getElem? (i := 923) (by decide +kernel), List.mem_of_getElem? (i := 52) (by decide +kernel)⟩
theorem cm_X6_offerCorrections : CFm yX6_offerCorrections cX6_offerCorrections 6 none 1 := ⟨List.mem_of_getElem? (i := 928) (by decide +kernel), List.mem_of_getElem? (i := 93) (by decide +kernel), by decide +kernel⟩
theorem cf_X6_offerCorrections : CFi yX6_offerCorrections cX6_offerCorrections 6 none 1 := ⟨cm_X6_offerCorrections, List.mem_of_getElem? (i := 927) (by decide +kernel), List.mem_of_getElem? (i := 53) (by decide +kernel)⟩
theorem cm_X6_tooFar : CFm yX6_tooFar cX6_tooFar 5 (some .int) 3 := ⟨List.mem_of_getElem? (i := 932) (by decide +kernel), List.mem_of_getElem? (i := 93) (by decide +kernel), by decide +kernel⟩
theorem cf_X6_tooFar : CFi yX6_tooFar cX6_tooFar 5 (some .int) 3 := ⟨cm_X6_tooFar, List.mem_of_getElem? (i := 931) (by decide +kernel), List.mem_of_getElem? (i := 54) (by decide +kernel)⟩
theorem cm_X5_keepAll : CFm yX5_keepAll cX5_keepAll 6 none 5 := ⟨List.mem_of_getElem? (i := 937) (by decide +kernel), List.mem_of_getElem? (i := 106) (by decide +kernel), by decide +kernel⟩
theorem cf_X5_keepAll : CFi yX5_keepAll cX5_keepAll 6 none 5 := ⟨cm_X5_keepAll, List.mem_of_getElem? (i := 936) (by decide +kernel), List.mem_of_getElem? (i := 55) (by decide +kernel)⟩
theorem cm_X5_keepSolution : CFm yX5_keepSolution cX5_keepSolution 5 none 3 := ⟨List.mem_of_getElem? (i := 942) (by decide +kernel), List.mem_of_getElem? (i := 106) (by decide +kernel), by decide +kernel⟩
theorem cf_X5_keepSolution : CFi yX5_keepSolution cX5_keepSolution 5 none 3 := ⟨cm_X5_keepSolution, List.mem_of_getElem? (i := 941) (by decide +kernel), List.mem_of_getElem? (i := 56) (by decide +kernel)⟩
theorem cm_X6_ofStar : CFm yX6_ofStar cX6_ofStar 3 (some .int) 2 := ⟨List.mem_of_getElem? (i := 950) (by decide +kernel), List.mem_of_getElem? (i := 93) (by decide +kernel), by decide +kernel⟩
theorem cf_X6_ofStar : CFi yX6_ofStar cX6_ofStar 3 (some .int) 2 := ⟨cm_X6_ofStar, List.mem_of_getElem? (i := 948) (by decide +kernel), List.mem_of_getElem? (i := 949) (by decide +kernel)⟩
theorem cm_X6_message : CFm yX6_message cX6_message 3 (some .int) 2 := ⟨List.mem_of_getElem? (i := 958) (by decide +kernel), List.mem_of_getElem? (i := 93) (by decide +kernel), by decide +kernel⟩
theorem cf_X6_message : CFi yX6_message cX6_message 3 (some .int) 2 := ⟨cm_X6_message, List.mem_of_getElem? (i := 956) (by decide +kernel), List.mem_of_getElem? (i := 957) (by decide +kernel)⟩
theorem cm_X6_seen : CFm yX6_seen cX6_seen 4 (some .int) 3 := ⟨List.mem_of_getElem? (i := 965) (by decide +kernel), List.mem_of_getElem? (i := 93) (by decide +kernel), by decide +kernel⟩
theorem cf_X6_seen : CFi yX6_seen cX6_seen 4 (some .int) 3 := ⟨cm_X6_seen, List.mem_of_getElem? (i := 963) (by decide +kernel), List.mem_of_getElem? (i := 964) (by decide +kernel)⟩
theorem cm_X6_ofReceiver : CFm yX6_ofReceiver cX6_ofReceiver 3 (some .int) 2 := ⟨List.mem_of_getElem? (i := 973) (by decide +kernel), List.mem_of_getElem? (i := 93) (by decide +kernel), by decide +kernel⟩
theorem cf_X6_ofReceiver : CFi yX6_ofReceiver cX6_ofReceiver 3 (some .int) 2 := ⟨cm_X6_ofReceiver, List.mem_of_getElem? (i := 971) (by decide +kernel), List.mem_of_getElem? (i := 972) (by decide +kernel)⟩
theorem cm_X6_many : CFm yX6_many cX6_many 2 (some .int) 1 := ⟨List.mem_of_getElem? (i := 980) (by decide +kernel), List.mem_of_getElem? (i := 93) (by decide +kernel), by decide +kernel⟩
theorem cf_X6_many : CFi yX6_many cX6_many 2 (some .int) 1 := ⟨cm_X6_many, List.mem_of_getElem? (i := 978) (by decide +kernel), List.mem_of_getElem? (i := 979) (by decide +kernel)⟩
theorem cm_X6_meanError : CFm yX6_meanError cX6_meanError 2 (some .double) 1 := ⟨List.mem_of_getElem? (i := 987) (by decide +kernel), List.mem_of_getElem? (i := 93) (by decide +kernel), by decide +kernel⟩
theorem cf_X6_meanError : CFi yX6_meanError cX6_meanError 2 (some .double) 1 := ⟨cm_X6_meanError, List.mem_of_getElem? (i := 985) (by decide +kernel), List.mem_of_getElem? (i := 986) (by decide +kernel)⟩
theorem cm_X5_meanOfErrors : CFm yX5_meanOfErrors cX5_meanOfErrors 1 (some .double) 0 := ⟨List.mem_of_getElem? (i := 991) (by decide +kernel), List.mem_of_getElem? (i := 106) (by decide +kernel), by decide +kernel⟩
theorem cf_X5_meanOfErrors : CFi yX5_meanOfErrors cX5_meanOfErrors 1 (some .double) 0 := ⟨cm_X5_meanOfErrors, List.mem_of_getElem? (i := 990) (by decide +kernel), List.mem_of_getElem? (i := 57) (by decide +kernel)⟩
theorem cm_X6_wouldSee : CFm yX6_wouldSee cX6_wouldSee 3 (some .int) 2 := ⟨List.mem_of_getElem? (i := 998) (by decide +kernel), List.mem_of_getElem? (i := 93) (by decide +kernel), by decide +kernel⟩
theorem cf_X6_wouldSee : CFi yX6_wouldSee cX6_wouldSee 3 (some .int) 2 := ⟨cm_X6_wouldSee, List.mem_of_getElem? (i := 996) (by decide +kernel), List.mem_of_getElem? (i := 997) (by decide +kernel)⟩
theorem cm_X6_heardIn : CFm yX6_heardIn cX6_heardIn 3 (some .int) 2 := ⟨List.mem_of_getElem? (i := 1005) (by decide +kernel), List.mem_of_getElem? (i := 93) (by decide +kernel), by decide +kernel⟩
theorem cf_X6_heardIn : CFi yX6_heardIn cX6_heardIn 3 (some .int) 2 := ⟨cm_X6_heardIn, List.mem_of_getElem? (i := 1003) (by decide +kernel), List.mem_of_getElem? (i := 1004) (by decide +kernel)⟩
theorem cm_X6_without : CFm yX6_without cX6_without 3 (some .int) 2 := ⟨List.mem_of_getElem? (i := 1013) (by decide +kernel), List.mem_of_getElem? (i := 93) (by decide +kernel), by decide +kernel⟩
theorem cf_X6_without : CFi yX6_without cX6_without 3 (some .int) 2 := ⟨cm_X6_without, List.mem_of_getElem? (i := 1011) (by decide +kernel), List.mem_of_getElem? (i := 1012) (by decide +kernel)⟩
theorem cm_X6_wouldAlarm : CFm yX6_wouldAlarm cX6_wouldAlarm 2 (some .int) 1 := ⟨List.mem_of_getElem? (i := 1021) (by decide +kernel), List.mem_of_getElem? (i := 93) (by decide +kernel), by decide +kernel⟩
theorem cf_X6_wouldAlarm : CFi yX6_wouldAlarm cX6_wouldAlarm 2 (some .int) 1 := ⟨cm_X6_wouldAlarm, List.mem_of_getElem? (i := 1019) (by decide +kernel), List.mem_of_getElem? (i := 1020) (by decide +kernel)⟩
theorem cm_X7_init : CFm yX7_init cX7_init 1 none 0 := ⟨List.mem_of_getElem? (i := 1026) (by decide +kernel), List.mem_of_getElem? (i := 95) (by decide +kernel), by decide +kernel⟩
theorem cf_X7_init : CFc yX7_init cX7_init 1 0 := ⟨cm_X7_init, rfl, List.mem_of_getElem? (i := 1025) (by decide +kernel)⟩
theorem cm_X7_thrown : CFm yX7_thrown cX7_thrown 1 (some .int) 0 := ⟨List.mem_of_getElem? (i := 1096) (by decide +kernel), List.mem_of_getElem? (i := 95) (by decide +kernel), by decide +kernel⟩
theorem cf_X7_thrown : CFi yX7_thrown cX7_thrown 1 (some .int) 0 := ⟨cm_X7_thrown, List.mem_of_getElem? (i := 1094) (by decide +kernel), List.mem_of_getElem? (i := 1095) (by decide +kernel)⟩
theorem cm_X7_star : CFm yX7_star cX7_star 7 (some .int) 5 := ⟨List.mem_of_getElem? (i := 1100) (by decide +kernel), List.mem_of_getElem? (i := 95) (by decide +kernel), by decide +kernel⟩
theorem cf_X7_star : CFi yX7_star cX7_star 7 (some .int) 5 := ⟨cm_X7_star, List.mem_of_getElem? (i := 1098) (by decide +kernel), List.mem_of_getElem? (i := 1099) (by decide +kernel)⟩
theorem cm_X7_is : CFm yX7_is cX7_is 3 (some .boolean) 3 := ⟨List.mem_of_getElem? (i := 1103) (by decide +kernel), List.mem_of_getElem? (i := 95) (by decide +kernel), by decide +kernel⟩
theorem cf_X7_is : CFs yX7_is cX7_is 3 (some .boolean) 3 := ⟨cm_X7_is, List.mem_of_getElem? (i := 1102) (by decide +kernel)⟩
theorem cm_X7_refuse : CFm yX7_refuse cX7_refuse 2 (some .int) 1 := ⟨List.mem_of_getElem? (i := 1107) (by decide +kernel), List.mem_of_getElem? (i := 95) (by decide +kernel), by decide +kernel⟩
theorem cf_X7_refuse : CFi yX7_refuse cX7_refuse 2 (some .int) 1 := ⟨cm_X7_refuse, List.mem_of_getElem? (i := 1106) (by decide +kernel), List.mem_of_getElem? (i := 58) (by decide +kernel)⟩
theorem cm_X7_push : CFm yX7_push cX7_push 3 (some .int) 2 := ⟨List.mem_of_getElem? (i := 1111) (by decide +kernel), List.mem_of_getElem? (i := 95) (by decide +kernel), by decide +kernel⟩
theorem cf_X7_push : CFi yX7_push cX7_push 3 (some .int) 2 := ⟨cm_X7_push, List.mem_of_getElem? (i := 1109) (by decide +kernel), List.mem_of_getElem? (i := 1110) (by decide +kernel)⟩
theorem cm_X7_isStar : CFm yX7_isStar cX7_isStar 2 (some .boolean) 1 := ⟨List.mem_of_getElem? (i := 1115) (by decide +kernel), List.mem_of_getElem? (i := 95) (by decide +kernel), by decide +kernel⟩
theorem cf_X7_isStar : CFi yX7_isStar cX7_isStar 2 (some .boolean) 1 := ⟨cm_X7_isStar, List.mem_of_getElem? (i := 1114) (by decide +kernel), List.mem_of_getElem? (i := 59) (by decide +kernel)⟩
theorem cm_X7_jump : CFm yX7_jump cX7_jump 4 (some .int) 3 := ⟨List.mem_of_getElem? (i := 1120) (by decide +kernel), List.mem_of_getElem? (i := 95) (by decide +kernel), by decide +kernel⟩
theorem cf_X7_jump : CFi yX7_jump cX7_jump 4 (some .int) 3 := ⟨cm_X7_jump, List.mem_of_getElem? (i := 1118) (by decide +kernel), List.mem_of_getElem? (i := 1119) (by decide +kernel)⟩
theorem cm_X7_held : CFm yX7_held cX7_held 2 (some .int) 2 := ⟨List.mem_of_getElem? (i := 1123) (by decide +kernel), List.mem_of_getElem? (i := 95) (by decide +kernel), by decide +kernel⟩
theorem cf_X7_held : CFs yX7_held cX7_held 2 (some .int) 2 := ⟨cm_X7_held, List.mem_of_getElem? (i := 1122) (by decide +kernel)⟩
theorem cm_X7_health : CFm yX7_health cX7_health 4 (some .boolean) 2 := ⟨List.mem_of_getElem? (i := 1129) (by decide +kernel), List.mem_of_getElem? (i := 95) (by decide +kernel), by decide +kernel⟩
theorem cf_X7_health : CFi yX7_health cX7_health 4 (some .boolean) 2 := ⟨cm_X7_health, List.mem_of_getElem? (i := 1127) (by decide +kernel), List.mem_of_getElem? (i := 1128) (by decide +kernel)⟩
theorem cm_X7_station : CFm yX7_station cX7_station 3 (some .int) 2 := ⟨List.mem_of_getElem? (i := 1133) (by decide +kernel), List.mem_of_getElem? (i := 95) (by decide +kernel), by decide +kernel⟩
theorem cf_X7_station : CFi yX7_station cX7_station 3 (some .int) 2 := ⟨cm_X7_station, List.mem_of_getElem? (i := 1131) (by decide +kernel), List.mem_of_getElem? (i := 1132) (by decide +kernel)⟩
theorem cm_X7_listen : CFm yX7_listen cX7_listen 5 (some .int) 2 := ⟨List.mem_of_getElem? (i := 1137) (by decide +kernel), List.mem_of_getElem? (i := 95) (by decide +kernel), by decide +kernel⟩
theorem cf_X7_listen : CFi yX7_listen cX7_listen 5 (some .int) 2 := ⟨cm_X7_listen, List.mem_of_getElem? (i := 1135) (by decide +kernel), List.mem_of_getElem? (i := 1136) (by decide +kernel)⟩
theorem cm_X7_isStation : CFm yX7_isStation cX7_isStation 2 (some .boolean) 1 := ⟨List.mem_of_getElem? (i := 1141) (by decide +kernel), List.mem_of_getElem? (i := 95) (by decide +kernel), by decide +kernel⟩
theorem cf_X7_isStation : CFi yX7_isStation cX7_isStation 2 (some .boolean) 1 := ⟨cm_X7_isStation, List.mem_of_getElem? (i := 1140) (by decide +kernel), List.mem_of_getElem? (i := 60) (by decide +kernel)⟩
theorem cm_X7_isHeard : CFm yX7_isHeard cX7_isHeard 5 (some .boolean) 3 := ⟨List.mem_of_getElem? (i := 1145) (by decide +kernel), List.mem_of_getElem? (i := 95) (by decide +kernel), by decide +kernel⟩
theorem cf_X7_isHeard : CFi yX7_isHeard cX7_isHeard 5 (some .boolean) 3 := ⟨cm_X7_isHeard, List.mem_of_getElem? (i := 1144) (by decide +kernel), List.mem_of_getElem? (i := 61) (by decide +kernel)⟩
theorem cm_X7_phaseIn : CFm yX7_phaseIn cX7_phaseIn 3 (some .int) 2 := ⟨List.mem_of_getElem? (i := 1149) (by decide +kernel), List.mem_of_getElem? (i := 95) (by decide +kernel), by decide +kernel⟩
theorem cf_X7_phaseIn : CFi yX7_phaseIn cX7_phaseIn 3 (some .int) 2 := ⟨cm_X7_phaseIn, List.mem_of_getElem? (i := 1148) (by decide +kernel), List.mem_of_getElem? (i := 62) (by decide +kernel)⟩
theorem cm_X7_yAt : CFm yX7_yAt cX7_yAt 3 (some .int) 2 := ⟨List.mem_of_getElem? (i := 1153) (by decide +kernel), List.mem_of_getElem? (i := 95) (by decide +kernel), by decide +kernel⟩
theorem cf_X7_yAt : CFi yX7_yAt cX7_yAt 3 (some .int) 2 := ⟨cm_X7_yAt, List.mem_of_getElem? (i := 1152) (by decide +kernel), List.mem_of_getElem? (i := 63) (by decide +kernel)⟩
theorem cm_X7_tOf : CFm yX7_tOf cX7_tOf 2 (some .int) 1 := ⟨List.mem_of_getElem? (i := 1156) (by decide +kernel), List.mem_of_getElem? (i := 95) (by decide +kernel), by decide +kernel⟩
theorem cf_X7_tOf : CFs yX7_tOf cX7_tOf 2 (some .int) 1 := ⟨cm_X7_tOf, List.mem_of_getElem? (i := 1155) (by decide +kernel)⟩
theorem cm_X7_xAt : CFm yX7_xAt cX7_xAt 3 (some .int) 2 := ⟨List.mem_of_getElem? (i := 1160) (by decide +kernel), List.mem_of_getElem? (i := 95) (by decide +kernel), by decide +kernel⟩
theorem cf_X7_xAt : CFi yX7_xAt cX7_xAt 3 (some .int) 2 := ⟨cm_X7_xAt, List.mem_of_getElem? (i := 1159) (by decide +kernel), List.mem_of_getElem? (i := 64) (by decide +kernel)⟩
theorem cm_X7_since : CFm yX7_since cX7_since 2 (some .int) 1 := ⟨List.mem_of_getElem? (i := 1165) (by decide +kernel), List.mem_of_getElem? (i := 95) (by decide +kernel), by decide +kernel⟩
theorem cf_X7_since : CFi yX7_since cX7_since 2 (some .int) 1 := ⟨cm_X7_since, List.mem_of_getElem? (i := 1164) (by decide +kernel), List.mem_of_getElem? (i := 65) (by decide +kernel)⟩
theorem cm_X7_receiver : CFm yX7_receiver cX7_receiver 5 (some .int) 3 := ⟨List.mem_of_getElem? (i := 1169) (by decide +kernel), List.mem_of_getElem? (i := 95) (by decide +kernel), by decide +kernel⟩
theorem cf_X7_receiver : CFi yX7_receiver cX7_receiver 5 (some .int) 3 := ⟨cm_X7_receiver, List.mem_of_getElem? (i := 1167) (by decide +kernel), List.mem_of_getElem? (i := 1168) (by decide +kernel)⟩
theorem cm_X7_isPlace : CFm yX7_isPlace cX7_isPlace 2 (some .boolean) 2 := ⟨List.mem_of_getElem? (i := 1172) (by decide +kernel), List.mem_of_getElem? (i := 95) (by decide +kernel), by decide +kernel⟩
theorem cf_X7_isPlace : CFs yX7_isPlace cX7_isPlace 2 (some .boolean) 2 := ⟨cm_X7_isPlace, List.mem_of_getElem? (i := 1171) (by decide +kernel)⟩
theorem cm_X7_go : CFm yX7_go cX7_go 6 (some .int) 3 := ⟨List.mem_of_getElem? (i := 1176) (by decide +kernel), List.mem_of_getElem? (i := 95) (by decide +kernel), by decide +kernel⟩
theorem cf_X7_go : CFi yX7_go cX7_go 6 (some .int) 3 := ⟨cm_X7_go, List.mem_of_getElem? (i := 1174) (by decide +kernel), List.mem_of_getElem? (i := 1175) (by decide +kernel)⟩
theorem cm_X7_isReceiver : CFm yX7_isReceiver cX7_isReceiver 2 (some .boolean) 1 := ⟨List.mem_of_getElem? (i := 1180) (by decide +kernel), List.mem_of_getElem? (i := 95) (by decide +kernel), by decide +kernel⟩
theorem cf_X7_isReceiver : CFi yX7_isReceiver cX7_isReceiver 2 (some .boolean) 1 := ⟨cm_X7_isReceiver, List.mem_of_getElem? (i := 1179) (by decide +kernel), List.mem_of_getElem? (i := 66) (by decide +kernel)⟩
theorem cm_X7_range : CFm yX7_range cX7_range 4 (some .int) 4 := ⟨List.mem_of_getElem? (i := 1183) (by decide +kernel), List.mem_of_getElem? (i := 95) (by decide +kernel), by decide +kernel⟩
theorem cf_X7_range : CFs yX7_range cX7_range 4 (some .int) 4 := ⟨cm_X7_range, List.mem_of_getElem? (i := 1182) (by decide +kernel)⟩
theorem cm_X7_hills : CFm yX7_hills cX7_hills 4 (some .int) 3 := ⟨List.mem_of_getElem? (i := 1187) (by decide +kernel), List.mem_of_getElem? (i := 95) (by decide +kernel), by decide +kernel⟩
theorem cf_X7_hills : CFi yX7_hills cX7_hills 4 (some .int) 3 := ⟨cm_X7_hills, List.mem_of_getElem? (i := 1185) (by decide +kernel), List.mem_of_getElem? (i := 1186) (by decide +kernel)⟩
theorem cm_X7_setSeen : CFm yX7_setSeen cX7_setSeen 5 (some .int) 2 := ⟨List.mem_of_getElem? (i := 1191) (by decide +kernel), List.mem_of_getElem? (i := 95) (by decide +kernel), by decide +kernel⟩
theorem cf_X7_setSeen : CFi yX7_setSeen cX7_setSeen 5 (some .int) 2 := ⟨cm_X7_setSeen, List.mem_of_getElem? (i := 1190) (by decide +kernel), List.mem_of_getElem? (i := 67) (by decide +kernel)⟩
theorem cm_X7_sees : CFm yX7_sees cX7_sees 7 (some .boolean) 3 := ⟨List.mem_of_getElem? (i := 1195) (by decide +kernel), List.mem_of_getElem? (i := 95) (by decide +kernel), by decide +kernel⟩
theorem cf_X7_sees : CFi yX7_sees cX7_sees 7 (some .boolean) 3 := ⟨cm_X7_sees, List.mem_of_getElem? (i := 1194) (by decide +kernel), List.mem_of_getElem? (i := 68) (by decide +kernel)⟩
theorem cm_X7_air : CFm yX7_air cX7_air 4 (some .int) 3 := ⟨List.mem_of_getElem? (i := 1200) (by decide +kernel), List.mem_of_getElem? (i := 95) (by decide +kernel), by decide +kernel⟩
theorem cf_X7_air : CFi yX7_air cX7_air 4 (some .int) 3 := ⟨cm_X7_air, List.mem_of_getElem? (i := 1198) (by decide +kernel), List.mem_of_getElem? (i := 1199) (by decide +kernel)⟩
theorem cm_X7_change : CFm yX7_change cX7_change 5 (some .int) 3 := ⟨List.mem_of_getElem? (i := 1204) (by decide +kernel), List.mem_of_getElem? (i := 95) (by decide +kernel), by decide +kernel⟩
theorem cf_X7_change : CFi yX7_change cX7_change 5 (some .int) 3 := ⟨cm_X7_change, List.mem_of_getElem? (i := 1203) (by decide +kernel), List.mem_of_getElem? (i := 69) (by decide +kernel)⟩
theorem cm_X7_alert : CFm yX7_alert cX7_alert 3 (some .int) 2 := ⟨List.mem_of_getElem? (i := 1208) (by decide +kernel), List.mem_of_getElem? (i := 95) (by decide +kernel), by decide +kernel⟩
theorem cf_X7_alert : CFi yX7_alert cX7_alert 3 (some .int) 2 := ⟨cm_X7_alert, List.mem_of_getElem? (i := 1206) (by decide +kernel), List.mem_of_getElem? (i := 1207) (by decide +kernel)⟩
theorem cm_X7_spoof : CFm yX7_spoof cX7_spoof 3 (some .int) 2 := ⟨List.mem_of_getElem? (i := 1212) (by decide +kernel), List.mem_of_getElem? (i := 95) (by decide +kernel), by decide +kernel⟩
theorem cf_X7_spoof : CFi yX7_spoof cX7_spoof 3 (some .int) 2 := ⟨cm_X7_spoof, List.mem_of_getElem? (i := 1210) (by decide +kernel), List.mem_of_getElem? (i := 1211) (by decide +kernel)⟩
theorem cm_X7_refer : CFm yX7_refer cX7_refer 3 (some .int) 2 := ⟨List.mem_of_getElem? (i := 1216) (by decide +kernel), List.mem_of_getElem? (i := 95) (by decide +kernel), by decide +kernel⟩
theorem cf_X7_refer : CFi yX7_refer cX7_refer 3 (some .int) 2 := ⟨cm_X7_refer, List.mem_of_getElem? (i := 1214) (by decide +kernel), List.mem_of_getElem? (i := 1215) (by decide +kernel)⟩
theorem cm_X7_pass : CFm yX7_pass cX7_pass 5 (some .int) 1 := ⟨List.mem_of_getElem? (i := 1220) (by decide +kernel), List.mem_of_getElem? (i := 95) (by decide +kernel), by decide +kernel⟩
theorem cf_X7_pass : CFi yX7_pass cX7_pass 5 (some .int) 1 := ⟨cm_X7_pass, List.mem_of_getElem? (i := 1218) (by decide +kernel), List.mem_of_getElem? (i := 1219) (by decide +kernel)⟩
theorem cm_X7_observe : CFm yX7_observe cX7_observe 10 (some .int) 1 := ⟨List.mem_of_getElem? (i := 1224) (by decide +kernel), List.mem_of_getElem? (i := 95) (by decide +kernel), by decide +kernel⟩
theorem cf_X7_observe : CFi yX7_observe cX7_observe 10 (some .int) 1 := ⟨cm_X7_observe, List.mem_of_getElem? (i := 1222) (by decide +kernel), List.mem_of_getElem? (i := 1223) (by decide +kernel)⟩
theorem cm_X7_see : CFm yX7_see cX7_see 6 none 3 := ⟨List.mem_of_getElem? (i := 1228) (by decide +kernel), List.mem_of_getElem? (i := 95) (by decide +kernel), by decide +kernel⟩
theorem cf_X7_see : CFi yX7_see cX7_see 6 none 3 := ⟨cm_X7_see, List.mem_of_getElem? (i := 1227) (by decide +kernel), List.mem_of_getElem? (i := 70) (by decide +kernel)⟩
theorem cm_X7_codeOf : CFm yX7_codeOf cX7_codeOf 7 (some .int) 2 := ⟨List.mem_of_getElem? (i := 1232) (by decide +kernel), List.mem_of_getElem? (i := 95) (by decide +kernel), by decide +kernel⟩
theorem cf_X7_codeOf : CFi yX7_codeOf cX7_codeOf 7 (some .int) 2 := ⟨cm_X7_codeOf, List.mem_of_getElem? (i := 1231) (by decide +kernel), List.mem_of_getElem? (i := 71) (by decide +kernel)⟩
theorem cm_X7_trueOf : CFm yX7_trueOf cX7_trueOf 6 (some .int) 2 := ⟨List.mem_of_getElem? (i := 1236) (by decide +kernel), List.mem_of_getElem? (i := 95) (by decide +kernel), by decide +kernel⟩
theorem cf_X7_trueOf : CFi yX7_trueOf cX7_trueOf 6 (some .int) 2 := ⟨cm_X7_trueOf, List.mem_of_getElem? (i := 1235) (by decide +kernel), List.mem_of_getElem? (i := 72) (by decide +kernel)⟩
theorem cm_X7_lay : CFm yX7_lay cX7_lay 8 (some .int) 3 := ⟨List.mem_of_getElem? (i := 1241) (by decide +kernel), List.mem_of_getElem? (i := 95) (by decide +kernel), by decide +kernel⟩
theorem cf_X7_lay : CFi yX7_lay cX7_lay 8 (some .int) 3 := ⟨cm_X7_lay, List.mem_of_getElem? (i := 1240) (by decide +kernel), List.mem_of_getElem? (i := 73) (by decide +kernel)⟩
theorem cm_X7_holds : CFm yX7_holds cX7_holds 2 (some .boolean) 1 := ⟨List.mem_of_getElem? (i := 1245) (by decide +kernel), List.mem_of_getElem? (i := 95) (by decide +kernel), by decide +kernel⟩
theorem cf_X7_holds : CFi yX7_holds cX7_holds 2 (some .boolean) 1 := ⟨cm_X7_holds, List.mem_of_getElem? (i := 1244) (by decide +kernel), List.mem_of_getElem? (i := 74) (by decide +kernel)⟩
theorem cm_X7_toldPhase : CFm yX7_toldPhase cX7_toldPhase 2 (some .int) 1 := ⟨List.mem_of_getElem? (i := 1249) (by decide +kernel), List.mem_of_getElem? (i := 95) (by decide +kernel), by decide +kernel⟩
theorem cf_X7_toldPhase : CFi yX7_toldPhase cX7_toldPhase 2 (some .int) 1 := ⟨cm_X7_toldPhase, List.mem_of_getElem? (i := 1248) (by decide +kernel), List.mem_of_getElem? (i := 75) (by decide +kernel)⟩
theorem cm_X7_toldOffset : CFm yX7_toldOffset cX7_toldOffset 2 (some .int) 1 := ⟨List.mem_of_getElem? (i := 1253) (by decide +kernel), List.mem_of_getElem? (i := 95) (by decide +kernel), by decide +kernel⟩
theorem cf_X7_toldOffset : CFi yX7_toldOffset cX7_toldOffset 2 (some .int) 1 := ⟨cm_X7_toldOffset, List.mem_of_getElem? (i := 1252) (by decide +kernel), List.mem_of_getElem? (i := 76) (by decide +kernel)⟩
theorem cm_X7_correction : CFm yX7_correction cX7_correction 8 (some .int) 2 := ⟨List.mem_of_getElem? (i := 1257) (by decide +kernel), List.mem_of_getElem? (i := 95) (by decide +kernel), by decide +kernel⟩
theorem cf_X7_correction : CFi yX7_correction cX7_correction 8 (some .int) 2 := ⟨cm_X7_correction, List.mem_of_getElem? (i := 1256) (by decide +kernel), List.mem_of_getElem? (i := 77) (by decide +kernel)⟩
theorem cm_X7_place : CFm yX7_place cX7_place 8 none 5 := ⟨List.mem_of_getElem? (i := 1261) (by decide +kernel), List.mem_of_getElem? (i := 95) (by decide +kernel), by decide +kernel⟩
theorem cf_X7_place : CFi yX7_place cX7_place 8 none 5 := ⟨cm_X7_place, List.mem_of_getElem? (i := 1260) (by decide +kernel), List.mem_of_getElem? (i := 78) (by decide +kernel)⟩
theorem cm_X7_solve : CFm yX7_solve cX7_solve 3 none 0 := ⟨List.mem_of_getElem? (i := 1265) (by decide +kernel), List.mem_of_getElem? (i := 95) (by decide +kernel), by decide +kernel⟩
theorem cf_X7_solve : CFi yX7_solve cX7_solve 3 none 0 := ⟨cm_X7_solve, List.mem_of_getElem? (i := 1264) (by decide +kernel), List.mem_of_getElem? (i := 79) (by decide +kernel)⟩
theorem cm_X7_look : CFm yX7_look cX7_look 11 none 2 := ⟨List.mem_of_getElem? (i := 1270) (by decide +kernel), List.mem_of_getElem? (i := 95) (by decide +kernel), by decide +kernel⟩
theorem cf_X7_look : CFi yX7_look cX7_look 11 none 2 := ⟨cm_X7_look, List.mem_of_getElem? (i := 1269) (by decide +kernel), List.mem_of_getElem? (i := 80) (by decide +kernel)⟩
theorem cm_X7_over : CFm yX7_over cX7_over 4 (some .int) 3 := ⟨List.mem_of_getElem? (i := 1274) (by decide +kernel), List.mem_of_getElem? (i := 95) (by decide +kernel), by decide +kernel⟩
theorem cf_X7_over : CFi yX7_over cX7_over 4 (some .int) 3 := ⟨cm_X7_over, List.mem_of_getElem? (i := 1273) (by decide +kernel), List.mem_of_getElem? (i := 81) (by decide +kernel)⟩
theorem cm_X7_level : CFm yX7_level cX7_level 10 (some .int) 1 := ⟨List.mem_of_getElem? (i := 1278) (by decide +kernel), List.mem_of_getElem? (i := 95) (by decide +kernel), by decide +kernel⟩
theorem cf_X7_level : CFi yX7_level cX7_level 10 (some .int) 1 := ⟨cm_X7_level, List.mem_of_getElem? (i := 1277) (by decide +kernel), List.mem_of_getElem? (i := 82) (by decide +kernel)⟩
theorem cm_X7_alarm : CFm yX7_alarm cX7_alarm 4 (some .int) 3 := ⟨List.mem_of_getElem? (i := 1282) (by decide +kernel), List.mem_of_getElem? (i := 95) (by decide +kernel), by decide +kernel⟩
theorem cf_X7_alarm : CFi yX7_alarm cX7_alarm 4 (some .int) 3 := ⟨cm_X7_alarm, List.mem_of_getElem? (i := 1281) (by decide +kernel), List.mem_of_getElem? (i := 83) (by decide +kernel)⟩
theorem cm_X7_ofStar : CFm yX7_ofStar cX7_ofStar 3 (some .int) 2 := ⟨List.mem_of_getElem? (i := 1287) (by decide +kernel), List.mem_of_getElem? (i := 95) (by decide +kernel), by decide +kernel⟩
theorem cf_X7_ofStar : CFi yX7_ofStar cX7_ofStar 3 (some .int) 2 := ⟨cm_X7_ofStar, List.mem_of_getElem? (i := 1285) (by decide +kernel), List.mem_of_getElem? (i := 1286) (by decide +kernel)⟩
theorem cm_X7_ofStarNow : CFm yX7_ofStarNow cX7_ofStarNow 4 (some .int) 2 := ⟨List.mem_of_getElem? (i := 1291) (by decide +kernel), List.mem_of_getElem? (i := 95) (by decide +kernel), by decide +kernel⟩
theorem cf_X7_ofStarNow : CFi yX7_ofStarNow cX7_ofStarNow 4 (some .int) 2 := ⟨cm_X7_ofStarNow, List.mem_of_getElem? (i := 1290) (by decide +kernel), List.mem_of_getElem? (i := 84) (by decide +kernel)⟩
theorem cm_X7_message : CFm yX7_message cX7_message 3 (some .int) 2 := ⟨List.mem_of_getElem? (i := 1295) (by decide +kernel), List.mem_of_getElem? (i := 95) (by decide +kernel), by decide +kernel⟩
theorem cf_X7_message : CFi yX7_message cX7_message 3 (some .int) 2 := ⟨cm_X7_message, List.mem_of_getElem? (i := 1293) (by decide +kernel), List.mem_of_getElem? (i := 1294) (by decide +kernel)⟩
theorem cm_X7_messageNow : CFm yX7_messageNow cX7_messageNow 4 (some .int) 2 := ⟨List.mem_of_getElem? (i := 1299) (by decide +kernel), List.mem_of_getElem? (i := 95) (by decide +kernel), by decide +kernel⟩
theorem cf_X7_messageNow : CFi yX7_messageNow cX7_messageNow 4 (some .int) 2 := ⟨cm_X7_messageNow, List.mem_of_getElem? (i := 1298) (by decide +kernel), List.mem_of_getElem? (i := 85) (by decide +kernel)⟩
theorem cm_X7_seen : CFm yX7_seen cX7_seen 4 (some .int) 3 := ⟨List.mem_of_getElem? (i := 1303) (by decide +kernel), List.mem_of_getElem? (i := 95) (by decide +kernel), by decide +kernel⟩
theorem cf_X7_seen : CFi yX7_seen cX7_seen 4 (some .int) 3 := ⟨cm_X7_seen, List.mem_of_getElem? (i := 1301) (by decide +kernel), List.mem_of_getElem? (i := 1302) (by decide +kernel)⟩
theorem cm_X7_seenNow : CFm yX7_seenNow cX7_seenNow 5 (some .int) 3 := ⟨List.mem_of_getElem? (i := 1307) (by decide +kernel), List.mem_of_getElem? (i := 95) (by decide +kernel), by decide +kernel⟩
theorem cf_X7_seenNow : CFi yX7_seenNow cX7_seenNow 5 (some .int) 3 := ⟨cm_X7_seenNow, List.mem_of_getElem? (i := 1306) (by decide +kernel), List.mem_of_getElem? (i := 86) (by decide +kernel)⟩
theorem cm_X7_ofReceiver : CFm yX7_ofReceiver cX7_ofReceiver 3 (some .int) 2 := ⟨List.mem_of_getElem? (i := 1311) (by decide +kernel), List.mem_of_getElem? (i := 95) (by decide +kernel), by decide +kernel⟩
theorem cf_X7_ofReceiver : CFi yX7_ofReceiver cX7_ofReceiver 3 (some .int) 2 := ⟨cm_X7_ofReceiver, List.mem_of_getElem? (i := 1309) (by decide +kernel), List.mem_of_getElem? (i := 1310) (by decide +kernel)⟩
theorem cm_X7_ofReceiverNow : CFm yX7_ofReceiverNow cX7_ofReceiverNow 6 (some .int) 2 := ⟨List.mem_of_getElem? (i := 1315) (by decide +kernel), List.mem_of_getElem? (i := 95) (by decide +kernel), by decide +kernel⟩
theorem cf_X7_ofReceiverNow : CFi yX7_ofReceiverNow cX7_ofReceiverNow 6 (some .int) 2 := ⟨cm_X7_ofReceiverNow, List.mem_of_getElem? (i := 1314) (by decide +kernel), List.mem_of_getElem? (i := 87) (by decide +kernel)⟩
theorem cm_X7_many : CFm yX7_many cX7_many 2 (some .int) 1 := ⟨List.mem_of_getElem? (i := 1319) (by decide +kernel), List.mem_of_getElem? (i := 95) (by decide +kernel), by decide +kernel⟩
theorem cf_X7_many : CFi yX7_many cX7_many 2 (some .int) 1 := ⟨cm_X7_many, List.mem_of_getElem? (i := 1317) (by decide +kernel), List.mem_of_getElem? (i := 1318) (by decide +kernel)⟩
theorem cm_X7_manyNow : CFm yX7_manyNow cX7_manyNow 7 (some .int) 1 := ⟨List.mem_of_getElem? (i := 1323) (by decide +kernel), List.mem_of_getElem? (i := 95) (by decide +kernel), by decide +kernel⟩
theorem cf_X7_manyNow : CFi yX7_manyNow cX7_manyNow 7 (some .int) 1 := ⟨cm_X7_manyNow, List.mem_of_getElem? (i := 1322) (by decide +kernel), List.mem_of_getElem? (i := 88) (by decide +kernel)⟩
theorem cm_X7_meanError : CFm yX7_meanError cX7_meanError 2 (some .double) 1 := ⟨List.mem_of_getElem? (i := 1327) (by decide +kernel), List.mem_of_getElem? (i := 95) (by decide +kernel), by decide +kernel⟩
theorem cf_X7_meanError : CFi yX7_meanError cX7_meanError 2 (some .double) 1 := ⟨cm_X7_meanError, List.mem_of_getElem? (i := 1325) (by decide +kernel), List.mem_of_getElem? (i := 1326) (by decide +kernel)⟩
theorem cm_X7_wouldSee : CFm yX7_wouldSee cX7_wouldSee 3 (some .int) 2 := ⟨List.mem_of_getElem? (i := 1331) (by decide +kernel), List.mem_of_getElem? (i := 95) (by decide +kernel), by decide +kernel⟩
theorem cf_X7_wouldSee : CFi yX7_wouldSee cX7_wouldSee 3 (some .int) 2 := ⟨cm_X7_wouldSee, List.mem_of_getElem? (i := 1329) (by decide +kernel), List.mem_of_getElem? (i := 1330) (by decide +kernel)⟩
theorem cm_X7_heardIn : CFm yX7_heardIn cX7_heardIn 3 (some .int) 2 := ⟨List.mem_of_getElem? (i := 1335) (by decide +kernel), List.mem_of_getElem? (i := 95) (by decide +kernel), by decide +kernel⟩
theorem cf_X7_heardIn : CFi yX7_heardIn cX7_heardIn 3 (some .int) 2 := ⟨cm_X7_heardIn, List.mem_of_getElem? (i := 1333) (by decide +kernel), List.mem_of_getElem? (i := 1334) (by decide +kernel)⟩
theorem cm_X7_heardNow : CFm yX7_heardNow cX7_heardNow 4 (some .int) 2 := ⟨List.mem_of_getElem? (i := 1339) (by decide +kernel), List.mem_of_getElem? (i := 95) (by decide +kernel), by decide +kernel⟩
theorem cf_X7_heardNow : CFi yX7_heardNow cX7_heardNow 4 (some .int) 2 := ⟨cm_X7_heardNow, List.mem_of_getElem? (i := 1338) (by decide +kernel), List.mem_of_getElem? (i := 89) (by decide +kernel)⟩
theorem cm_X7_without : CFm yX7_without cX7_without 3 (some .int) 2 := ⟨List.mem_of_getElem? (i := 1343) (by decide +kernel), List.mem_of_getElem? (i := 95) (by decide +kernel), by decide +kernel⟩
theorem cf_X7_without : CFi yX7_without cX7_without 3 (some .int) 2 := ⟨cm_X7_without, List.mem_of_getElem? (i := 1341) (by decide +kernel), List.mem_of_getElem? (i := 1342) (by decide +kernel)⟩
theorem cm_X7_wouldAlarm : CFm yX7_wouldAlarm cX7_wouldAlarm 2 (some .int) 1 := ⟨List.mem_of_getElem? (i := 1347) (by decide +kernel), List.mem_of_getElem? (i := 95) (by decide +kernel), by decide +kernel⟩
theorem cf_X7_wouldAlarm : CFi yX7_wouldAlarm cX7_wouldAlarm 2 (some .int) 1 := ⟨cm_X7_wouldAlarm, List.mem_of_getElem? (i := 1345) (by decide +kernel), List.mem_of_getElem? (i := 1346) (by decide +kernel)⟩
theorem cm_X7_alarmNow : CFm yX7_alarmNow cX7_alarmNow 3 (some .int) 1 := ⟨List.mem_of_getElem? (i := 1351) (by decide +kernel), List.mem_of_getElem? (i := 95) (by decide +kernel), by decide +kernel⟩
theorem cf_X7_alarmNow : CFi yX7_alarmNow cX7_alarmNow 3 (some .int) 1 := ⟨cm_X7_alarmNow, List.mem_of_getElem? (i := 1350) (by decide +kernel), List.mem_of_getElem? (i := 90) (by decide +kernel)⟩
theorem cm_X7_digest : CFm yX7_digest cX7_digest 4 (some .long) 0 := ⟨List.mem_of_getElem? (i := 1355) (by decide +kernel), List.mem_of_getElem? (i := 95) (by decide +kernel), by decide +kernel⟩
theorem cf_X7_digest : CFi yX7_digest cX7_digest 4 (some .long) 0 := ⟨cm_X7_digest, List.mem_of_getElem? (i := 1353) (by decide +kernel), List.mem_of_getElem? (i := 1354) (by decide +kernel)⟩
theorem cm_X7_add : CFm yX7_add cX7_add 2 none 1 := ⟨List.mem_of_getElem? (i := 1360) (by decide +kernel), List.mem_of_getElem? (i := 95) (by decide +kernel), by decide +kernel⟩
theorem cf_X7_add : CFi yX7_add cX7_add 2 none 1 := ⟨cm_X7_add, List.mem_of_getElem? (i := 1359) (by decide +kernel), List.mem_of_getElem? (i := 91) (by decide +kernel)⟩
theorem kin_X0 : ∀ w ∈ u_ws RX0 TX0 13, w ∈ lw_tbl ∧ okw w = true := by decide +kernel
theorem kin_X1 : ∀ w ∈ u_ws RX1 TX1 11, w ∈ lw_tbl ∧ okw w = true := by decide +kernel
theorem kin_X2 : ∀ w ∈ u_ws RX2 TX2 15, w ∈ lw_tbl ∧ okw w = true := by decide +kernel
theorem kin_X3 : ∀ w ∈ u_ws RX3 TX3 11, w ∈ lw_tbl ∧ okw w = true := by decide +kernel
theorem kin_X4 : ∀ w ∈ u_ws RX4 TX4 2, w ∈ lw_tbl ∧ okw w = true := by decide +kernel
theorem kin_X5 : ∀ w ∈ u_ws RX5 TX5 13, w ∈ lw_tbl ∧ okw w = true := by decide +kernel
theorem kin_X6 : ∀ w ∈ u_ws RX6 TX6 8, w ∈ lw_tbl ∧ okw w = true := by decide +kernel
theorem kin_X7 : ∀ w ∈ u_ws RX7 TX7 20, w ∈ lw_tbl ∧ okw w = true := by decide +kernel
