theorem cm_X6_init : CFm yX6_init cX6_init 1 none 0 := ⟨List.mem_of_getElem? (i := 78) (by decide +kernel), List.mem_of_getElem? (i := 59) (by decide +kernel), by decide +kernel⟩
theorem cf_X6_init : CFc yX6_init cX6_init 1 0 := ⟨cm_X6_init, rfl, List.mem_of_getElem? (i := 77) (by decide +kernel)⟩
theorem cm_X2_init : CFm yX2_init cX2_init 1 none 0 := ⟨List.mem_of_getElem? (i := 92) (by decide +kernel), List.mem_of_getElem? (i := 60) (by decide +kernel), by decide +kernel⟩
theorem cf_X2_init : CFc yX2_init cX2_init 1 0 := ⟨cm_X2_init, rfl, List.mem_of_getElem? (i := 91) (by decide +kernel)⟩
theorem cm_X6_star : CFm yX6_star cX6_star 6 (some .int) 5 := ⟨List.mem_of_getElem? (i := 180) (by decide +kernel), List.mem_of_getElem? (i := 59) (by decide +kernel), by decide +kernel⟩
theorem cf_X6_star : CFi yX6_star cX6_star 6 (some .int) 5 := ⟨cm_X6_star, List.mem_of_getElem? (i := 178) (by decide +kernel), List.mem_of_getElem? (i := 179) (by decide +kernel)⟩
theorem cm_X6_isOutside : CFm yX6_isOutside cX6_isOutside 3 (some .boolean) 3 := ⟨List.mem_of_getElem? (i := 183) (by decide +kernel), List.mem_of_getElem? (i := 59) (by decide +kernel), by decide +kernel⟩
theorem cf_X6_isOutside : CFs yX6_isOutside cX6_isOutside 3 (some .boolean) 3 := ⟨cm_X6_isOutside, List.mem_of_getElem? (i := 182) (by decide +kernel)⟩
theorem cm_X3_init : CFm yX3_init cX3_init 6 none 5 := ⟨List.mem_of_getElem? (i := 272) (by decide +kernel), List.mem_of_getElem? (i := 66) (by decide +kernel), by decide +kernel⟩
theorem cf_X3_init : CFc yX3_init cX3_init 6 5 := ⟨cm_X3_init, rfl, List.mem_of_getElem? (i := 271) (by decide +kernel)⟩
theorem cm_X6_push : CFm yX6_push cX6_push 4 (some .int) 2 := ⟨List.mem_of_getElem? (i := 319) (by decide +kernel), List.mem_of_getElem? (i := 59) (by decide +kernel), by decide +kernel⟩
theorem cf_X6_push : CFi yX6_push cX6_push 4 (some .int) 2 := ⟨cm_X6_push, List.mem_of_getElem? (i := 317) (by decide +kernel), List.mem_of_getElem? (i := 318) (by decide +kernel)⟩
theorem cm_X6_isNoStar : CFm yX6_isNoStar cX6_isNoStar 2 (some .boolean) 1 := ⟨List.mem_of_getElem? (i := 323) (by decide +kernel), List.mem_of_getElem? (i := 59) (by decide +kernel), by decide +kernel⟩
theorem cf_X6_isNoStar : CFi yX6_isNoStar cX6_isNoStar 2 (some .boolean) 1 := ⟨cm_X6_isNoStar, List.mem_of_getElem? (i := 322) (by decide +kernel), List.mem_of_getElem? (i := 1) (by decide +kernel)⟩
theorem cm_J9_floorMod_7cf53 : CFm yJ9_floorMod_7cf53 cJ9_floorMod_7cf53 3 (some .int) 2 := ⟨List.mem_of_getElem? (i := 343) (by decide +kernel), List.mem_of_getElem? (i := 72) (by decide +kernel), by decide +kernel⟩
theorem cf_J9_floorMod_7cf53 : CFs yJ9_floorMod_7cf53 cJ9_floorMod_7cf53 3 (some .int) 2 := ⟨cm_J9_floorMod_7cf53, List.mem_of_getElem? (i := 342) (by decide +kernel)⟩
theorem cm_X6_jump : CFm yX6_jump cX6_jump 5 (some .int) 3 := ⟨List.mem_of_getElem? (i := 347) (by decide +kernel), List.mem_of_getElem? (i := 59) (by decide +kernel), by decide +kernel⟩
theorem cf_X6_jump : CFi yX6_jump cX6_jump 5 (some .int) 3 := ⟨cm_X6_jump, List.mem_of_getElem? (i := 345) (by decide +kernel), List.mem_of_getElem? (i := 346) (by decide +kernel)⟩
theorem cm_X3_moveClock : CFm yX3_moveClock cX3_moveClock 2 none 1 := ⟨List.mem_of_getElem? (i := 351) (by decide +kernel), List.mem_of_getElem? (i := 66) (by decide +kernel), by decide +kernel⟩
theorem cf_X3_moveClock : CFi yX3_moveClock cX3_moveClock 2 none 1 := ⟨cm_X3_moveClock, List.mem_of_getElem? (i := 350) (by decide +kernel), List.mem_of_getElem? (i := 2) (by decide +kernel)⟩
theorem cm_X6_held : CFm yX6_held cX6_held 2 (some .int) 2 := ⟨List.mem_of_getElem? (i := 354) (by decide +kernel), List.mem_of_getElem? (i := 59) (by decide +kernel), by decide +kernel⟩
theorem cf_X6_held : CFs yX6_held cX6_held 2 (some .int) 2 := ⟨cm_X6_held, List.mem_of_getElem? (i := 353) (by decide +kernel)⟩
theorem cm_J9_min_7cf53 : CFm yJ9_min_7cf53 cJ9_min_7cf53 2 (some .int) 2 := ⟨List.mem_of_getElem? (i := 357) (by decide +kernel), List.mem_of_getElem? (i := 72) (by decide +kernel), by decide +kernel⟩
theorem cf_J9_min_7cf53 : CFs yJ9_min_7cf53 cJ9_min_7cf53 2 (some .int) 2 := ⟨cm_J9_min_7cf53, List.mem_of_getElem? (i := 356) (by decide +kernel)⟩
theorem cm_J9_max_7cf53 : CFm yJ9_max_7cf53 cJ9_max_7cf53 2 (some .int) 2 := ⟨List.mem_of_getElem? (i := 360) (by decide +kernel), List.mem_of_getElem? (i := 72) (by decide +kernel), by decide +kernel⟩
theorem cf_J9_max_7cf53 : CFs yJ9_max_7cf53 cJ9_max_7cf53 2 (some .int) 2 := ⟨cm_J9_max_7cf53, List.mem_of_getElem? (i := 359) (by decide +kernel)⟩
theorem cm_X6_health : CFm yX6_health cX6_health 4 (some .boolean) 2 := ⟨List.mem_of_getElem? (i := 364) (by decide +kernel), List.mem_of_getElem? (i := 59) (by decide +kernel), by decide +kernel⟩
theorem cf_X6_health : CFi yX6_health cX6_health 4 (some .boolean) 2 := ⟨cm_X6_health, List.mem_of_getElem? (i := 362) (by decide +kernel), List.mem_of_getElem? (i := 363) (by decide +kernel)⟩
theorem cm_X6_station : CFm yX6_station cX6_station 3 (some .int) 2 := ⟨List.mem_of_getElem? (i := 368) (by decide +kernel), List.mem_of_getElem? (i := 59) (by decide +kernel), by decide +kernel⟩
theorem cf_X6_station : CFi yX6_station cX6_station 3 (some .int) 2 := ⟨cm_X6_station, List.mem_of_getElem? (i := 366) (by decide +kernel), List.mem_of_getElem? (i := 367) (by decide +kernel)⟩
theorem cm_X4_init : CFm yX4_init cX4_init 3 none 2 := ⟨List.mem_of_getElem? (i := 374) (by decide +kernel), List.mem_of_getElem? (i := 67) (by decide +kernel), by decide +kernel⟩
theorem cf_X4_init : CFc yX4_init cX4_init 3 2 := ⟨cm_X4_init, rfl, List.mem_of_getElem? (i := 373) (by decide +kernel)⟩
theorem cm_X6_listen : CFm yX6_listen cX6_listen 5 (some .int) 2 := ⟨List.mem_of_getElem? (i := 387) (by decide +kernel), List.mem_of_getElem? (i := 59) (by decide +kernel), by decide +kernel⟩
theorem cf_X6_listen : CFi yX6_listen cX6_listen 5 (some .int) 2 := ⟨cm_X6_listen, List.mem_of_getElem? (i := 385) (by decide +kernel), List.mem_of_getElem? (i := 386) (by decide +kernel)⟩
theorem cm_X6_isNoStation : CFm yX6_isNoStation cX6_isNoStation 2 (some .boolean) 1 := ⟨List.mem_of_getElem? (i := 391) (by decide +kernel), List.mem_of_getElem? (i := 59) (by decide +kernel), by decide +kernel⟩
theorem cf_X6_isNoStation : CFi yX6_isNoStation cX6_isNoStation 2 (some .boolean) 1 := ⟨cm_X6_isNoStation, List.mem_of_getElem? (i := 390) (by decide +kernel), List.mem_of_getElem? (i := 3) (by decide +kernel)⟩
theorem cm_X4_canHear : CFm yX4_canHear cX4_canHear 4 (some .boolean) 2 := ⟨List.mem_of_getElem? (i := 396) (by decide +kernel), List.mem_of_getElem? (i := 67) (by decide +kernel), by decide +kernel⟩
theorem cf_X4_canHear : CFi yX4_canHear cX4_canHear 4 (some .boolean) 2 := ⟨cm_X4_canHear, List.mem_of_getElem? (i := 395) (by decide +kernel), List.mem_of_getElem? (i := 4) (by decide +kernel)⟩
theorem cm_X3_yIn : CFm yX3_yIn cX3_yIn 2 (some .int) 1 := ⟨List.mem_of_getElem? (i := 400) (by decide +kernel), List.mem_of_getElem? (i := 66) (by decide +kernel), by decide +kernel⟩
theorem cf_X3_yIn : CFi yX3_yIn cX3_yIn 2 (some .int) 1 := ⟨cm_X3_yIn, List.mem_of_getElem? (i := 399) (by decide +kernel), List.mem_of_getElem? (i := 5) (by decide +kernel)⟩
theorem cm_X6_swing : CFm yX6_swing cX6_swing 2 (some .int) 1 := ⟨List.mem_of_getElem? (i := 403) (by decide +kernel), List.mem_of_getElem? (i := 59) (by decide +kernel), by decide +kernel⟩
theorem cf_X6_swing : CFs yX6_swing cX6_swing 2 (some .int) 1 := ⟨cm_X6_swing, List.mem_of_getElem? (i := 402) (by decide +kernel)⟩
theorem cm_X3_xIn : CFm yX3_xIn cX3_xIn 2 (some .int) 1 := ⟨List.mem_of_getElem? (i := 407) (by decide +kernel), List.mem_of_getElem? (i := 66) (by decide +kernel), by decide +kernel⟩
theorem cf_X3_xIn : CFi yX3_xIn cX3_xIn 2 (some .int) 1 := ⟨cm_X3_xIn, List.mem_of_getElem? (i := 406) (by decide +kernel), List.mem_of_getElem? (i := 6) (by decide +kernel)⟩
theorem cm_J9_abs_0f7a4 : CFm yJ9_abs_0f7a4 cJ9_abs_0f7a4 1 (some .int) 1 := ⟨List.mem_of_getElem? (i := 410) (by decide +kernel), List.mem_of_getElem? (i := 72) (by decide +kernel), by decide +kernel⟩
theorem cf_J9_abs_0f7a4 : CFs yJ9_abs_0f7a4 cJ9_abs_0f7a4 1 (some .int) 1 := ⟨cm_J9_abs_0f7a4, List.mem_of_getElem? (i := 409) (by decide +kernel)⟩
theorem cm_X3_takeMessage : CFm yX3_takeMessage cX3_takeMessage 5 none 2 := ⟨List.mem_of_getElem? (i := 415) (by decide +kernel), List.mem_of_getElem? (i := 66) (by decide +kernel), by decide +kernel⟩
theorem cf_X3_takeMessage : CFi yX3_takeMessage cX3_takeMessage 5 none 2 := ⟨cm_X3_takeMessage, List.mem_of_getElem? (i := 414) (by decide +kernel), List.mem_of_getElem? (i := 7) (by decide +kernel)⟩
theorem cm_X6_receiver : CFm yX6_receiver cX6_receiver 4 (some .int) 3 := ⟨List.mem_of_getElem? (i := 419) (by decide +kernel), List.mem_of_getElem? (i := 59) (by decide +kernel), by decide +kernel⟩
theorem cf_X6_receiver : CFi yX6_receiver cX6_receiver 4 (some .int) 3 := ⟨cm_X6_receiver, List.mem_of_getElem? (i := 417) (by decide +kernel), List.mem_of_getElem? (i := 418) (by decide +kernel)⟩
theorem cm_X6_isNoPlace : CFm yX6_isNoPlace cX6_isNoPlace 2 (some .boolean) 2 := ⟨List.mem_of_getElem? (i := 422) (by decide +kernel), List.mem_of_getElem? (i := 59) (by decide +kernel), by decide +kernel⟩
theorem cf_X6_isNoPlace : CFs yX6_isNoPlace cX6_isNoPlace 2 (some .boolean) 2 := ⟨cm_X6_isNoPlace, List.mem_of_getElem? (i := 421) (by decide +kernel)⟩
theorem cm_X0_init : CFm yX0_init cX0_init 6 none 4 := ⟨List.mem_of_getElem? (i := 428) (by decide +kernel), List.mem_of_getElem? (i := 68) (by decide +kernel), by decide +kernel⟩
theorem cf_X0_init : CFc yX0_init cX0_init 6 4 := ⟨cm_X0_init, rfl, List.mem_of_getElem? (i := 427) (by decide +kernel)⟩
theorem cm_X5_init : CFm yX5_init cX5_init 1 none 0 := ⟨List.mem_of_getElem? (i := 434) (by decide +kernel), List.mem_of_getElem? (i := 69) (by decide +kernel), by decide +kernel⟩
theorem cf_X5_init : CFc yX5_init cX5_init 1 0 := ⟨cm_X5_init, rfl, List.mem_of_getElem? (i := 433) (by decide +kernel)⟩
theorem cm_X1_init : CFm yX1_init cX1_init 1 none 0 := ⟨List.mem_of_getElem? (i := 484) (by decide +kernel), List.mem_of_getElem? (i := 70) (by decide +kernel), by decide +kernel⟩
theorem cf_X1_init : CFc yX1_init cX1_init 1 0 := ⟨cm_X1_init, rfl, List.mem_of_getElem? (i := 483) (by decide +kernel)⟩
theorem cm_X6_go : CFm yX6_go cX6_go 6 (some .int) 3 := ⟨List.mem_of_getElem? (i := 580) (by decide +kernel), List.mem_of_getElem? (i := 59) (by decide +kernel), by decide +kernel⟩
theorem cf_X6_go : CFi yX6_go cX6_go 6 (some .int) 3 := ⟨cm_X6_go, List.mem_of_getElem? (i := 578) (by decide +kernel), List.mem_of_getElem? (i := 579) (by decide +kernel)⟩
theorem cm_X6_isNoReceiver : CFm yX6_isNoReceiver cX6_isNoReceiver 2 (some .boolean) 1 := ⟨List.mem_of_getElem? (i := 584) (by decide +kernel), List.mem_of_getElem? (i := 59) (by decide +kernel), by decide +kernel⟩
theorem cf_X6_isNoReceiver : CFi yX6_isNoReceiver cX6_isNoReceiver 2 (some .boolean) 1 := ⟨cm_X6_isNoReceiver, List.mem_of_getElem? (i := 583) (by decide +kernel), List.mem_of_getElem? (i := 8) (by decide +kernel)⟩
theorem cm_X6_rangeOf : CFm yX6_rangeOf cX6_rangeOf 4 (some .int) 4 := ⟨List.mem_of_getElem? (i := 589) (by decide +kernel), List.mem_of_getElem? (i := 59) (by decide +kernel), by decide +kernel⟩
theorem cf_X6_rangeOf : CFs yX6_rangeOf cX6_rangeOf 4 (some .int) 4 := ⟨cm_X6_rangeOf, List.mem_of_getElem? (i := 588) (by decide +kernel)⟩
theorem cm_X6_hills : CFm yX6_hills cX6_hills 5 (some .int) 3 := ⟨List.mem_of_getElem? (i := 594) (by decide +kernel), List.mem_of_getElem? (i := 59) (by decide +kernel), by decide +kernel⟩
theorem cf_X6_hills : CFi yX6_hills cX6_hills 5 (some .int) 3 := ⟨cm_X6_hills, List.mem_of_getElem? (i := 592) (by decide +kernel), List.mem_of_getElem? (i := 593) (by decide +kernel)⟩
theorem cm_X6_setSeen : CFm yX6_setSeen cX6_setSeen 5 (some .int) 2 := ⟨List.mem_of_getElem? (i := 599) (by decide +kernel), List.mem_of_getElem? (i := 59) (by decide +kernel), by decide +kernel⟩
theorem cf_X6_setSeen : CFi yX6_setSeen cX6_setSeen 5 (some .int) 2 := ⟨cm_X6_setSeen, List.mem_of_getElem? (i := 598) (by decide +kernel), List.mem_of_getElem? (i := 9) (by decide +kernel)⟩
theorem cm_X0_canSee : CFm yX0_canSee cX0_canSee 4 (some .boolean) 2 := ⟨List.mem_of_getElem? (i := 603) (by decide +kernel), List.mem_of_getElem? (i := 68) (by decide +kernel), by decide +kernel⟩
theorem cf_X0_canSee : CFi yX0_canSee cX0_canSee 4 (some .boolean) 2 := ⟨cm_X0_canSee, List.mem_of_getElem? (i := 602) (by decide +kernel), List.mem_of_getElem? (i := 10) (by decide +kernel)⟩
theorem cm_J6_bitCount_0f7a4 : CFm yJ6_bitCount_0f7a4 cJ6_bitCount_0f7a4 1 (some .int) 1 := ⟨List.mem_of_getElem? (i := 608) (by decide +kernel), List.mem_of_getElem? (i := 73) (by decide +kernel), by decide +kernel⟩
theorem cf_J6_bitCount_0f7a4 : CFs yJ6_bitCount_0f7a4 cJ6_bitCount_0f7a4 1 (some .int) 1 := ⟨cm_J6_bitCount_0f7a4, List.mem_of_getElem? (i := 607) (by decide +kernel)⟩
theorem cm_X6_air : CFm yX6_air cX6_air 6 (some .int) 3 := ⟨List.mem_of_getElem? (i := 615) (by decide +kernel), List.mem_of_getElem? (i := 59) (by decide +kernel), by decide +kernel⟩
theorem cf_X6_air : CFi yX6_air cX6_air 6 (some .int) 3 := ⟨cm_X6_air, List.mem_of_getElem? (i := 613) (by decide +kernel), List.mem_of_getElem? (i := 614) (by decide +kernel)⟩
theorem cm_X6_alert : CFm yX6_alert cX6_alert 4 (some .int) 2 := ⟨List.mem_of_getElem? (i := 620) (by decide +kernel), List.mem_of_getElem? (i := 59) (by decide +kernel), by decide +kernel⟩
theorem cf_X6_alert : CFi yX6_alert cX6_alert 4 (some .int) 2 := ⟨cm_X6_alert, List.mem_of_getElem? (i := 618) (by decide +kernel), List.mem_of_getElem? (i := 619) (by decide +kernel)⟩
theorem cm_X6_spoof : CFm yX6_spoof cX6_spoof 4 (some .int) 2 := ⟨List.mem_of_getElem? (i := 625) (by decide +kernel), List.mem_of_getElem? (i := 59) (by decide +kernel), by decide +kernel⟩
theorem cf_X6_spoof : CFi yX6_spoof cX6_spoof 4 (some .int) 2 := ⟨cm_X6_spoof, List.mem_of_getElem? (i := 623) (by decide +kernel), List.mem_of_getElem? (i := 624) (by decide +kernel)⟩
theorem cm_X6_refer : CFm yX6_refer cX6_refer 4 (some .int) 2 := ⟨List.mem_of_getElem? (i := 629) (by decide +kernel), List.mem_of_getElem? (i := 59) (by decide +kernel), by decide +kernel⟩
theorem cf_X6_refer : CFi yX6_refer cX6_refer 4 (some .int) 2 := ⟨cm_X6_refer, List.mem_of_getElem? (i := 627) (by decide +kernel), List.mem_of_getElem? (i := 628) (by decide +kernel)⟩
theorem cm_X6_pass : CFm yX6_pass cX6_pass 3 (some .int) 1 := ⟨List.mem_of_getElem? (i := 635) (by decide +kernel), List.mem_of_getElem? (i := 59) (by decide +kernel), by decide +kernel⟩
theorem cf_X6_pass : CFi yX6_pass cX6_pass 3 (some .int) 1 := ⟨cm_X6_pass, List.mem_of_getElem? (i := 633) (by decide +kernel), List.mem_of_getElem? (i := 634) (by decide +kernel)⟩
theorem cm_X6_passOne : CFm yX6_passOne cX6_passOne 2 none 0 := ⟨List.mem_of_getElem? (i := 640) (by decide +kernel), List.mem_of_getElem? (i := 59) (by decide +kernel), by decide +kernel⟩
theorem cf_X6_passOne : CFi yX6_passOne cX6_passOne 2 none 0 := ⟨cm_X6_passOne, List.mem_of_getElem? (i := 639) (by decide +kernel), List.mem_of_getElem? (i := 11) (by decide +kernel)⟩
theorem cm_X3_passOne : CFm yX3_passOne cX3_passOne 1 none 0 := ⟨List.mem_of_getElem? (i := 644) (by decide +kernel), List.mem_of_getElem? (i := 66) (by decide +kernel), by decide +kernel⟩
theorem cf_X3_passOne : CFi yX3_passOne cX3_passOne 1 none 0 := ⟨cm_X3_passOne, List.mem_of_getElem? (i := 643) (by decide +kernel), List.mem_of_getElem? (i := 12) (by decide +kernel)⟩
theorem cm_X6_observe : CFm yX6_observe cX6_observe 4 (some .int) 1 := ⟨List.mem_of_getElem? (i := 650) (by decide +kernel), List.mem_of_getElem? (i := 59) (by decide +kernel), by decide +kernel⟩
theorem cf_X6_observe : CFi yX6_observe cX6_observe 4 (some .int) 1 := ⟨cm_X6_observe, List.mem_of_getElem? (i := 648) (by decide +kernel), List.mem_of_getElem? (i := 649) (by decide +kernel)⟩
theorem cm_X5_hasObservedIn : CFm yX5_hasObservedIn cX5_hasObservedIn 2 (some .boolean) 1 := ⟨List.mem_of_getElem? (i := 654) (by decide +kernel), List.mem_of_getElem? (i := 69) (by decide +kernel), by decide +kernel⟩
theorem cf_X5_hasObservedIn : CFi yX5_hasObservedIn cX5_hasObservedIn 2 (some .boolean) 1 := ⟨cm_X5_hasObservedIn, List.mem_of_getElem? (i := 653) (by decide +kernel), List.mem_of_getElem? (i := 13) (by decide +kernel)⟩
theorem cm_X6_measure : CFm yX6_measure cX6_measure 6 none 1 := ⟨List.mem_of_getElem? (i := 659) (by decide +kernel), List.mem_of_getElem? (i := 59) (by decide +kernel), by decide +kernel⟩
theorem cf_X6_measure : CFi yX6_measure cX6_measure 6 none 1 := ⟨cm_X6_measure, List.mem_of_getElem? (i := 658) (by decide +kernel), List.mem_of_getElem? (i := 14) (by decide +kernel)⟩
theorem cm_X0_trueCount : CFm yX0_trueCount cX0_trueCount 4 (some .int) 1 := ⟨List.mem_of_getElem? (i := 663) (by decide +kernel), List.mem_of_getElem? (i := 68) (by decide +kernel), by decide +kernel⟩
theorem cf_X0_trueCount : CFi yX0_trueCount cX0_trueCount 4 (some .int) 1 := ⟨cm_X0_trueCount, List.mem_of_getElem? (i := 662) (by decide +kernel), List.mem_of_getElem? (i := 15) (by decide +kernel)⟩
theorem cm_X6_codeOf : CFm yX6_codeOf cX6_codeOf 4 (some .int) 2 := ⟨List.mem_of_getElem? (i := 668) (by decide +kernel), List.mem_of_getElem? (i := 59) (by decide +kernel), by decide +kernel⟩
theorem cf_X6_codeOf : CFi yX6_codeOf cX6_codeOf 4 (some .int) 2 := ⟨cm_X6_codeOf, List.mem_of_getElem? (i := 667) (by decide +kernel), List.mem_of_getElem? (i := 16) (by decide +kernel)⟩
theorem cm_X0_airDelay : CFm yX0_airDelay cX0_airDelay 3 (some .int) 1 := ⟨List.mem_of_getElem? (i := 672) (by decide +kernel), List.mem_of_getElem? (i := 68) (by decide +kernel), by decide +kernel⟩
theorem cf_X0_airDelay : CFi yX0_airDelay cX0_airDelay 3 (some .int) 1 := ⟨cm_X0_airDelay, List.mem_of_getElem? (i := 671) (by decide +kernel), List.mem_of_getElem? (i := 17) (by decide +kernel)⟩
theorem cm_X1_take : CFm yX1_take cX1_take 5 none 3 := ⟨List.mem_of_getElem? (i := 677) (by decide +kernel), List.mem_of_getElem? (i := 70) (by decide +kernel), by decide +kernel⟩
theorem cf_X1_take : CFi yX1_take cX1_take 5 none 3 := ⟨cm_X1_take, List.mem_of_getElem? (i := 676) (by decide +kernel), List.mem_of_getElem? (i := 18) (by decide +kernel)⟩
theorem cm_X1_forget : CFm yX1_forget cX1_forget 1 none 0 := ⟨List.mem_of_getElem? (i := 681) (by decide +kernel), List.mem_of_getElem? (i := 70) (by decide +kernel), by decide +kernel⟩
theorem cf_X1_forget : CFi yX1_forget cX1_forget 1 none 0 := ⟨cm_X1_forget, List.mem_of_getElem? (i := 680) (by decide +kernel), List.mem_of_getElem? (i := 19) (by decide +kernel)⟩
theorem cm_J9_floorDiv_7cf53 : CFm yJ9_floorDiv_7cf53 cJ9_floorDiv_7cf53 3 (some .int) 2 := ⟨List.mem_of_getElem? (i := 684) (by decide +kernel), List.mem_of_getElem? (i := 72) (by decide +kernel), by decide +kernel⟩
theorem cf_J9_floorDiv_7cf53 : CFs yJ9_floorDiv_7cf53 cJ9_floorDiv_7cf53 3 (some .int) 2 := ⟨cm_J9_floorDiv_7cf53, List.mem_of_getElem? (i := 683) (by decide +kernel)⟩
theorem cm_X1_lose : CFm yX1_lose cX1_lose 1 none 0 := ⟨List.mem_of_getElem? (i := 689) (by decide +kernel), List.mem_of_getElem? (i := 70) (by decide +kernel), by decide +kernel⟩
theorem cf_X1_lose : CFi yX1_lose cX1_lose 1 none 0 := ⟨cm_X1_lose, List.mem_of_getElem? (i := 688) (by decide +kernel), List.mem_of_getElem? (i := 20) (by decide +kernel)⟩
theorem cm_X6_gatherMeasured : CFm yX6_gatherMeasured cX6_gatherMeasured 4 none 1 := ⟨List.mem_of_getElem? (i := 693) (by decide +kernel), List.mem_of_getElem? (i := 59) (by decide +kernel), by decide +kernel⟩
theorem cf_X6_gatherMeasured : CFi yX6_gatherMeasured cX6_gatherMeasured 4 none 1 := ⟨cm_X6_gatherMeasured, List.mem_of_getElem? (i := 692) (by decide +kernel), List.mem_of_getElem? (i := 21) (by decide +kernel)⟩
theorem cm_X2_clear : CFm yX2_clear cX2_clear 1 none 0 := ⟨List.mem_of_getElem? (i := 697) (by decide +kernel), List.mem_of_getElem? (i := 60) (by decide +kernel), by decide +kernel⟩
theorem cf_X2_clear : CFi yX2_clear cX2_clear 1 none 0 := ⟨cm_X2_clear, List.mem_of_getElem? (i := 696) (by decide +kernel), List.mem_of_getElem? (i := 22) (by decide +kernel)⟩
theorem cm_X3_messageHolds : CFm yX3_messageHolds cX3_messageHolds 2 (some .boolean) 1 := ⟨List.mem_of_getElem? (i := 701) (by decide +kernel), List.mem_of_getElem? (i := 66) (by decide +kernel), by decide +kernel⟩
theorem cf_X3_messageHolds : CFi yX3_messageHolds cX3_messageHolds 2 (some .boolean) 1 := ⟨cm_X3_messageHolds, List.mem_of_getElem? (i := 700) (by decide +kernel), List.mem_of_getElem? (i := 23) (by decide +kernel)⟩
theorem cm_X6_correctionOf : CFm yX6_correctionOf cX6_correctionOf 4 (some .int) 2 := ⟨List.mem_of_getElem? (i := 706) (by decide +kernel), List.mem_of_getElem? (i := 59) (by decide +kernel), by decide +kernel⟩
theorem cf_X6_correctionOf : CFi yX6_correctionOf cX6_correctionOf 4 (some .int) 2 := ⟨cm_X6_correctionOf, List.mem_of_getElem? (i := 705) (by decide +kernel), List.mem_of_getElem? (i := 24) (by decide +kernel)⟩
theorem cm_X5_hasObservedSince : CFm yX5_hasObservedSince cX5_hasObservedSince 2 (some .boolean) 1 := ⟨List.mem_of_getElem? (i := 710) (by decide +kernel), List.mem_of_getElem? (i := 69) (by decide +kernel), by decide +kernel⟩
theorem cf_X5_hasObservedSince : CFi yX5_hasObservedSince cX5_hasObservedSince 2 (some .boolean) 1 := ⟨cm_X5_hasObservedSince, List.mem_of_getElem? (i := 709) (by decide +kernel), List.mem_of_getElem? (i := 25) (by decide +kernel)⟩
theorem cm_X1_measured : CFm yX1_measured cX1_measured 1 (some .int) 0 := ⟨List.mem_of_getElem? (i := 714) (by decide +kernel), List.mem_of_getElem? (i := 70) (by decide +kernel), by decide +kernel⟩
theorem cf_X1_measured : CFi yX1_measured cX1_measured 1 (some .int) 0 := ⟨cm_X1_measured, List.mem_of_getElem? (i := 713) (by decide +kernel), List.mem_of_getElem? (i := 26) (by decide +kernel)⟩
theorem cm_X6_use : CFm yX6_use cX6_use 7 none 3 := ⟨List.mem_of_getElem? (i := 718) (by decide +kernel), List.mem_of_getElem? (i := 59) (by decide +kernel), by decide +kernel⟩
theorem cf_X6_use : CFi yX6_use cX6_use 7 none 3 := ⟨cm_X6_use, List.mem_of_getElem? (i := 717) (by decide +kernel), List.mem_of_getElem? (i := 27) (by decide +kernel)⟩
theorem cm_X3_toldX : CFm yX3_toldX cX3_toldX 2 (some .int) 1 := ⟨List.mem_of_getElem? (i := 722) (by decide +kernel), List.mem_of_getElem? (i := 66) (by decide +kernel), by decide +kernel⟩
theorem cf_X3_toldX : CFi yX3_toldX cX3_toldX 2 (some .int) 1 := ⟨cm_X3_toldX, List.mem_of_getElem? (i := 721) (by decide +kernel), List.mem_of_getElem? (i := 28) (by decide +kernel)⟩
theorem cm_X3_toldY : CFm yX3_toldY cX3_toldY 2 (some .int) 1 := ⟨List.mem_of_getElem? (i := 726) (by decide +kernel), List.mem_of_getElem? (i := 66) (by decide +kernel), by decide +kernel⟩
theorem cf_X3_toldY : CFi yX3_toldY cX3_toldY 2 (some .int) 1 := ⟨cm_X3_toldY, List.mem_of_getElem? (i := 725) (by decide +kernel), List.mem_of_getElem? (i := 29) (by decide +kernel)⟩
theorem cm_X3_toldClock : CFm yX3_toldClock cX3_toldClock 2 (some .int) 1 := ⟨List.mem_of_getElem? (i := 730) (by decide +kernel), List.mem_of_getElem? (i := 66) (by decide +kernel), by decide +kernel⟩
theorem cf_X3_toldClock : CFi yX3_toldClock cX3_toldClock 2 (some .int) 1 := ⟨cm_X3_toldClock, List.mem_of_getElem? (i := 729) (by decide +kernel), List.mem_of_getElem? (i := 30) (by decide +kernel)⟩
theorem cm_X2_use : CFm yX2_use cX2_use 5 none 4 := ⟨List.mem_of_getElem? (i := 734) (by decide +kernel), List.mem_of_getElem? (i := 60) (by decide +kernel), by decide +kernel⟩
theorem cf_X2_use : CFi yX2_use cX2_use 5 none 4 := ⟨cm_X2_use, List.mem_of_getElem? (i := 733) (by decide +kernel), List.mem_of_getElem? (i := 31) (by decide +kernel)⟩
theorem cm_X6_offerCorrections : CFm yX6_offerCorrections cX6_offerCorrections 6 none 1 := ⟨List.mem_of_getElem? (i := 738) (by decide +kernel), List.mem_of_getElem? (i := 59) (by decide +kernel), by decide +kernel⟩
theorem cf_X6_offerCorrections : CFi yX6_offerCorrections cX6_offerCorrections 6 none 1 := ⟨cm_X6_offerCorrections, List.mem_of_getElem? (i := 737) (by decide +kernel), List.mem_of_getElem? (i := 32) (by decide +kernel)⟩
theorem cm_X6_tooFar : CFm yX6_tooFar cX6_tooFar 5 (some .int) 3 := ⟨List.mem_of_getElem? (i := 742) (by decide +kernel), List.mem_of_getElem? (i := 59) (by decide +kernel), by decide +kernel⟩
theorem cf_X6_tooFar : CFi yX6_tooFar cX6_tooFar 5 (some .int) 3 := ⟨cm_X6_tooFar, List.mem_of_getElem? (i := 741) (by decide +kernel), List.mem_of_getElem? (i := 33) (by decide +kernel)⟩
theorem cm_X2_solve : CFm yX2_solve cX2_solve 3 none 0 := ⟨List.mem_of_getElem? (i := 747) (by decide +kernel), List.mem_of_getElem? (i := 60) (by decide +kernel), by decide +kernel⟩
theorem cf_X2_solve : CFi yX2_solve cX2_solve 3 none 0 := ⟨cm_X2_solve, List.mem_of_getElem? (i := 746) (by decide +kernel), List.mem_of_getElem? (i := 34) (by decide +kernel)⟩
theorem cm_X2_hasSolution : CFm yX2_hasSolution cX2_hasSolution 1 (some .boolean) 0 := ⟨List.mem_of_getElem? (i := 751) (by decide +kernel), List.mem_of_getElem? (i := 60) (by decide +kernel), by decide +kernel⟩
theorem cf_X2_hasSolution : CFi yX2_hasSolution cX2_hasSolution 1 (some .boolean) 0 := ⟨cm_X2_hasSolution, List.mem_of_getElem? (i := 750) (by decide +kernel), List.mem_of_getElem? (i := 35) (by decide +kernel)⟩
theorem cm_X2_search : CFm yX2_search cX2_search 4 none 1 := ⟨List.mem_of_getElem? (i := 755) (by decide +kernel), List.mem_of_getElem? (i := 60) (by decide +kernel), by decide +kernel⟩
theorem cf_X2_search : CFi yX2_search cX2_search 4 none 1 := ⟨cm_X2_search, List.mem_of_getElem? (i := 754) (by decide +kernel), List.mem_of_getElem? (i := 36) (by decide +kernel)⟩
theorem cm_X2_tryPlace : CFm yX2_tryPlace cX2_tryPlace 9 none 3 := ⟨List.mem_of_getElem? (i := 760) (by decide +kernel), List.mem_of_getElem? (i := 60) (by decide +kernel), by decide +kernel⟩
theorem cf_X2_tryPlace : CFi yX2_tryPlace cX2_tryPlace 9 none 3 := ⟨cm_X2_tryPlace, List.mem_of_getElem? (i := 759) (by decide +kernel), List.mem_of_getElem? (i := 37) (by decide +kernel)⟩
theorem cm_X2_costBy : CFm yX2_costBy cX2_costBy 8 (some .long) 2 := ⟨List.mem_of_getElem? (i := 766) (by decide +kernel), List.mem_of_getElem? (i := 60) (by decide +kernel), by decide +kernel⟩
theorem cf_X2_costBy : CFi yX2_costBy cX2_costBy 8 (some .long) 2 := ⟨cm_X2_costBy, List.mem_of_getElem? (i := 765) (by decide +kernel), List.mem_of_getElem? (i := 38) (by decide +kernel)⟩
theorem cm_X6_alarmOf : CFm yX6_alarmOf cX6_alarmOf 3 (some .int) 2 := ⟨List.mem_of_getElem? (i := 771) (by decide +kernel), List.mem_of_getElem? (i := 59) (by decide +kernel), by decide +kernel⟩
theorem cf_X6_alarmOf : CFi yX6_alarmOf cX6_alarmOf 3 (some .int) 2 := ⟨cm_X6_alarmOf, List.mem_of_getElem? (i := 770) (by decide +kernel), List.mem_of_getElem? (i := 39) (by decide +kernel)⟩
theorem cm_X5_leapsTo : CFm yX5_leapsTo cX5_leapsTo 4 (some .boolean) 3 := ⟨List.mem_of_getElem? (i := 775) (by decide +kernel), List.mem_of_getElem? (i := 69) (by decide +kernel), by decide +kernel⟩
theorem cf_X5_leapsTo : CFi yX5_leapsTo cX5_leapsTo 4 (some .boolean) 3 := ⟨cm_X5_leapsTo, List.mem_of_getElem? (i := 774) (by decide +kernel), List.mem_of_getElem? (i := 40) (by decide +kernel)⟩
theorem cm_X5_keepAll : CFm yX5_keepAll cX5_keepAll 6 none 5 := ⟨List.mem_of_getElem? (i := 781) (by decide +kernel), List.mem_of_getElem? (i := 69) (by decide +kernel), by decide +kernel⟩
theorem cf_X5_keepAll : CFi yX5_keepAll cX5_keepAll 6 none 5 := ⟨cm_X5_keepAll, List.mem_of_getElem? (i := 780) (by decide +kernel), List.mem_of_getElem? (i := 41) (by decide +kernel)⟩
theorem cm_X5_keepSolution : CFm yX5_keepSolution cX5_keepSolution 5 none 3 := ⟨List.mem_of_getElem? (i := 786) (by decide +kernel), List.mem_of_getElem? (i := 69) (by decide +kernel), by decide +kernel⟩
theorem cf_X5_keepSolution : CFi yX5_keepSolution cX5_keepSolution 5 none 3 := ⟨cm_X5_keepSolution, List.mem_of_getElem? (i := 785) (by decide +kernel), List.mem_of_getElem? (i := 42) (by decide +kernel)⟩
theorem cm_X5_errorAt : CFm yX5_errorAt cX5_errorAt 3 (some .int) 2 := ⟨List.mem_of_getElem? (i := 790) (by decide +kernel), List.mem_of_getElem? (i := 69) (by decide +kernel), by decide +kernel⟩
theorem cf_X5_errorAt : CFi yX5_errorAt cX5_errorAt 3 (some .int) 2 := ⟨cm_X5_errorAt, List.mem_of_getElem? (i := 789) (by decide +kernel), List.mem_of_getElem? (i := 43) (by decide +kernel)⟩
theorem cm_X6_ofStar : CFm yX6_ofStar cX6_ofStar 3 (some .int) 2 := ⟨List.mem_of_getElem? (i := 794) (by decide +kernel), List.mem_of_getElem? (i := 59) (by decide +kernel), by decide +kernel⟩
theorem cf_X6_ofStar : CFi yX6_ofStar cX6_ofStar 3 (some .int) 2 := ⟨cm_X6_ofStar, List.mem_of_getElem? (i := 792) (by decide +kernel), List.mem_of_getElem? (i := 793) (by decide +kernel)⟩
theorem cm_X3_tell : CFm yX3_tell cX3_tell 2 (some .int) 1 := ⟨List.mem_of_getElem? (i := 799) (by decide +kernel), List.mem_of_getElem? (i := 66) (by decide +kernel), by decide +kernel⟩
theorem cf_X3_tell : CFi yX3_tell cX3_tell 2 (some .int) 1 := ⟨cm_X3_tell, List.mem_of_getElem? (i := 798) (by decide +kernel), List.mem_of_getElem? (i := 44) (by decide +kernel)⟩
theorem cm_X6_message : CFm yX6_message cX6_message 3 (some .int) 2 := ⟨List.mem_of_getElem? (i := 805) (by decide +kernel), List.mem_of_getElem? (i := 59) (by decide +kernel), by decide +kernel⟩
theorem cf_X6_message : CFi yX6_message cX6_message 3 (some .int) 2 := ⟨cm_X6_message, List.mem_of_getElem? (i := 803) (by decide +kernel), List.mem_of_getElem? (i := 804) (by decide +kernel)⟩
theorem cm_X3_tellMessage : CFm yX3_tellMessage cX3_tellMessage 3 (some .int) 2 := ⟨List.mem_of_getElem? (i := 809) (by decide +kernel), List.mem_of_getElem? (i := 66) (by decide +kernel), by decide +kernel⟩
theorem cf_X3_tellMessage : CFi yX3_tellMessage cX3_tellMessage 3 (some .int) 2 := ⟨cm_X3_tellMessage, List.mem_of_getElem? (i := 808) (by decide +kernel), List.mem_of_getElem? (i := 45) (by decide +kernel)⟩
theorem cm_X6_seen : CFm yX6_seen cX6_seen 4 (some .int) 3 := ⟨List.mem_of_getElem? (i := 819) (by decide +kernel), List.mem_of_getElem? (i := 59) (by decide +kernel), by decide +kernel⟩
theorem cf_X6_seen : CFi yX6_seen cX6_seen 4 (some .int) 3 := ⟨cm_X6_seen, List.mem_of_getElem? (i := 817) (by decide +kernel), List.mem_of_getElem? (i := 818) (by decide +kernel)⟩
theorem cm_X1_tell : CFm yX1_tell cX1_tell 2 (some .int) 1 := ⟨List.mem_of_getElem? (i := 824) (by decide +kernel), List.mem_of_getElem? (i := 70) (by decide +kernel), by decide +kernel⟩
theorem cf_X1_tell : CFi yX1_tell cX1_tell 2 (some .int) 1 := ⟨cm_X1_tell, List.mem_of_getElem? (i := 823) (by decide +kernel), List.mem_of_getElem? (i := 46) (by decide +kernel)⟩
theorem cm_X1_tellSeen : CFm yX1_tellSeen cX1_tellSeen 2 (some .int) 1 := ⟨List.mem_of_getElem? (i := 828) (by decide +kernel), List.mem_of_getElem? (i := 70) (by decide +kernel), by decide +kernel⟩
theorem cf_X1_tellSeen : CFi yX1_tellSeen cX1_tellSeen 2 (some .int) 1 := ⟨cm_X1_tellSeen, List.mem_of_getElem? (i := 827) (by decide +kernel), List.mem_of_getElem? (i := 47) (by decide +kernel)⟩
theorem cm_X6_ofReceiver : CFm yX6_ofReceiver cX6_ofReceiver 3 (some .int) 2 := ⟨List.mem_of_getElem? (i := 832) (by decide +kernel), List.mem_of_getElem? (i := 59) (by decide +kernel), by decide +kernel⟩
theorem cf_X6_ofReceiver : CFi yX6_ofReceiver cX6_ofReceiver 3 (some .int) 2 := ⟨cm_X6_ofReceiver, List.mem_of_getElem? (i := 830) (by decide +kernel), List.mem_of_getElem? (i := 831) (by decide +kernel)⟩
theorem cm_X6_tellReceiver : CFm yX6_tellReceiver cX6_tellReceiver 3 (some .int) 2 := ⟨List.mem_of_getElem? (i := 836) (by decide +kernel), List.mem_of_getElem? (i := 59) (by decide +kernel), by decide +kernel⟩
theorem cf_X6_tellReceiver : CFi yX6_tellReceiver cX6_tellReceiver 3 (some .int) 2 := ⟨cm_X6_tellReceiver, List.mem_of_getElem? (i := 835) (by decide +kernel), List.mem_of_getElem? (i := 48) (by decide +kernel)⟩
theorem cm_X5_tell : CFm yX5_tell cX5_tell 2 (some .int) 1 := ⟨List.mem_of_getElem? (i := 841) (by decide +kernel), List.mem_of_getElem? (i := 69) (by decide +kernel), by decide +kernel⟩
theorem cf_X5_tell : CFi yX5_tell cX5_tell 2 (some .int) 1 := ⟨cm_X5_tell, List.mem_of_getElem? (i := 840) (by decide +kernel), List.mem_of_getElem? (i := 49) (by decide +kernel)⟩
theorem cm_X6_many : CFm yX6_many cX6_many 2 (some .int) 1 := ⟨List.mem_of_getElem? (i := 845) (by decide +kernel), List.mem_of_getElem? (i := 59) (by decide +kernel), by decide +kernel⟩
theorem cf_X6_many : CFi yX6_many cX6_many 2 (some .int) 1 := ⟨cm_X6_many, List.mem_of_getElem? (i := 843) (by decide +kernel), List.mem_of_getElem? (i := 844) (by decide +kernel)⟩
theorem cm_X6_countOf : CFm yX6_countOf cX6_countOf 2 (some .int) 1 := ⟨List.mem_of_getElem? (i := 849) (by decide +kernel), List.mem_of_getElem? (i := 59) (by decide +kernel), by decide +kernel⟩
theorem cf_X6_countOf : CFi yX6_countOf cX6_countOf 2 (some .int) 1 := ⟨cm_X6_countOf, List.mem_of_getElem? (i := 848) (by decide +kernel), List.mem_of_getElem? (i := 50) (by decide +kernel)⟩
theorem cm_X6_sumOfStars : CFm yX6_sumOfStars cX6_sumOfStars 4 (some .int) 1 := ⟨List.mem_of_getElem? (i := 853) (by decide +kernel), List.mem_of_getElem? (i := 59) (by decide +kernel), by decide +kernel⟩
theorem cf_X6_sumOfStars : CFi yX6_sumOfStars cX6_sumOfStars 4 (some .int) 1 := ⟨cm_X6_sumOfStars, List.mem_of_getElem? (i := 852) (by decide +kernel), List.mem_of_getElem? (i := 51) (by decide +kernel)⟩
theorem cm_X6_sumOfReceivers : CFm yX6_sumOfReceivers cX6_sumOfReceivers 4 (some .int) 1 := ⟨List.mem_of_getElem? (i := 857) (by decide +kernel), List.mem_of_getElem? (i := 59) (by decide +kernel), by decide +kernel⟩
theorem cf_X6_sumOfReceivers : CFi yX6_sumOfReceivers cX6_sumOfReceivers 4 (some .int) 1 := ⟨cm_X6_sumOfReceivers, List.mem_of_getElem? (i := 856) (by decide +kernel), List.mem_of_getElem? (i := 52) (by decide +kernel)⟩
theorem cm_X6_wouldSee : CFm yX6_wouldSee cX6_wouldSee 3 (some .int) 2 := ⟨List.mem_of_getElem? (i := 861) (by decide +kernel), List.mem_of_getElem? (i := 59) (by decide +kernel), by decide +kernel⟩
theorem cf_X6_wouldSee : CFi yX6_wouldSee cX6_wouldSee 3 (some .int) 2 := ⟨cm_X6_wouldSee, List.mem_of_getElem? (i := 859) (by decide +kernel), List.mem_of_getElem? (i := 860) (by decide +kernel)⟩
theorem cm_X6_heardIn : CFm yX6_heardIn cX6_heardIn 3 (some .int) 2 := ⟨List.mem_of_getElem? (i := 865) (by decide +kernel), List.mem_of_getElem? (i := 59) (by decide +kernel), by decide +kernel⟩
theorem cf_X6_heardIn : CFi yX6_heardIn cX6_heardIn 3 (some .int) 2 := ⟨cm_X6_heardIn, List.mem_of_getElem? (i := 863) (by decide +kernel), List.mem_of_getElem? (i := 864) (by decide +kernel)⟩
theorem cm_X6_firstHeard : CFm yX6_firstHeard cX6_firstHeard 3 (some .int) 2 := ⟨List.mem_of_getElem? (i := 869) (by decide +kernel), List.mem_of_getElem? (i := 59) (by decide +kernel), by decide +kernel⟩
theorem cf_X6_firstHeard : CFs yX6_firstHeard cX6_firstHeard 3 (some .int) 2 := ⟨cm_X6_firstHeard, List.mem_of_getElem? (i := 868) (by decide +kernel)⟩
theorem cm_X6_digest : CFm yX6_digest cX6_digest 4 (some .long) 0 := ⟨List.mem_of_getElem? (i := 873) (by decide +kernel), List.mem_of_getElem? (i := 59) (by decide +kernel), by decide +kernel⟩
theorem cf_X6_digest : CFi yX6_digest cX6_digest 4 (some .long) 0 := ⟨cm_X6_digest, List.mem_of_getElem? (i := 871) (by decide +kernel), List.mem_of_getElem? (i := 872) (by decide +kernel)⟩
theorem cm_X6_digestStar : CFm yX6_digestStar cX6_digestStar 7 (some .long) 2 := ⟨List.mem_of_getElem? (i := 879) (by decide +kernel), List.mem_of_getElem? (i := 59) (by decide +kernel), by decide +kernel⟩
theorem cf_X6_digestStar : CFi yX6_digestStar cX6_digestStar 7 (some .long) 2 := ⟨cm_X6_digestStar, List.mem_of_getElem? (i := 878) (by decide +kernel), List.mem_of_getElem? (i := 53) (by decide +kernel)⟩
theorem cm_X6_digestReceiver : CFm yX6_digestReceiver cX6_digestReceiver 8 (some .long) 2 := ⟨List.mem_of_getElem? (i := 883) (by decide +kernel), List.mem_of_getElem? (i := 59) (by decide +kernel), by decide +kernel⟩
theorem cf_X6_digestReceiver : CFi yX6_digestReceiver cX6_digestReceiver 8 (some .long) 2 := ⟨cm_X6_digestReceiver, List.mem_of_getElem? (i := 882) (by decide +kernel), List.mem_of_getElem? (i := 54) (by decide +kernel)⟩
theorem cm_X6_supposedAlarm : CFm yX6_supposedAlarm cX6_supposedAlarm 2 (some .int) 1 := ⟨List.mem_of_getElem? (i := 887) (by decide +kernel), List.mem_of_getElem? (i := 59) (by decide +kernel), by decide +kernel⟩
theorem cf_X6_supposedAlarm : CFi yX6_supposedAlarm cX6_supposedAlarm 2 (some .int) 1 := ⟨cm_X6_supposedAlarm, List.mem_of_getElem? (i := 886) (by decide +kernel), List.mem_of_getElem? (i := 55) (by decide +kernel)⟩
theorem cm_X6_gatherSupposed : CFm yX6_gatherSupposed cX6_gatherSupposed 4 none 2 := ⟨List.mem_of_getElem? (i := 891) (by decide +kernel), List.mem_of_getElem? (i := 59) (by decide +kernel), by decide +kernel⟩
theorem cf_X6_gatherSupposed : CFi yX6_gatherSupposed cX6_gatherSupposed 4 none 2 := ⟨cm_X6_gatherSupposed, List.mem_of_getElem? (i := 890) (by decide +kernel), List.mem_of_getElem? (i := 56) (by decide +kernel)⟩
theorem cm_L_below : CFm yL_below cL_below 2 (some .int) 2 := ⟨List.mem_of_getElem? (i := 894) (by decide +kernel), List.mem_of_getElem? (i := 58) (by decide +kernel), by decide +kernel⟩
theorem cf_L_below : CFs yL_below cL_below 2 (some .int) 2 := ⟨cm_L_below, List.mem_of_getElem? (i := 893) (by decide +kernel)⟩
theorem cm_L_cell : CFm yL_cell cL_cell 2 (some .int) 2 := ⟨List.mem_of_getElem? (i := 898) (by decide +kernel), List.mem_of_getElem? (i := 58) (by decide +kernel), by decide +kernel⟩
theorem cf_L_cell : CFs yL_cell cL_cell 2 (some .int) 2 := ⟨cm_L_cell, List.mem_of_getElem? (i := 897) (by decide +kernel)⟩
def prjC : Option Cond → ByteArray
  | some (.code _ b _ _) => b
  | _ => ⟨#[]⟩
def isC (y : MethodName) (m : Nat) (r : Option FieldType) : Option Cond → Bool
  | some (.code y' _ m' r') => decide (y' = y) && decide (m' = m) && decide (r' = r)
  | _ => false
theorem isC_eq {y : MethodName} {m : Nat} {r : Option FieldType} {o : Option Cond} (h : isC y m r o = true) : o = some (.code y (prjC o) m r) := by
  cases o with
  | none => exact Bool.noConfusion h
  | some w =>
    cases w <;> first | exact Bool.noConfusion h | skip
    rename_i y' b m' r'
    have h' : (decide (y' = y) && decide (m' = m) && decide (r' = r)) = true := h
    obtain ⟨h1, h3⟩ := Bool.and_eq_true_iff.mp h'
    obtain ⟨h1, h2⟩ := Bool.and_eq_true_iff.mp h1
    have e1 := of_decide_eq_true h1
    have e2 := of_decide_eq_true h2
    have e3 := of_decide_eq_true h3
    subst e1 e2 e3
    rfl
theorem mem_isSo : Cond.code yL_isSo cL_isSo 11 (some .boolean) ∈ lw_tbl := by
  have h : isC yL_isSo 11 (some .boolean) lw_tbl[902]? = true := by decide +kernel
  have e := isC_eq h
  have hb : prjC lw_tbl[902]? = cL_isSo := ByteArray.ext (Array.ext' (by decide +kernel))
  rw [hb] at e
  exact List.mem_of_getElem? e
theorem cm_L_isSo : CFm yL_isSo cL_isSo 11 (some .boolean) 3 := ⟨mem_isSo, List.mem_of_getElem? (i := 58) (by decide +kernel), by decide +kernel⟩
theorem cf_L_isSo : CFs yL_isSo cL_isSo 11 (some .boolean) 3 := ⟨cm_L_isSo, List.mem_of_getElem? (i := 901) (by decide +kernel)⟩
theorem cm_X6_meanError : CFm yX6_meanError cX6_meanError 2 (some .double) 1 := ⟨List.mem_of_getElem? (i := 907) (by decide +kernel), List.mem_of_getElem? (i := 59) (by decide +kernel), by decide +kernel⟩
theorem cf_X6_meanError : CFi yX6_meanError cX6_meanError 2 (some .double) 1 := ⟨cm_X6_meanError, List.mem_of_getElem? (i := 905) (by decide +kernel), List.mem_of_getElem? (i := 906) (by decide +kernel)⟩
theorem cm_X5_meanOfErrors : CFm yX5_meanOfErrors cX5_meanOfErrors 1 (some .double) 0 := ⟨List.mem_of_getElem? (i := 911) (by decide +kernel), List.mem_of_getElem? (i := 69) (by decide +kernel), by decide +kernel⟩
theorem cf_X5_meanOfErrors : CFi yX5_meanOfErrors cX5_meanOfErrors 1 (some .double) 0 := ⟨cm_X5_meanOfErrors, List.mem_of_getElem? (i := 910) (by decide +kernel), List.mem_of_getElem? (i := 57) (by decide +kernel)⟩
theorem kin_X0 : ∀ w ∈ u_ws RX0 TX0 13, w ∈ lw_tbl ∧ okw w = true := by decide +kernel
theorem kin_X1 : ∀ w ∈ u_ws RX1 TX1 11, w ∈ lw_tbl ∧ okw w = true := by decide +kernel
theorem kin_X2 : ∀ w ∈ u_ws RX2 TX2 15, w ∈ lw_tbl ∧ okw w = true := by decide +kernel
theorem kin_X3 : ∀ w ∈ u_ws RX3 TX3 11, w ∈ lw_tbl ∧ okw w = true := by decide +kernel
theorem kin_X4 : ∀ w ∈ u_ws RX4 TX4 2, w ∈ lw_tbl ∧ okw w = true := by decide +kernel
theorem kin_X5 : ∀ w ∈ u_ws RX5 TX5 13, w ∈ lw_tbl ∧ okw w = true := by decide +kernel
theorem kin_X6 : ∀ w ∈ u_ws RX6 TX6 8, w ∈ lw_tbl ∧ okw w = true := by decide +kernel
