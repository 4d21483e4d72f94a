section
-- ===== PART A: goes FIRST, ahead of the names: the tables' words, and 'selects' of the private methods out of them =====
/-- a private method of a class that the tables say can be made, by its rows of tables_1 -/
def lw_okq (q : MethodName × Nat) : Prop := (q.1.cls ≠ "java/lang/invoke/MethodHandle" ∧ q.1.cls ≠ "java/lang/invoke/VarHandle") ∧ Cond.instantiable q.1.cls q.2 ∈ tables_1 ∧ Cond.privateMethod q.1 ∈ tables_1 ∧ Cond.instanceMethod q.1 ∈ tables_1
theorem lw_p0 : lw_okq (⟨"Pseudorange", "countOf", "(I)I"⟩, 8) := ⟨⟨by decide +kernel, by decide +kernel⟩, List.mem_of_getElem? (i := 18) (by decide +kernel), List.mem_of_getElem? (i := 127) (by decide +kernel), List.mem_of_getElem? (i := 128) (by decide +kernel)⟩
theorem lw_p1 : lw_okq (⟨"Pseudorange", "sumOfStars", "(I)I"⟩, 8) := ⟨⟨by decide +kernel, by decide +kernel⟩, List.mem_of_getElem? (i := 18) (by decide +kernel), List.mem_of_getElem? (i := 131) (by decide +kernel), List.mem_of_getElem? (i := 132) (by decide +kernel)⟩
theorem lw_p2 : lw_okq (⟨"Pseudorange$Star", "messageHolds", "(I)Z"⟩, 11) := ⟨⟨by decide +kernel, by decide +kernel⟩, List.mem_of_getElem? (i := 137) (by decide +kernel), List.mem_of_getElem? (i := 135) (by decide +kernel), List.mem_of_getElem? (i := 136) (by decide +kernel)⟩
theorem lw_p3 : lw_okq (⟨"Pseudorange", "sumOfReceivers", "(I)I"⟩, 8) := ⟨⟨by decide +kernel, by decide +kernel⟩, List.mem_of_getElem? (i := 18) (by decide +kernel), List.mem_of_getElem? (i := 143) (by decide +kernel), List.mem_of_getElem? (i := 144) (by decide +kernel)⟩
theorem lw_p4 : lw_okq (⟨"Pseudorange", "digestStar", "(JLPseudorange$Star;)J"⟩, 8) := ⟨⟨by decide +kernel, by decide +kernel⟩, List.mem_of_getElem? (i := 18) (by decide +kernel), List.mem_of_getElem? (i := 147) (by decide +kernel), List.mem_of_getElem? (i := 148) (by decide +kernel)⟩
theorem lw_p5 : lw_okq (⟨"Pseudorange$Star", "tell", "(I)I"⟩, 11) := ⟨⟨by decide +kernel, by decide +kernel⟩, List.mem_of_getElem? (i := 137) (by decide +kernel), List.mem_of_getElem? (i := 151) (by decide +kernel), List.mem_of_getElem? (i := 152) (by decide +kernel)⟩
theorem lw_p6 : lw_okq (⟨"Pseudorange$Star", "xIn", "(I)I"⟩, 11) := ⟨⟨by decide +kernel, by decide +kernel⟩, List.mem_of_getElem? (i := 137) (by decide +kernel), List.mem_of_getElem? (i := 155) (by decide +kernel), List.mem_of_getElem? (i := 156) (by decide +kernel)⟩
theorem lw_p7 : lw_okq (⟨"Pseudorange$Star", "yIn", "(I)I"⟩, 11) := ⟨⟨by decide +kernel, by decide +kernel⟩, List.mem_of_getElem? (i := 137) (by decide +kernel), List.mem_of_getElem? (i := 162) (by decide +kernel), List.mem_of_getElem? (i := 163) (by decide +kernel)⟩
theorem lw_p8 : lw_okq (⟨"Pseudorange$Star", "tellMessage", "(II)I"⟩, 11) := ⟨⟨by decide +kernel, by decide +kernel⟩, List.mem_of_getElem? (i := 137) (by decide +kernel), List.mem_of_getElem? (i := 166) (by decide +kernel), List.mem_of_getElem? (i := 167) (by decide +kernel)⟩
theorem lw_p9 : lw_okq (⟨"Pseudorange$Star", "toldClock", "(I)I"⟩, 11) := ⟨⟨by decide +kernel, by decide +kernel⟩, List.mem_of_getElem? (i := 137) (by decide +kernel), List.mem_of_getElem? (i := 171) (by decide +kernel), List.mem_of_getElem? (i := 172) (by decide +kernel)⟩
theorem lw_p10 : lw_okq (⟨"Pseudorange$Star", "toldX", "(I)I"⟩, 11) := ⟨⟨by decide +kernel, by decide +kernel⟩, List.mem_of_getElem? (i := 137) (by decide +kernel), List.mem_of_getElem? (i := 178) (by decide +kernel), List.mem_of_getElem? (i := 179) (by decide +kernel)⟩
theorem lw_p11 : lw_okq (⟨"Pseudorange$Star", "toldY", "(I)I"⟩, 11) := ⟨⟨by decide +kernel, by decide +kernel⟩, List.mem_of_getElem? (i := 137) (by decide +kernel), List.mem_of_getElem? (i := 182) (by decide +kernel), List.mem_of_getElem? (i := 183) (by decide +kernel)⟩
theorem lw_p12 : lw_okq (⟨"Pseudorange$Station", "canHear", "(LPseudorange$Star;I)Z"⟩, 2) := ⟨⟨by decide +kernel, by decide +kernel⟩, List.mem_of_getElem? (i := 198) (by decide +kernel), List.mem_of_getElem? (i := 196) (by decide +kernel), List.mem_of_getElem? (i := 197) (by decide +kernel)⟩
theorem lw_p13 : lw_okq (⟨"Pseudorange", "digestReceiver", "(JLPseudorange$Receiver;)J"⟩, 8) := ⟨⟨by decide +kernel, by decide +kernel⟩, List.mem_of_getElem? (i := 18) (by decide +kernel), List.mem_of_getElem? (i := 204) (by decide +kernel), List.mem_of_getElem? (i := 205) (by decide +kernel)⟩
theorem lw_p14 : lw_okq (⟨"Pseudorange", "tellReceiver", "(LPseudorange$Receiver;I)I"⟩, 8) := ⟨⟨by decide +kernel, by decide +kernel⟩, List.mem_of_getElem? (i := 18) (by decide +kernel), List.mem_of_getElem? (i := 208) (by decide +kernel), List.mem_of_getElem? (i := 209) (by decide +kernel)⟩
theorem lw_p15 : lw_okq (⟨"Pseudorange", "setSeen", "(LPseudorange$Receiver;I)I"⟩, 8) := ⟨⟨by decide +kernel, by decide +kernel⟩, List.mem_of_getElem? (i := 18) (by decide +kernel), List.mem_of_getElem? (i := 212) (by decide +kernel), List.mem_of_getElem? (i := 213) (by decide +kernel)⟩
def lw_privs_1 : List (MethodName × Nat) := [(⟨"Pseudorange", "countOf", "(I)I"⟩, 8), (⟨"Pseudorange", "sumOfStars", "(I)I"⟩, 8), (⟨"Pseudorange$Star", "messageHolds", "(I)Z"⟩, 11), (⟨"Pseudorange", "sumOfReceivers", "(I)I"⟩, 8), (⟨"Pseudorange", "digestStar", "(JLPseudorange$Star;)J"⟩, 8), (⟨"Pseudorange$Star", "tell", "(I)I"⟩, 11), (⟨"Pseudorange$Star", "xIn", "(I)I"⟩, 11), (⟨"Pseudorange$Star", "yIn", "(I)I"⟩, 11), (⟨"Pseudorange$Star", "tellMessage", "(II)I"⟩, 11), (⟨"Pseudorange$Star", "toldClock", "(I)I"⟩, 11), (⟨"Pseudorange$Star", "toldX", "(I)I"⟩, 11), (⟨"Pseudorange$Star", "toldY", "(I)I"⟩, 11), (⟨"Pseudorange$Station", "canHear", "(LPseudorange$Star;I)Z"⟩, 2), (⟨"Pseudorange", "digestReceiver", "(JLPseudorange$Receiver;)J"⟩, 8), (⟨"Pseudorange", "tellReceiver", "(LPseudorange$Receiver;I)I"⟩, 8), (⟨"Pseudorange", "setSeen", "(LPseudorange$Receiver;I)I"⟩, 8)]
theorem lw_r1 : ∀ q ∈ lw_privs_1, lw_okq q := List.forall_mem_cons.mpr ⟨lw_p0, List.forall_mem_cons.mpr ⟨lw_p1, List.forall_mem_cons.mpr ⟨lw_p2, List.forall_mem_cons.mpr ⟨lw_p3, List.forall_mem_cons.mpr ⟨lw_p4, List.forall_mem_cons.mpr ⟨lw_p5, List.forall_mem_cons.mpr ⟨lw_p6, List.forall_mem_cons.mpr ⟨lw_p7, List.forall_mem_cons.mpr ⟨lw_p8, List.forall_mem_cons.mpr ⟨lw_p9, List.forall_mem_cons.mpr ⟨lw_p10, List.forall_mem_cons.mpr ⟨lw_p11, List.forall_mem_cons.mpr ⟨lw_p12, List.forall_mem_cons.mpr ⟨lw_p13, List.forall_mem_cons.mpr ⟨lw_p14, List.forall_mem_cons.mpr ⟨lw_p15, fun _ h => absurd h List.not_mem_nil⟩⟩⟩⟩⟩⟩⟩⟩⟩⟩⟩⟩⟩⟩⟩⟩
theorem lw_p16 : lw_okq (⟨"Pseudorange$Receiver", "canSee", "(LPseudorange$Star;I)Z"⟩, 13) := ⟨⟨by decide +kernel, by decide +kernel⟩, List.mem_of_getElem? (i := 218) (by decide +kernel), List.mem_of_getElem? (i := 216) (by decide +kernel), List.mem_of_getElem? (i := 217) (by decide +kernel)⟩
theorem lw_p17 : lw_okq (⟨"Pseudorange$Track", "errorAt", "(II)I"⟩, 13) := ⟨⟨by decide +kernel, by decide +kernel⟩, List.mem_of_getElem? (i := 231) (by decide +kernel), List.mem_of_getElem? (i := 229) (by decide +kernel), List.mem_of_getElem? (i := 230) (by decide +kernel)⟩
theorem lw_p18 : lw_okq (⟨"Pseudorange$Track", "tell", "(I)I"⟩, 13) := ⟨⟨by decide +kernel, by decide +kernel⟩, List.mem_of_getElem? (i := 231) (by decide +kernel), List.mem_of_getElem? (i := 235) (by decide +kernel), List.mem_of_getElem? (i := 236) (by decide +kernel)⟩
theorem lw_p19 : lw_okq (⟨"Pseudorange$Sight", "tell", "(I)I"⟩, 11) := ⟨⟨by decide +kernel, by decide +kernel⟩, List.mem_of_getElem? (i := 241) (by decide +kernel), List.mem_of_getElem? (i := 239) (by decide +kernel), List.mem_of_getElem? (i := 240) (by decide +kernel)⟩
theorem lw_p20 : lw_okq (⟨"Pseudorange$Sight", "tellSeen", "(I)I"⟩, 11) := ⟨⟨by decide +kernel, by decide +kernel⟩, List.mem_of_getElem? (i := 241) (by decide +kernel), List.mem_of_getElem? (i := 244) (by decide +kernel), List.mem_of_getElem? (i := 245) (by decide +kernel)⟩
theorem lw_p21 : lw_okq (⟨"Pseudorange", "supposedAlarm", "(LPseudorange$Receiver;)I"⟩, 8) := ⟨⟨by decide +kernel, by decide +kernel⟩, List.mem_of_getElem? (i := 18) (by decide +kernel), List.mem_of_getElem? (i := 248) (by decide +kernel), List.mem_of_getElem? (i := 249) (by decide +kernel)⟩
theorem lw_p22 : lw_okq (⟨"Pseudorange", "gatherSupposed", "(LPseudorange$Receiver;I)V"⟩, 8) := ⟨⟨by decide +kernel, by decide +kernel⟩, List.mem_of_getElem? (i := 18) (by decide +kernel), List.mem_of_getElem? (i := 252) (by decide +kernel), List.mem_of_getElem? (i := 253) (by decide +kernel)⟩
theorem lw_p23 : lw_okq (⟨"Pseudorange$Solver", "clear", "()V"⟩, 15) := ⟨⟨by decide +kernel, by decide +kernel⟩, List.mem_of_getElem? (i := 32) (by decide +kernel), List.mem_of_getElem? (i := 256) (by decide +kernel), List.mem_of_getElem? (i := 257) (by decide +kernel)⟩
theorem lw_p24 : lw_okq (⟨"Pseudorange", "codeOf", "(LPseudorange$Receiver;I)I"⟩, 8) := ⟨⟨by decide +kernel, by decide +kernel⟩, List.mem_of_getElem? (i := 18) (by decide +kernel), List.mem_of_getElem? (i := 260) (by decide +kernel), List.mem_of_getElem? (i := 261) (by decide +kernel)⟩
theorem lw_p25 : lw_okq (⟨"Pseudorange$Receiver", "trueCount", "(LPseudorange$Star;)I"⟩, 13) := ⟨⟨by decide +kernel, by decide +kernel⟩, List.mem_of_getElem? (i := 218) (by decide +kernel), List.mem_of_getElem? (i := 267) (by decide +kernel), List.mem_of_getElem? (i := 268) (by decide +kernel)⟩
theorem lw_p26 : lw_okq (⟨"Pseudorange$Receiver", "airDelay", "(LPseudorange$Star;)I"⟩, 13) := ⟨⟨by decide +kernel, by decide +kernel⟩, List.mem_of_getElem? (i := 218) (by decide +kernel), List.mem_of_getElem? (i := 272) (by decide +kernel), List.mem_of_getElem? (i := 273) (by decide +kernel)⟩
theorem lw_p27 : lw_okq (⟨"Pseudorange", "correctionOf", "(LPseudorange$Receiver;I)I"⟩, 8) := ⟨⟨by decide +kernel, by decide +kernel⟩, List.mem_of_getElem? (i := 18) (by decide +kernel), List.mem_of_getElem? (i := 277) (by decide +kernel), List.mem_of_getElem? (i := 278) (by decide +kernel)⟩
theorem lw_p28 : lw_okq (⟨"Pseudorange", "isNoReceiver", "(I)Z"⟩, 8) := ⟨⟨by decide +kernel, by decide +kernel⟩, List.mem_of_getElem? (i := 18) (by decide +kernel), List.mem_of_getElem? (i := 281) (by decide +kernel), List.mem_of_getElem? (i := 282) (by decide +kernel)⟩
theorem lw_p29 : lw_okq (⟨"Pseudorange$Track", "hasObservedSince", "(I)Z"⟩, 13) := ⟨⟨by decide +kernel, by decide +kernel⟩, List.mem_of_getElem? (i := 231) (by decide +kernel), List.mem_of_getElem? (i := 286) (by decide +kernel), List.mem_of_getElem? (i := 287) (by decide +kernel)⟩
theorem lw_p30 : lw_okq (⟨"Pseudorange", "use", "(LPseudorange$Star;IZ)V"⟩, 8) := ⟨⟨by decide +kernel, by decide +kernel⟩, List.mem_of_getElem? (i := 18) (by decide +kernel), List.mem_of_getElem? (i := 290) (by decide +kernel), List.mem_of_getElem? (i := 291) (by decide +kernel)⟩
theorem lw_p31 : lw_okq (⟨"Pseudorange$Solver", "use", "(IIII)V"⟩, 15) := ⟨⟨by decide +kernel, by decide +kernel⟩, List.mem_of_getElem? (i := 32) (by decide +kernel), List.mem_of_getElem? (i := 297) (by decide +kernel), List.mem_of_getElem? (i := 298) (by decide +kernel)⟩
def lw_privs_2 : List (MethodName × Nat) := [(⟨"Pseudorange$Receiver", "canSee", "(LPseudorange$Star;I)Z"⟩, 13), (⟨"Pseudorange$Track", "errorAt", "(II)I"⟩, 13), (⟨"Pseudorange$Track", "tell", "(I)I"⟩, 13), (⟨"Pseudorange$Sight", "tell", "(I)I"⟩, 11), (⟨"Pseudorange$Sight", "tellSeen", "(I)I"⟩, 11), (⟨"Pseudorange", "supposedAlarm", "(LPseudorange$Receiver;)I"⟩, 8), (⟨"Pseudorange", "gatherSupposed", "(LPseudorange$Receiver;I)V"⟩, 8), (⟨"Pseudorange$Solver", "clear", "()V"⟩, 15), (⟨"Pseudorange", "codeOf", "(LPseudorange$Receiver;I)I"⟩, 8), (⟨"Pseudorange$Receiver", "trueCount", "(LPseudorange$Star;)I"⟩, 13), (⟨"Pseudorange$Receiver", "airDelay", "(LPseudorange$Star;)I"⟩, 13), (⟨"Pseudorange", "correctionOf", "(LPseudorange$Receiver;I)I"⟩, 8), (⟨"Pseudorange", "isNoReceiver", "(I)Z"⟩, 8), (⟨"Pseudorange$Track", "hasObservedSince", "(I)Z"⟩, 13), (⟨"Pseudorange", "use", "(LPseudorange$Star;IZ)V"⟩, 8), (⟨"Pseudorange$Solver", "use", "(IIII)V"⟩, 15)]
theorem lw_r2 : ∀ q ∈ lw_privs_2, lw_okq q := List.forall_mem_cons.mpr ⟨lw_p16, List.forall_mem_cons.mpr ⟨lw_p17, List.forall_mem_cons.mpr ⟨lw_p18, List.forall_mem_cons.mpr ⟨lw_p19, List.forall_mem_cons.mpr ⟨lw_p20, List.forall_mem_cons.mpr ⟨lw_p21, List.forall_mem_cons.mpr ⟨lw_p22, List.forall_mem_cons.mpr ⟨lw_p23, List.forall_mem_cons.mpr ⟨lw_p24, List.forall_mem_cons.mpr ⟨lw_p25, List.forall_mem_cons.mpr ⟨lw_p26, List.forall_mem_cons.mpr ⟨lw_p27, List.forall_mem_cons.mpr ⟨lw_p28, List.forall_mem_cons.mpr ⟨lw_p29, List.forall_mem_cons.mpr ⟨lw_p30, List.forall_mem_cons.mpr ⟨lw_p31, fun _ h => absurd h List.not_mem_nil⟩⟩⟩⟩⟩⟩⟩⟩⟩⟩⟩⟩⟩⟩⟩⟩
theorem lw_p32 : lw_okq (⟨"Pseudorange$Solver", "solve", "()V"⟩, 15) := ⟨⟨by decide +kernel, by decide +kernel⟩, List.mem_of_getElem? (i := 32) (by decide +kernel), List.mem_of_getElem? (i := 301) (by decide +kernel), List.mem_of_getElem? (i := 302) (by decide +kernel)⟩
theorem lw_p33 : lw_okq (⟨"Pseudorange$Solver", "hasSolution", "()Z"⟩, 15) := ⟨⟨by decide +kernel, by decide +kernel⟩, List.mem_of_getElem? (i := 32) (by decide +kernel), List.mem_of_getElem? (i := 305) (by decide +kernel), List.mem_of_getElem? (i := 306) (by decide +kernel)⟩
theorem lw_p34 : lw_okq (⟨"Pseudorange$Solver", "search", "(I)V"⟩, 15) := ⟨⟨by decide +kernel, by decide +kernel⟩, List.mem_of_getElem? (i := 32) (by decide +kernel), List.mem_of_getElem? (i := 309) (by decide +kernel), List.mem_of_getElem? (i := 310) (by decide +kernel)⟩
theorem lw_p35 : lw_okq (⟨"Pseudorange$Solver", "tryPlace", "(III)V"⟩, 15) := ⟨⟨by decide +kernel, by decide +kernel⟩, List.mem_of_getElem? (i := 32) (by decide +kernel), List.mem_of_getElem? (i := 314) (by decide +kernel), List.mem_of_getElem? (i := 315) (by decide +kernel)⟩
theorem lw_p36 : lw_okq (⟨"Pseudorange$Solver", "costBy", "(II)J"⟩, 15) := ⟨⟨by decide +kernel, by decide +kernel⟩, List.mem_of_getElem? (i := 32) (by decide +kernel), List.mem_of_getElem? (i := 322) (by decide +kernel), List.mem_of_getElem? (i := 323) (by decide +kernel)⟩
theorem lw_p37 : lw_okq (⟨"Pseudorange", "alarmOf", "(LPseudorange$Receiver;Z)I"⟩, 8) := ⟨⟨by decide +kernel, by decide +kernel⟩, List.mem_of_getElem? (i := 18) (by decide +kernel), List.mem_of_getElem? (i := 327) (by decide +kernel), List.mem_of_getElem? (i := 328) (by decide +kernel)⟩
theorem lw_p38 : lw_okq (⟨"Pseudorange$Track", "leapsTo", "(III)Z"⟩, 13) := ⟨⟨by decide +kernel, by decide +kernel⟩, List.mem_of_getElem? (i := 231) (by decide +kernel), List.mem_of_getElem? (i := 331) (by decide +kernel), List.mem_of_getElem? (i := 332) (by decide +kernel)⟩
theorem lw_p39 : lw_okq (⟨"Pseudorange$Track", "hasObservedIn", "(I)Z"⟩, 13) := ⟨⟨by decide +kernel, by decide +kernel⟩, List.mem_of_getElem? (i := 231) (by decide +kernel), List.mem_of_getElem? (i := 335) (by decide +kernel), List.mem_of_getElem? (i := 336) (by decide +kernel)⟩
theorem lw_p40 : lw_okq (⟨"java/lang/Throwable", "fillInStackTrace", "(I)Ljava/lang/Throwable;"⟩, 6) := ⟨⟨by decide +kernel, by decide +kernel⟩, List.mem_of_getElem? (i := 386) (by decide +kernel), List.mem_of_getElem? (i := 384) (by decide +kernel), List.mem_of_getElem? (i := 385) (by decide +kernel)⟩
theorem lw_p41 : lw_okq (⟨"Pseudorange", "isNoStar", "(I)Z"⟩, 8) := ⟨⟨by decide +kernel, by decide +kernel⟩, List.mem_of_getElem? (i := 18) (by decide +kernel), List.mem_of_getElem? (i := 487) (by decide +kernel), List.mem_of_getElem? (i := 488) (by decide +kernel)⟩
theorem lw_p42 : lw_okq (⟨"Pseudorange$Star", "moveClock", "(I)V"⟩, 11) := ⟨⟨by decide +kernel, by decide +kernel⟩, List.mem_of_getElem? (i := 137) (by decide +kernel), List.mem_of_getElem? (i := 515) (by decide +kernel), List.mem_of_getElem? (i := 516) (by decide +kernel)⟩
theorem lw_p43 : lw_okq (⟨"Pseudorange", "isNoStation", "(I)Z"⟩, 8) := ⟨⟨by decide +kernel, by decide +kernel⟩, List.mem_of_getElem? (i := 18) (by decide +kernel), List.mem_of_getElem? (i := 560) (by decide +kernel), List.mem_of_getElem? (i := 561) (by decide +kernel)⟩
theorem lw_p44 : lw_okq (⟨"Pseudorange$Star", "takeMessage", "(II)V"⟩, 11) := ⟨⟨by decide +kernel, by decide +kernel⟩, List.mem_of_getElem? (i := 137) (by decide +kernel), List.mem_of_getElem? (i := 566) (by decide +kernel), List.mem_of_getElem? (i := 567) (by decide +kernel)⟩
theorem lw_p45 : lw_okq (⟨"Pseudorange", "passOne", "()V"⟩, 8) := ⟨⟨by decide +kernel, by decide +kernel⟩, List.mem_of_getElem? (i := 18) (by decide +kernel), List.mem_of_getElem? (i := 789) (by decide +kernel), List.mem_of_getElem? (i := 790) (by decide +kernel)⟩
theorem lw_p46 : lw_okq (⟨"Pseudorange$Star", "passOne", "()V"⟩, 11) := ⟨⟨by decide +kernel, by decide +kernel⟩, List.mem_of_getElem? (i := 137) (by decide +kernel), List.mem_of_getElem? (i := 793) (by decide +kernel), List.mem_of_getElem? (i := 794) (by decide +kernel)⟩
theorem lw_p47 : lw_okq (⟨"Pseudorange", "measure", "(LPseudorange$Receiver;)V"⟩, 8) := ⟨⟨by decide +kernel, by decide +kernel⟩, List.mem_of_getElem? (i := 18) (by decide +kernel), List.mem_of_getElem? (i := 808) (by decide +kernel), List.mem_of_getElem? (i := 809) (by decide +kernel)⟩
def lw_privs_3 : List (MethodName × Nat) := [(⟨"Pseudorange$Solver", "solve", "()V"⟩, 15), (⟨"Pseudorange$Solver", "hasSolution", "()Z"⟩, 15), (⟨"Pseudorange$Solver", "search", "(I)V"⟩, 15), (⟨"Pseudorange$Solver", "tryPlace", "(III)V"⟩, 15), (⟨"Pseudorange$Solver", "costBy", "(II)J"⟩, 15), (⟨"Pseudorange", "alarmOf", "(LPseudorange$Receiver;Z)I"⟩, 8), (⟨"Pseudorange$Track", "leapsTo", "(III)Z"⟩, 13), (⟨"Pseudorange$Track", "hasObservedIn", "(I)Z"⟩, 13), (⟨"java/lang/Throwable", "fillInStackTrace", "(I)Ljava/lang/Throwable;"⟩, 6), (⟨"Pseudorange", "isNoStar", "(I)Z"⟩, 8), (⟨"Pseudorange$Star", "moveClock", "(I)V"⟩, 11), (⟨"Pseudorange", "isNoStation", "(I)Z"⟩, 8), (⟨"Pseudorange$Star", "takeMessage", "(II)V"⟩, 11), (⟨"Pseudorange", "passOne", "()V"⟩, 8), (⟨"Pseudorange$Star", "passOne", "()V"⟩, 11), (⟨"Pseudorange", "measure", "(LPseudorange$Receiver;)V"⟩, 8)]
theorem lw_r3 : ∀ q ∈ lw_privs_3, lw_okq q := List.forall_mem_cons.mpr ⟨lw_p32, List.forall_mem_cons.mpr ⟨lw_p33, List.forall_mem_cons.mpr ⟨lw_p34, List.forall_mem_cons.mpr ⟨lw_p35, List.forall_mem_cons.mpr ⟨lw_p36, List.forall_mem_cons.mpr ⟨lw_p37, List.forall_mem_cons.mpr ⟨lw_p38, List.forall_mem_cons.mpr ⟨lw_p39, List.forall_mem_cons.mpr ⟨lw_p40, List.forall_mem_cons.mpr ⟨lw_p41, List.forall_mem_cons.mpr ⟨lw_p42, List.forall_mem_cons.mpr ⟨lw_p43, List.forall_mem_cons.mpr ⟨lw_p44, List.forall_mem_cons.mpr ⟨lw_p45, List.forall_mem_cons.mpr ⟨lw_p46, List.forall_mem_cons.mpr ⟨lw_p47, fun _ h => absurd h List.not_mem_nil⟩⟩⟩⟩⟩⟩⟩⟩⟩⟩⟩⟩⟩⟩⟩⟩
theorem lw_p48 : lw_okq (⟨"Pseudorange$Sight", "take", "(IIZ)V"⟩, 11) := ⟨⟨by decide +kernel, by decide +kernel⟩, List.mem_of_getElem? (i := 241) (by decide +kernel), List.mem_of_getElem? (i := 812) (by decide +kernel), List.mem_of_getElem? (i := 813) (by decide +kernel)⟩
theorem lw_p49 : lw_okq (⟨"Pseudorange$Sight", "forget", "()V"⟩, 11) := ⟨⟨by decide +kernel, by decide +kernel⟩, List.mem_of_getElem? (i := 241) (by decide +kernel), List.mem_of_getElem? (i := 816) (by decide +kernel), List.mem_of_getElem? (i := 817) (by decide +kernel)⟩
theorem lw_p50 : lw_okq (⟨"Pseudorange$Sight", "lose", "()V"⟩, 11) := ⟨⟨by decide +kernel, by decide +kernel⟩, List.mem_of_getElem? (i := 241) (by decide +kernel), List.mem_of_getElem? (i := 822) (by decide +kernel), List.mem_of_getElem? (i := 823) (by decide +kernel)⟩
theorem lw_p51 : lw_okq (⟨"Pseudorange", "gatherMeasured", "(LPseudorange$Receiver;)V"⟩, 8) := ⟨⟨by decide +kernel, by decide +kernel⟩, List.mem_of_getElem? (i := 18) (by decide +kernel), List.mem_of_getElem? (i := 826) (by decide +kernel), List.mem_of_getElem? (i := 827) (by decide +kernel)⟩
theorem lw_p52 : lw_okq (⟨"Pseudorange$Sight", "measured", "()I"⟩, 11) := ⟨⟨by decide +kernel, by decide +kernel⟩, List.mem_of_getElem? (i := 241) (by decide +kernel), List.mem_of_getElem? (i := 830) (by decide +kernel), List.mem_of_getElem? (i := 831) (by decide +kernel)⟩
theorem lw_p53 : lw_okq (⟨"Pseudorange", "offerCorrections", "(LPseudorange$Receiver;)V"⟩, 8) := ⟨⟨by decide +kernel, by decide +kernel⟩, List.mem_of_getElem? (i := 18) (by decide +kernel), List.mem_of_getElem? (i := 834) (by decide +kernel), List.mem_of_getElem? (i := 835) (by decide +kernel)⟩
theorem lw_p54 : lw_okq (⟨"Pseudorange", "tooFar", "(LPseudorange$Receiver;LPseudorange$Star;I)I"⟩, 8) := ⟨⟨by decide +kernel, by decide +kernel⟩, List.mem_of_getElem? (i := 18) (by decide +kernel), List.mem_of_getElem? (i := 838) (by decide +kernel), List.mem_of_getElem? (i := 839) (by decide +kernel)⟩
theorem lw_p55 : lw_okq (⟨"Pseudorange$Track", "keepAll", "(ILPseudorange$Solver;III)V"⟩, 13) := ⟨⟨by decide +kernel, by decide +kernel⟩, List.mem_of_getElem? (i := 231) (by decide +kernel), List.mem_of_getElem? (i := 843) (by decide +kernel), List.mem_of_getElem? (i := 844) (by decide +kernel)⟩
theorem lw_p56 : lw_okq (⟨"Pseudorange$Track", "keepSolution", "(LPseudorange$Solver;II)V"⟩, 13) := ⟨⟨by decide +kernel, by decide +kernel⟩, List.mem_of_getElem? (i := 231) (by decide +kernel), List.mem_of_getElem? (i := 848) (by decide +kernel), List.mem_of_getElem? (i := 849) (by decide +kernel)⟩
theorem lw_p57 : lw_okq (⟨"Pseudorange$Track", "meanOfErrors", "()D"⟩, 13) := ⟨⟨by decide +kernel, by decide +kernel⟩, List.mem_of_getElem? (i := 231) (by decide +kernel), List.mem_of_getElem? (i := 897) (by decide +kernel), List.mem_of_getElem? (i := 898) (by decide +kernel)⟩
theorem lw_p58 : lw_okq (⟨"PseudorangeModel", "refuse", "(I)I"⟩, 20) := ⟨⟨by decide +kernel, by decide +kernel⟩, List.mem_of_getElem? (i := 931) (by decide +kernel), List.mem_of_getElem? (i := 1013) (by decide +kernel), List.mem_of_getElem? (i := 1014) (by decide +kernel)⟩
theorem lw_p59 : lw_okq (⟨"PseudorangeModel", "isStar", "(I)Z"⟩, 20) := ⟨⟨by decide +kernel, by decide +kernel⟩, List.mem_of_getElem? (i := 931) (by decide +kernel), List.mem_of_getElem? (i := 1021) (by decide +kernel), List.mem_of_getElem? (i := 1022) (by decide +kernel)⟩
theorem lw_p60 : lw_okq (⟨"PseudorangeModel", "isStation", "(I)Z"⟩, 20) := ⟨⟨by decide +kernel, by decide +kernel⟩, List.mem_of_getElem? (i := 931) (by decide +kernel), List.mem_of_getElem? (i := 1047) (by decide +kernel), List.mem_of_getElem? (i := 1048) (by decide +kernel)⟩
theorem lw_p61 : lw_okq (⟨"PseudorangeModel", "isHeard", "(III)Z"⟩, 20) := ⟨⟨by decide +kernel, by decide +kernel⟩, List.mem_of_getElem? (i := 931) (by decide +kernel), List.mem_of_getElem? (i := 1051) (by decide +kernel), List.mem_of_getElem? (i := 1052) (by decide +kernel)⟩
theorem lw_p62 : lw_okq (⟨"PseudorangeModel", "phaseIn", "(II)I"⟩, 20) := ⟨⟨by decide +kernel, by decide +kernel⟩, List.mem_of_getElem? (i := 931) (by decide +kernel), List.mem_of_getElem? (i := 1055) (by decide +kernel), List.mem_of_getElem? (i := 1056) (by decide +kernel)⟩
theorem lw_p63 : lw_okq (⟨"PseudorangeModel", "yAt", "(II)I"⟩, 20) := ⟨⟨by decide +kernel, by decide +kernel⟩, List.mem_of_getElem? (i := 931) (by decide +kernel), List.mem_of_getElem? (i := 1059) (by decide +kernel), List.mem_of_getElem? (i := 1060) (by decide +kernel)⟩
def lw_privs_4 : List (MethodName × Nat) := [(⟨"Pseudorange$Sight", "take", "(IIZ)V"⟩, 11), (⟨"Pseudorange$Sight", "forget", "()V"⟩, 11), (⟨"Pseudorange$Sight", "lose", "()V"⟩, 11), (⟨"Pseudorange", "gatherMeasured", "(LPseudorange$Receiver;)V"⟩, 8), (⟨"Pseudorange$Sight", "measured", "()I"⟩, 11), (⟨"Pseudorange", "offerCorrections", "(LPseudorange$Receiver;)V"⟩, 8), (⟨"Pseudorange", "tooFar", "(LPseudorange$Receiver;LPseudorange$Star;I)I"⟩, 8), (⟨"Pseudorange$Track", "keepAll", "(ILPseudorange$Solver;III)V"⟩, 13), (⟨"Pseudorange$Track", "keepSolution", "(LPseudorange$Solver;II)V"⟩, 13), (⟨"Pseudorange$Track", "meanOfErrors", "()D"⟩, 13), (⟨"PseudorangeModel", "refuse", "(I)I"⟩, 20), (⟨"PseudorangeModel", "isStar", "(I)Z"⟩, 20), (⟨"PseudorangeModel", "isStation", "(I)Z"⟩, 20), (⟨"PseudorangeModel", "isHeard", "(III)Z"⟩, 20), (⟨"PseudorangeModel", "phaseIn", "(II)I"⟩, 20), (⟨"PseudorangeModel", "yAt", "(II)I"⟩, 20)]
theorem lw_r4 : ∀ q ∈ lw_privs_4, lw_okq q := List.forall_mem_cons.mpr ⟨lw_p48, List.forall_mem_cons.mpr ⟨lw_p49, List.forall_mem_cons.mpr ⟨lw_p50, List.forall_mem_cons.mpr ⟨lw_p51, List.forall_mem_cons.mpr ⟨lw_p52, List.forall_mem_cons.mpr ⟨lw_p53, List.forall_mem_cons.mpr ⟨lw_p54, List.forall_mem_cons.mpr ⟨lw_p55, List.forall_mem_cons.mpr ⟨lw_p56, List.forall_mem_cons.mpr ⟨lw_p57, List.forall_mem_cons.mpr ⟨lw_p58, List.forall_mem_cons.mpr ⟨lw_p59, List.forall_mem_cons.mpr ⟨lw_p60, List.forall_mem_cons.mpr ⟨lw_p61, List.forall_mem_cons.mpr ⟨lw_p62, List.forall_mem_cons.mpr ⟨lw_p63, fun _ h => absurd h List.not_mem_nil⟩⟩⟩⟩⟩⟩⟩⟩⟩⟩⟩⟩⟩⟩⟩⟩
theorem lw_p64 : lw_okq (⟨"PseudorangeModel", "xAt", "(II)I"⟩, 20) := ⟨⟨by decide +kernel, by decide +kernel⟩, List.mem_of_getElem? (i := 931) (by decide +kernel), List.mem_of_getElem? (i := 1066) (by decide +kernel), List.mem_of_getElem? (i := 1067) (by decide +kernel)⟩
theorem lw_p65 : lw_okq (⟨"PseudorangeModel", "since", "(I)I"⟩, 20) := ⟨⟨by decide +kernel, by decide +kernel⟩, List.mem_of_getElem? (i := 931) (by decide +kernel), List.mem_of_getElem? (i := 1071) (by decide +kernel), List.mem_of_getElem? (i := 1072) (by decide +kernel)⟩
theorem lw_p66 : lw_okq (⟨"PseudorangeModel", "isReceiver", "(I)Z"⟩, 20) := ⟨⟨by decide +kernel, by decide +kernel⟩, List.mem_of_getElem? (i := 931) (by decide +kernel), List.mem_of_getElem? (i := 1086) (by decide +kernel), List.mem_of_getElem? (i := 1087) (by decide +kernel)⟩
theorem lw_p67 : lw_okq (⟨"PseudorangeModel", "setSeen", "(II)I"⟩, 20) := ⟨⟨by decide +kernel, by decide +kernel⟩, List.mem_of_getElem? (i := 931) (by decide +kernel), List.mem_of_getElem? (i := 1097) (by decide +kernel), List.mem_of_getElem? (i := 1098) (by decide +kernel)⟩
theorem lw_p68 : lw_okq (⟨"PseudorangeModel", "sees", "(III)Z"⟩, 20) := ⟨⟨by decide +kernel, by decide +kernel⟩, List.mem_of_getElem? (i := 931) (by decide +kernel), List.mem_of_getElem? (i := 1101) (by decide +kernel), List.mem_of_getElem? (i := 1102) (by decide +kernel)⟩
theorem lw_p69 : lw_okq (⟨"PseudorangeModel", "change", "(III)I"⟩, 20) := ⟨⟨by decide +kernel, by decide +kernel⟩, List.mem_of_getElem? (i := 931) (by decide +kernel), List.mem_of_getElem? (i := 1110) (by decide +kernel), List.mem_of_getElem? (i := 1111) (by decide +kernel)⟩
theorem lw_p70 : lw_okq (⟨"PseudorangeModel", "see", "(IIZ)V"⟩, 20) := ⟨⟨by decide +kernel, by decide +kernel⟩, List.mem_of_getElem? (i := 931) (by decide +kernel), List.mem_of_getElem? (i := 1134) (by decide +kernel), List.mem_of_getElem? (i := 1135) (by decide +kernel)⟩
theorem lw_p71 : lw_okq (⟨"PseudorangeModel", "codeOf", "(II)I"⟩, 20) := ⟨⟨by decide +kernel, by decide +kernel⟩, List.mem_of_getElem? (i := 931) (by decide +kernel), List.mem_of_getElem? (i := 1138) (by decide +kernel), List.mem_of_getElem? (i := 1139) (by decide +kernel)⟩
theorem lw_p72 : lw_okq (⟨"PseudorangeModel", "trueOf", "(II)I"⟩, 20) := ⟨⟨by decide +kernel, by decide +kernel⟩, List.mem_of_getElem? (i := 931) (by decide +kernel), List.mem_of_getElem? (i := 1142) (by decide +kernel), List.mem_of_getElem? (i := 1143) (by decide +kernel)⟩
theorem lw_p73 : lw_okq (⟨"PseudorangeModel", "lay", "(IZI)I"⟩, 20) := ⟨⟨by decide +kernel, by decide +kernel⟩, List.mem_of_getElem? (i := 931) (by decide +kernel), List.mem_of_getElem? (i := 1147) (by decide +kernel), List.mem_of_getElem? (i := 1148) (by decide +kernel)⟩
theorem lw_p74 : lw_okq (⟨"PseudorangeModel", "holds", "(I)Z"⟩, 20) := ⟨⟨by decide +kernel, by decide +kernel⟩, List.mem_of_getElem? (i := 931) (by decide +kernel), List.mem_of_getElem? (i := 1151) (by decide +kernel), List.mem_of_getElem? (i := 1152) (by decide +kernel)⟩
theorem lw_p75 : lw_okq (⟨"PseudorangeModel", "toldPhase", "(I)I"⟩, 20) := ⟨⟨by decide +kernel, by decide +kernel⟩, List.mem_of_getElem? (i := 931) (by decide +kernel), List.mem_of_getElem? (i := 1155) (by decide +kernel), List.mem_of_getElem? (i := 1156) (by decide +kernel)⟩
theorem lw_p76 : lw_okq (⟨"PseudorangeModel", "toldOffset", "(I)I"⟩, 20) := ⟨⟨by decide +kernel, by decide +kernel⟩, List.mem_of_getElem? (i := 931) (by decide +kernel), List.mem_of_getElem? (i := 1159) (by decide +kernel), List.mem_of_getElem? (i := 1160) (by decide +kernel)⟩
theorem lw_p77 : lw_okq (⟨"PseudorangeModel", "correction", "(II)I"⟩, 20) := ⟨⟨by decide +kernel, by decide +kernel⟩, List.mem_of_getElem? (i := 931) (by decide +kernel), List.mem_of_getElem? (i := 1163) (by decide +kernel), List.mem_of_getElem? (i := 1164) (by decide +kernel)⟩
theorem lw_p78 : lw_okq (⟨"PseudorangeModel", "place", "(IIZII)V"⟩, 20) := ⟨⟨by decide +kernel, by decide +kernel⟩, List.mem_of_getElem? (i := 931) (by decide +kernel), List.mem_of_getElem? (i := 1167) (by decide +kernel), List.mem_of_getElem? (i := 1168) (by decide +kernel)⟩
theorem lw_p79 : lw_okq (⟨"PseudorangeModel", "solve", "()V"⟩, 20) := ⟨⟨by decide +kernel, by decide +kernel⟩, List.mem_of_getElem? (i := 931) (by decide +kernel), List.mem_of_getElem? (i := 1171) (by decide +kernel), List.mem_of_getElem? (i := 1172) (by decide +kernel)⟩
def lw_privs_5 : List (MethodName × Nat) := [(⟨"PseudorangeModel", "xAt", "(II)I"⟩, 20), (⟨"PseudorangeModel", "since", "(I)I"⟩, 20), (⟨"PseudorangeModel", "isReceiver", "(I)Z"⟩, 20), (⟨"PseudorangeModel", "setSeen", "(II)I"⟩, 20), (⟨"PseudorangeModel", "sees", "(III)Z"⟩, 20), (⟨"PseudorangeModel", "change", "(III)I"⟩, 20), (⟨"PseudorangeModel", "see", "(IIZ)V"⟩, 20), (⟨"PseudorangeModel", "codeOf", "(II)I"⟩, 20), (⟨"PseudorangeModel", "trueOf", "(II)I"⟩, 20), (⟨"PseudorangeModel", "lay", "(IZI)I"⟩, 20), (⟨"PseudorangeModel", "holds", "(I)Z"⟩, 20), (⟨"PseudorangeModel", "toldPhase", "(I)I"⟩, 20), (⟨"PseudorangeModel", "toldOffset", "(I)I"⟩, 20), (⟨"PseudorangeModel", "correction", "(II)I"⟩, 20), (⟨"PseudorangeModel", "place", "(IIZII)V"⟩, 20), (⟨"PseudorangeModel", "solve", "()V"⟩, 20)]
theorem lw_r5 : ∀ q ∈ lw_privs_5, lw_okq q := List.forall_mem_cons.mpr ⟨lw_p64, List.forall_mem_cons.mpr ⟨lw_p65, List.forall_mem_cons.mpr ⟨lw_p66, List.forall_mem_cons.mpr ⟨lw_p67, List.forall_mem_cons.mpr ⟨lw_p68, List.forall_mem_cons.mpr ⟨lw_p69, List.forall_mem_cons.mpr ⟨lw_p70, List.forall_mem_cons.mpr ⟨lw_p71, List.forall_mem_cons.mpr ⟨lw_p72, List.forall_mem_cons.mpr ⟨lw_p73, List.forall_mem_cons.mpr ⟨lw_p74, List.forall_mem_cons.mpr ⟨lw_p75, List.forall_mem_cons.mpr ⟨lw_p76, List.forall_mem_cons.mpr ⟨lw_p77, List.forall_mem_cons.mpr ⟨lw_p78, List.forall_mem_cons.mpr ⟨lw_p79, fun _ h => absurd h List.not_mem_nil⟩⟩⟩⟩⟩⟩⟩⟩⟩⟩⟩⟩⟩⟩⟩⟩
theorem lw_p80 : lw_okq (⟨"PseudorangeModel", "look", "(II)V"⟩, 20) := ⟨⟨by decide +kernel, by decide +kernel⟩, List.mem_of_getElem? (i := 931) (by decide +kernel), List.mem_of_getElem? (i := 1176) (by decide +kernel), List.mem_of_getElem? (i := 1177) (by decide +kernel)⟩
theorem lw_p81 : lw_okq (⟨"PseudorangeModel", "over", "(III)I"⟩, 20) := ⟨⟨by decide +kernel, by decide +kernel⟩, List.mem_of_getElem? (i := 931) (by decide +kernel), List.mem_of_getElem? (i := 1180) (by decide +kernel), List.mem_of_getElem? (i := 1181) (by decide +kernel)⟩
theorem lw_p82 : lw_okq (⟨"PseudorangeModel", "level", "(I)I"⟩, 20) := ⟨⟨by decide +kernel, by decide +kernel⟩, List.mem_of_getElem? (i := 931) (by decide +kernel), List.mem_of_getElem? (i := 1184) (by decide +kernel), List.mem_of_getElem? (i := 1185) (by decide +kernel)⟩
theorem lw_p83 : lw_okq (⟨"PseudorangeModel", "alarm", "(III)I"⟩, 20) := ⟨⟨by decide +kernel, by decide +kernel⟩, List.mem_of_getElem? (i := 931) (by decide +kernel), List.mem_of_getElem? (i := 1188) (by decide +kernel), List.mem_of_getElem? (i := 1189) (by decide +kernel)⟩
theorem lw_p84 : lw_okq (⟨"PseudorangeModel", "ofStarNow", "(II)I"⟩, 20) := ⟨⟨by decide +kernel, by decide +kernel⟩, List.mem_of_getElem? (i := 931) (by decide +kernel), List.mem_of_getElem? (i := 1197) (by decide +kernel), List.mem_of_getElem? (i := 1198) (by decide +kernel)⟩
theorem lw_p85 : lw_okq (⟨"PseudorangeModel", "messageNow", "(II)I"⟩, 20) := ⟨⟨by decide +kernel, by decide +kernel⟩, List.mem_of_getElem? (i := 931) (by decide +kernel), List.mem_of_getElem? (i := 1205) (by decide +kernel), List.mem_of_getElem? (i := 1206) (by decide +kernel)⟩
theorem lw_p86 : lw_okq (⟨"PseudorangeModel", "seenNow", "(III)I"⟩, 20) := ⟨⟨by decide +kernel, by decide +kernel⟩, List.mem_of_getElem? (i := 931) (by decide +kernel), List.mem_of_getElem? (i := 1213) (by decide +kernel), List.mem_of_getElem? (i := 1214) (by decide +kernel)⟩
theorem lw_p87 : lw_okq (⟨"PseudorangeModel", "ofReceiverNow", "(II)I"⟩, 20) := ⟨⟨by decide +kernel, by decide +kernel⟩, List.mem_of_getElem? (i := 931) (by decide +kernel), List.mem_of_getElem? (i := 1221) (by decide +kernel), List.mem_of_getElem? (i := 1222) (by decide +kernel)⟩
theorem lw_p88 : lw_okq (⟨"PseudorangeModel", "manyNow", "(I)I"⟩, 20) := ⟨⟨by decide +kernel, by decide +kernel⟩, List.mem_of_getElem? (i := 931) (by decide +kernel), List.mem_of_getElem? (i := 1229) (by decide +kernel), List.mem_of_getElem? (i := 1230) (by decide +kernel)⟩
theorem lw_p89 : lw_okq (⟨"PseudorangeModel", "heardNow", "(II)I"⟩, 20) := ⟨⟨by decide +kernel, by decide +kernel⟩, List.mem_of_getElem? (i := 931) (by decide +kernel), List.mem_of_getElem? (i := 1245) (by decide +kernel), List.mem_of_getElem? (i := 1246) (by decide +kernel)⟩
theorem lw_p90 : lw_okq (⟨"PseudorangeModel", "alarmNow", "(I)I"⟩, 20) := ⟨⟨by decide +kernel, by decide +kernel⟩, List.mem_of_getElem? (i := 931) (by decide +kernel), List.mem_of_getElem? (i := 1257) (by decide +kernel), List.mem_of_getElem? (i := 1258) (by decide +kernel)⟩
theorem lw_p91 : lw_okq (⟨"PseudorangeModel", "add", "(I)V"⟩, 20) := ⟨⟨by decide +kernel, by decide +kernel⟩, List.mem_of_getElem? (i := 931) (by decide +kernel), List.mem_of_getElem? (i := 1266) (by decide +kernel), List.mem_of_getElem? (i := 1267) (by decide +kernel)⟩
def lw_privs_6 : List (MethodName × Nat) := [(⟨"PseudorangeModel", "look", "(II)V"⟩, 20), (⟨"PseudorangeModel", "over", "(III)I"⟩, 20), (⟨"PseudorangeModel", "level", "(I)I"⟩, 20), (⟨"PseudorangeModel", "alarm", "(III)I"⟩, 20), (⟨"PseudorangeModel", "ofStarNow", "(II)I"⟩, 20), (⟨"PseudorangeModel", "messageNow", "(II)I"⟩, 20), (⟨"PseudorangeModel", "seenNow", "(III)I"⟩, 20), (⟨"PseudorangeModel", "ofReceiverNow", "(II)I"⟩, 20), (⟨"PseudorangeModel", "manyNow", "(I)I"⟩, 20), (⟨"PseudorangeModel", "heardNow", "(II)I"⟩, 20), (⟨"PseudorangeModel", "alarmNow", "(I)I"⟩, 20), (⟨"PseudorangeModel", "add", "(I)V"⟩, 20)]
theorem lw_r6 : ∀ q ∈ lw_privs_6, lw_okq q := List.forall_mem_cons.mpr ⟨lw_p80, List.forall_mem_cons.mpr ⟨lw_p81, List.forall_mem_cons.mpr ⟨lw_p82, List.forall_mem_cons.mpr ⟨lw_p83, List.forall_mem_cons.mpr ⟨lw_p84, List.forall_mem_cons.mpr ⟨lw_p85, List.forall_mem_cons.mpr ⟨lw_p86, List.forall_mem_cons.mpr ⟨lw_p87, List.forall_mem_cons.mpr ⟨lw_p88, List.forall_mem_cons.mpr ⟨lw_p89, List.forall_mem_cons.mpr ⟨lw_p90, List.forall_mem_cons.mpr ⟨lw_p91, fun _ h => absurd h List.not_mem_nil⟩⟩⟩⟩⟩⟩⟩⟩⟩⟩⟩⟩
def lw_privs : List (MethodName × Nat) := lw_privs_1 ++ (lw_privs_2 ++ (lw_privs_3 ++ (lw_privs_4 ++ (lw_privs_5 ++ (lw_privs_6)))))
def lw_tbl : List Cond := k2_sels lw_privs ++ tables_1
theorem lw_privs_ok : ∀ q ∈ lw_privs, lw_okq q := by
  show ∀ q ∈ lw_privs_1 ++ (lw_privs_2 ++ (lw_privs_3 ++ (lw_privs_4 ++ (lw_privs_5 ++ (lw_privs_6))))), lw_okq q
  exact List.forall_mem_append.mpr ⟨lw_r1, List.forall_mem_append.mpr ⟨lw_r2, List.forall_mem_append.mpr ⟨lw_r3, List.forall_mem_append.mpr ⟨lw_r4, List.forall_mem_append.mpr ⟨lw_r5, lw_r6⟩⟩⟩⟩⟩
/-- the streams that the claim lets the run draw from -/
abbrev lw_cs : List Choice := [Jvm.Choice.named "NaN.bits"]
theorem lw_bits : nanBits ∈ lw_cs := by first | decide | exact List.mem_cons_self | simp [lw_cs, nanBits]
end
section
/-! ===== BEGIN words of one list among another's, by their places ===== -/
theorem goodIn_r {big : List Cond} (ws : List Cond) (ps : List Nat) (hp : ws = ps.filterMap (fun i => big[i]?)) (h : ws.all goodWord = true) : GoodIn big ws := by
  intro w hw
  have h1 := List.all_eq_true.mp h w hw
  rw [hp] at hw
  obtain ⟨i, -, hi⟩ := List.mem_filterMap.mp hw
  have hm : w ∈ big := by first | exact List.mem_of_getElem? hi | exact List.getElem?_mem hi
  exact ⟨hm, good_of_word h1⟩
theorem goodIn_app {big a b : List Cond} (ha : GoodIn big a) (hb : GoodIn big b) : GoodIn big (a ++ b) := fun w h => (List.mem_append.mp h).elim (ha w) (hb w)
theorem goodIn_ca {big a b : List Cond} {c : Cond} (ha : GoodIn big (c :: a)) (hb : GoodIn big b) : GoodIn big (c :: (a ++ b)) := fun w h => (List.mem_cons.mp h).elim (fun e => ha w (List.mem_cons.mpr (Or.inl e))) (fun h => (List.mem_append.mp h).elim (fun h => ha w (List.mem_cons.mpr (Or.inr h))) (hb w))
theorem goodIn_sub {big ws : List Cond} (hm : ∀ w ∈ ws, w ∈ big) (h : ws.all goodWord = true) : GoodIn big ws := fun w hw => ⟨hm w hw, good_of_word (List.all_eq_true.mp h w hw)⟩
/-! ===== END ===== -/


/-! ===== BEGIN exceptions that leave a method, and their catching by the caller (launches without stack traces) ===== -/
section VXA
/-! The laws vx_back, vx_callV, vx_callS, vx_callSW, vx_throw0, vx_throwS follow proofs of the library, with one case more: JvmDerived/Free/Laws.lean (Back.of_free), Shelf42/LK1.lean (callV, callS), Shelf/KitTraced.lean (throwNew0V, throwNewS). -/
/-- where a method has thrown q: the class by its name, the cell, what was written, the world -/
def vx_T (XC : String → State → State → Prop) (st : State) (q : Addr) (t : State) (mc ms : Nat) (free : Addr → Prop) : Prop :=
  ∃ (E : String) (ce : Cell) (L : List Loc), XC E st t ∧ t.heap[q]? = some ce ∧ ce.vm = .none ∧ st.vm.findClass E = some ce.cls ∧ st.WarmedH t.vm ∧ st.sameButNew ({ t with vm := st.vm } : State) L mc ms ∧ ∀ z ∈ L, free z.base
def vx_Q (Qc : Array Value → State → Outcome → State → Prop) (XC : String → State → State → Prop) (mc ms : Nat) (free : Addr → Prop) : Array Value → State → Outcome → State → Prop := fun a st o t =>
  (Qc a st o t ∧ ∃ L, FrameEnd st o t L mc ms ∧ ∀ q ∈ L, free q.base) ∨ ∃ q, o = .threw q ∧ vx_T XC st q t mc ms free
/-- a callee that returns or throws -/
def vx_Met (l : Launch) (y : MethodName) (ws : List Cond) (rm : Room) (Pc : Array Value → State → Prop) (Qc : Array Value → State → Outcome → State → Prop) (XC : String → State → State → Prop) (mc ms : Nat) (free : Addr → Prop) : Prop :=
  MetFree l y (headSpec ws rm) Pc (fun _ _ _ _ _ => True) (vx_Q Qc XC mc ms free)
def vx_Post (XC : String → State → State → Prop) (mc ms : Nat) (free : Addr → Prop) : Pt → Array Value → Addr → Pt → Prop := fun A a q B =>
  ∃ (g : JFrame) (mk : MethodId) (t : State) (L : List Loc) (E : String) (ce : Cell), B.U.heap = t.heap ∧ B.U.vm = t.vm ∧ XC E (A.U.calling g mk a) t ∧ t.heap[q]? = some ce ∧ ce.vm = .none ∧ A.U.vm.findClass E = some ce.cls ∧ B.locs = A.locs ++ L ∧ (∀ z ∈ L, free z.base) ∧ B.cells = A.cells + mc ∧ B.slots = A.slots + ms
def vx_Back (l : Launch) (R : Room) (p : Program) (e : Env) (below : List Frame) (s : State) (sargs : Array Value) (y : MethodName) (len W9 : Nat)
    (Pre : Pt → Array Value → Prop) (Post : Pt → Array Value → Option Value → Pt → Prop) (PostX : Pt → Array Value → Addr → Pt → Prop) : Prop :=
  ∀ (m : MethodId) (meth : Method) (c : Code) (A : Pt) (g : JFrame) (ig : Instr) (mk : MethodId) (a : Array Value),
    Stand p l e R s m sargs below meth c A.U A.locs A.cells A.slots → g.method = m → g.locals.size = c.maxLocals → decode c.code g.pc = .ok (ig, len) →
    2 * g.monitorRoom + (g.stack.map fun v => v.category).sum ≤ W9 → A.U.methodNamed? y = some mk → Pre A a →
    (∃ (v : Option Value) (B : Pt), Stand p l e R s m sargs below meth c B.U B.locs B.cells B.slots ∧ Post A a v B ∧
      Steps p.tables e below (doInvoke e (A.U.setTop g) [] mk a).1 (B.U.setTop { g with pc := g.pc + len, stack := v.toList ++ g.stack })) ∨
    (∃ (q : Addr) (B : Pt), Stand p l e R s m sargs below meth c B.U B.locs B.cells B.slots ∧ PostX A a q B ∧
      Steps p.tables e below (doInvoke e (A.U.setTop g) [] mk a).1 ((B.U.setTop g).pushFrame (.throwing q)))
section Payer
variable {l : Launch} {R : Room} {p : Program} {e : Env} {below : List Frame} {s : State} {sargs : Array Value} {y : MethodName} {len W9 : Nat}
theorem vx_back {ws : List Cond} {rm : Room} {Pc : Array Value → State → Prop} {Qc : Array Value → State → Outcome → State → Prop} {XC : String → State → State → Prop} {mc ms : Nat} {free : Addr → Prop} {bytes : ByteArray} {maxL : Nat} {ret : Option FieldType}
    (hM : vx_Met l y ws rm Pc Qc XC mc ms free) (hblind : FrameBlind Pc) (hrc : rm.cells = mc) (hrs : rm.slots = ms)
    (hframes : rm.frames + 1 ≤ R.frames) (hlocals : W9 + (maxL + 11) + rm.locals ≤ R.locals)
    (hws : ∀ w ∈ ws, ∀ a' U, s.WarmedH U.vm → w.before a' U = true) (hcode : Cond.code y bytes maxL ret ∈ ws) (hinit : ∀ a' U, s.WarmedH U.vm → (Cond.initialized y.cls).before a' U = true) :
    vx_Back l R p e below s sargs y len W9 (PreOf R mc ms Pc) (PostOf Qc mc ms free) (vx_Post XC mc ms free) := by
  intro m meth c A g ig mk a X hg hsize hdg hW hn hp
  have h1 : (headSpec ws rm).pre.before a A.U = true := atoms_intro fun w hw => hws w hw _ _ X.warmed
  have h2 : (Cond.code y bytes maxL ret).before a A.U = true := hws _ hcode _ _ X.warmed
  have h3 : (Cond.initialized y.cls).before a A.U = true := hinit _ _ X.warmed
  have h4 : A.cells + (headSpec ws rm).room.cells ≤ R.cells := by rw [show (headSpec ws rm).room.cells = mc from hrc]; exact hp.1
  have h5 : A.slots + (headSpec ws rm).room.slots ≤ R.slots := by rw [show (headSpec ws rm).room.slots = ms from hrs]; exact hp.2.1
  have hPc : Pc a (A.U.calling g mk a) := hblind _ _ _ _ hp.2.2
  obtain ⟨U, Ls, c0, s0⟩ := A
  dsimp only [Pt.U, Pt.locs, Pt.cells, Pt.slots] at h1 h2 h3 h4 h5 X hn hPc ⊢
  obtain ⟨methY, cY, hmY, hcY, -, hlY, -, -, -, -⟩ := Cond.code_spec hn h2
  obtain ⟨kY, hkY, -⟩ := className_of_methodNamed hn
  have hinitY : kY.init = .initialized := Cond.initialized_spec (findClass_of_methodNamed hn) hkY h3
  have h : At U g.method c below := by rw [hg]; exact X.here
  have hlocals9 : W9 + (maxL + 11) + (headSpec ws rm).room.locals ≤ R.locals := hlocals
  have happ : (headSpec ws rm).appliesLoose y e.platform (U.calling g mk a) = true :=
    Spec.appliesLoose_calling (g := g) h hdg hn hkY hinitY
      (X.room_calling (g := g) (R' := (headSpec ws rm).room) hsize hmY hcY hframes (by rw [hlY]; omega) h4 h5) h1
  obtain ⟨mid, hmid⟩ := h.above
  have hfr : (U.setTop g).frames = (.java g :: mid) ++ below := by rw [State.frames_setTop' g h.top, hmid]; rfl
  obtain ⟨o, s₂, hsteps, -, hend, hq⟩ := Steps.callFree hM p X.admits X.cas X.clock (acts := []) hfr happ hPc trivial
  have hq' : vx_Q Qc XC mc ms free a (U.calling g mk a) o s₂ := hq
  rw [State.frames_setTop' g h.top] at hend
  obtain ⟨g₀, hg0⟩ := Option.isSome_iff_exists.mp h.top
  obtain ⟨r, hr⟩ := State.topJava?_eq_some.mp hg0
  have hr' : (({ U with heap := s₂.heap, slotsUsed := s₂.slotsUsed } : State).setVm s₂.vm).frames = .java g₀ :: r := hr
  rcases hq' with ⟨hqc, L, hfe, hL⟩ | ⟨q, rfl, E, ce, L, hx, hce, hcv, hcl, hW₂, hsm, hL⟩
  · obtain ⟨⟨v, rfl⟩, hW₂, e2, q2, q3, q4, q5, q6⟩ := id hfe
    have e3 : s₂ = ({ (U.calling g mk a).setFrames s₂.frames with heap := s₂.heap, slotsUsed := s₂.slotsUsed } : State).setVm s₂.vm := by
      have : s₂ = ({ s₂ with vm := (U.calling g mk a).vm } : State).setVm s₂.vm := rfl
      rw [e2] at this
      exact this
    obtain ⟨c₂, i₂, len₂, hc₂, hd₂, hf₂⟩ := hend
    have hW' : U.WarmedH s₂.vm := hW₂
    have hcc : c₂ = c := by
      have h1 : s₂.code? g.method = U.code? g.method := by
        rw [State.code?_eq, State.code?_eq, hW'.alike.method?]
      exact Option.some.inj (hc₂.symm.trans (h1.trans h.code))
    subst hcc
    have hlen : len₂ = len := by rw [hdg] at hd₂; cases hd₂; rfl
    subst hlen
    have hs₂ : s₂ = (({ U with heap := s₂.heap, slotsUsed := s₂.slotsUsed } : State).setVm s₂.vm).setTop { g with pc := g.pc + len₂, stack := v.toList ++ g.stack } := by
      refine e3.trans ?_
      rw [hf₂, State.calling_eq h.top, State.setFrames_setFrames, State.setTop_of_frames _ hr', hr]
      rfl
    have hsame : U.sameButNew ({ U with heap := s₂.heap, slotsUsed := s₂.slotsUsed } : State) L mc ms := by
      refine ⟨?_, q2, q3, q4, q5, q6⟩
      obtain ⟨t, ht, -⟩ := State.frames_cons hr
      show ({ U with heap := s₂.heap, slotsUsed := s₂.slotsUsed } : State) = { U.setFrames U.frames with heap := s₂.heap, slotsUsed := s₂.slotsUsed }
      rw [State.setFrames_self ht]
    subst hg
    refine Or.inl ⟨v, ⟨(({ U with heap := s₂.heap, slotsUsed := s₂.slotsUsed } : State).setVm s₂.vm), Ls ++ L, c0 + mc, s0 + ms⟩,
      ⟨X.admits, X.cas, X.clock, X.frames, X.room, X.hears, X.method, X.code, (X.here.setHeapUsed s₂.heap s₂.slotsUsed).setVm hW'.alike, X.tail, State.WarmedH.trans X.warmed hW', X.limits, X.bytes, X.same.trans (hsame.setVm s.vm)⟩,
      ⟨g, mk, s₂, L, rfl, rfl, hqc, rfl, hL, rfl, rfl⟩, ?_⟩
    show Steps p.tables e below _ ((({ U with heap := s₂.heap, slotsUsed := s₂.slotsUsed } : State).setVm s₂.vm).setTop { g with pc := g.pc + len₂, stack := v.toList ++ g.stack })
    rw [← hs₂]
    exact hsteps
  · obtain ⟨e2, q2, q3, q4, q5, q6⟩ := id hsm
    have e3 : s₂ = ({ (U.calling g mk a).setFrames s₂.frames with heap := s₂.heap, slotsUsed := s₂.slotsUsed } : State).setVm s₂.vm := by
      have : s₂ = ({ s₂ with vm := (U.calling g mk a).vm } : State).setVm s₂.vm := rfl
      rw [e2] at this
      exact this
    have hf₂ : s₂.frames = .throwing q :: .java g :: U.frames.tail := hend
    have hW' : U.WarmedH s₂.vm := hW₂
    have hs₂ : s₂ = ((({ U with heap := s₂.heap, slotsUsed := s₂.slotsUsed } : State).setVm s₂.vm).setTop g).pushFrame (.throwing q) := by
      refine e3.trans ?_
      rw [hf₂, State.calling_eq h.top, State.setFrames_setFrames, State.pushFrame, State.frames_setTop _ hr', State.setTop_of_frames _ hr', State.setFrames_setFrames, hr]
      rfl
    have hsame : U.sameButNew ({ U with heap := s₂.heap, slotsUsed := s₂.slotsUsed } : State) L mc ms := by
      refine ⟨?_, q2, q3, q4, q5, q6⟩
      obtain ⟨t, ht, -⟩ := State.frames_cons hr
      show ({ U with heap := s₂.heap, slotsUsed := s₂.slotsUsed } : State) = { U.setFrames U.frames with heap := s₂.heap, slotsUsed := s₂.slotsUsed }
      rw [State.setFrames_self ht]
    subst hg
    refine Or.inr ⟨q, ⟨(({ U with heap := s₂.heap, slotsUsed := s₂.slotsUsed } : State).setVm s₂.vm), Ls ++ L, c0 + mc, s0 + ms⟩,
      ⟨X.admits, X.cas, X.clock, X.frames, X.room, X.hears, X.method, X.code, (X.here.setHeapUsed s₂.heap s₂.slotsUsed).setVm hW'.alike, X.tail, State.WarmedH.trans X.warmed hW', X.limits, X.bytes, X.same.trans (hsame.setVm s.vm)⟩,
      ⟨g, mk, s₂, L, E, ce, rfl, rfl, hx, hce, hcv, hcl, rfl, hL, rfl, rfl⟩, ?_⟩
    show Steps p.tables e below _ (((({ U with heap := s₂.heap, slotsUsed := s₂.slotsUsed } : State).setVm s₂.vm).setTop g).pushFrame (.throwing q))
    rw [← hs₂]
    exact hsteps
end Payer
section Calls
variable {p : Program} {l : Launch} {e : Env} {R : Room} {s : State} {m : MethodId} {args : Array Value} {below : List Frame} {meth : Method} {c : Code} {T : State} {locs : List Loc} {cells slots : Nat}
theorem vx_callV (X : Stand p l e R s m args below meth c T locs cells slots) (hexec : p.tables.exec = Jvm.exec) {own C : String} {index : Nat} {y : MethodName} {bytes : ByteArray} {maxL : Nat} {ret : Option FieldType}
    (hown : s.vm.findClass own = some m.cls) (hlink : (Cond.methodLink own index y).before args s = true) (hinst : (Cond.instanceMethod y).before args s = true) (hsel : (Cond.selects C y y).before args s = true)
    (hcode : (Cond.code y bytes maxL ret).before args s = true) (hy : y.cls ≠ "java/lang/invoke/MethodHandle" ∧ y.cls ≠ "java/lang/invoke/VarHandle")
    {W9 : Nat} {Pre : Pt → Array Value → Prop} {Post : Pt → Array Value → Option Value → Pt → Prop} {PostX : Pt → Array Value → Addr → Pt → Prop} (hK : vx_Back l R p e below s args y 3 W9 Pre Post PostX)
    {b : Addr} {cellB : Cell} (hcell : T.heap[b]? = some cellB) (hobj : cellB.vm.isStatics = false) (hcls : s.vm.findClass C = some cellB.cls)
    {g : JFrame} (hg : g.method = m) (hsize : g.locals.size = c.maxLocals) {argsL rest : List Value} (hlen : ∀ sig, parseMethodDescriptor y.desc = some sig → argsL.length = sig.parameters.length)
    (hstack : g.stack = argsL.reverse ++ .ref b :: rest) (hW : 2 * g.monitorRoom + (rest.map fun v => v.category).sum ≤ W9) (hdg : decode c.code g.pc = .ok (.invokevirtual index, 3))
    (hpre : ∀ vm₁, s.WarmedH vm₁ → Pre ⟨T.setVm vm₁, locs, cells, slots⟩ (Value.ref b :: argsL).toArray) :
    (∃ (v : Option Value) (vm₁ : Vm) (B : Pt), s.WarmedH vm₁ ∧ Stand p l e R s m args below meth c B.U B.locs B.cells B.slots ∧ Post ⟨T.setVm vm₁, locs, cells, slots⟩ (Value.ref b :: argsL).toArray v B ∧
      ∀ target, Steps p.tables e below (B.U.setTop { g with pc := g.pc + 3, stack := v.toList ++ rest }) target → Steps p.tables e below (T.setTop g) target) ∨
    (∃ (q : Addr) (vm₁ : Vm) (B : Pt), s.WarmedH vm₁ ∧ Stand p l e R s m args below meth c B.U B.locs B.cells B.slots ∧ PostX ⟨T.setVm vm₁, locs, cells, slots⟩ (Value.ref b :: argsL).toArray q B ∧
      Steps p.tables e below (T.setTop g) ((B.U.setTop { g with stack := rest }).pushFrame (.throwing q))) := by
  obtain ⟨mk, methM, hnamed, hmethM, hstM, habM⟩ := Cond.instanceMethod_spec hinst
  obtain ⟨methM', cM, hmethM', -, -, -, -, -, -, hsigM⟩ := Cond.code_spec hnamed hcode
  cases hmethM.symm.trans hmethM'
  obtain ⟨c2, r2, m2, q1, q2, q3, q4, kP, hkP, hkPi⟩ := Cond.selects_spec hsel
  cases hcls.symm.trans q1
  cases (State.methodFound?_of_named hnamed hy).symm.trans q2
  cases hnamed.symm.trans q3
  have hselP : selectMethod e.platform s.vm cellB.cls mk = .method mk := by rw [Launch.admits_selectMethod X.admits]; exact q4
  obtain ⟨vm₁, X₁, hstep₁⟩ := X.invokevirtual hexec hown hlink hnamed hmethM hstM hkP hkPi hy (a := b) (cell := cellB) hcell
    (fun z h => by rw [h] at hobj; cases hobj) hselP hmethM habM hkP hkPi (g := g) hg (argsL := argsL) (rest := rest) (hlen _ hsigM) hstack hdg
  rcases hK m meth c ⟨T.setVm vm₁, locs, cells, slots⟩ { g with stack := rest } (.invokevirtual index) mk (Value.ref b :: argsL).toArray X₁ hg hsize hdg hW (X₁.named hnamed) (hpre vm₁ X₁.warmed) with ⟨v, B, X', hpost, hsteps⟩ | ⟨q, B, X', hpost, hsteps⟩
  · exact Or.inl ⟨v, vm₁, B, X₁.warmed, X', hpost, fun target h => hstep₁ _ fun acts => by rw [doInvoke_state]; exact hsteps.trans h⟩
  · exact Or.inr ⟨q, vm₁, B, X₁.warmed, X', hpost, hstep₁ _ fun acts => by rw [doInvoke_state]; exact hsteps⟩
theorem vx_callS (X : Stand p l e R s m args below meth c T locs cells slots) (hexec : p.tables.exec = Jvm.exec) {own : String} {index : Nat} {y : MethodName} {bytes : ByteArray} {maxL : Nat} {ret : Option FieldType}
    (hown : s.vm.findClass own = some m.cls) (hlink : (Cond.methodLink own index y).before args s = true) (hstat : (Cond.static y).before args s = true) (hinit : (Cond.initialized y.cls).before args s = true)
    (hcode : (Cond.code y bytes maxL ret).before args s = true) (hy : y.cls ≠ "java/lang/invoke/MethodHandle" ∧ y.cls ≠ "java/lang/invoke/VarHandle")
    {W9 : Nat} {Pre : Pt → Array Value → Prop} {Post : Pt → Array Value → Option Value → Pt → Prop} {PostX : Pt → Array Value → Addr → Pt → Prop} (hK : vx_Back l R p e below s args y 3 W9 Pre Post PostX)
    {g : JFrame} (hg : g.method = m) (hsize : g.locals.size = c.maxLocals) {argsL rest : List Value} (hlen : ∀ sig, parseMethodDescriptor y.desc = some sig → argsL.length = sig.parameters.length)
    (hstack : g.stack = argsL.reverse ++ rest) (hW : 2 * g.monitorRoom + (rest.map fun v => v.category).sum ≤ W9) (hdg : decode c.code g.pc = .ok (.invokestatic index, 3))
    (hpre : ∀ vm₁, s.WarmedH vm₁ → Pre ⟨T.setVm vm₁, locs, cells, slots⟩ argsL.toArray) :
    (∃ (v : Option Value) (vm₁ : Vm) (B : Pt), s.WarmedH vm₁ ∧ Stand p l e R s m args below meth c B.U B.locs B.cells B.slots ∧ Post ⟨T.setVm vm₁, locs, cells, slots⟩ argsL.toArray v B ∧
      ∀ target, Steps p.tables e below (B.U.setTop { g with pc := g.pc + 3, stack := v.toList ++ rest }) target → Steps p.tables e below (T.setTop g) target) ∨
    (∃ (q : Addr) (vm₁ : Vm) (B : Pt), s.WarmedH vm₁ ∧ Stand p l e R s m args below meth c B.U B.locs B.cells B.slots ∧ PostX ⟨T.setVm vm₁, locs, cells, slots⟩ argsL.toArray q B ∧
      Steps p.tables e below (T.setTop g) ((B.U.setTop { g with stack := rest }).pushFrame (.throwing q))) := by
  obtain ⟨mk, hnamed⟩ := Cond.code_named hcode
  obtain ⟨methM, cM, hmethM, -, -, -, -, -, -, hsigM⟩ := Cond.code_spec hnamed hcode
  have hstatic : methM.isStatic = true := Cond.static_spec hnamed hmethM hstat
  obtain ⟨kP, hkP, -⟩ := className_of_methodNamed hnamed
  have hinitP : kP.init = .initialized := Cond.initialized_spec (findClass_of_methodNamed hnamed) hkP hinit
  obtain ⟨vm₁, X₁, hstep₁⟩ := X.invokestatic hexec hown hlink hnamed hmethM hstatic hkP hinitP hy (g := g) hg (argsL := argsL) (rest := rest) (hlen _ hsigM) hstack hdg
  rcases hK m meth c ⟨T.setVm vm₁, locs, cells, slots⟩ { g with stack := rest } (.invokestatic index) mk argsL.toArray X₁ hg hsize hdg hW (X₁.named hnamed) (hpre vm₁ X₁.warmed) with ⟨v, B, X', hpost, hsteps⟩ | ⟨q, B, X', hpost, hsteps⟩
  · exact Or.inl ⟨v, vm₁, B, X₁.warmed, X', hpost, fun target h => hstep₁ _ fun acts => by rw [doInvoke_state]; exact hsteps.trans h⟩
  · exact Or.inr ⟨q, vm₁, B, X₁.warmed, X', hpost, hstep₁ _ fun acts => by rw [doInvoke_state]; exact hsteps⟩
end Calls
theorem vx_cls {s : State} {T : State} {vm₁ : Vm} {E : String} {k : ClassId} (hW : s.WarmedH vm₁) (h : (T.setVm vm₁).vm.findClass E = some k) : s.vm.findClass E = some k := by
  have h1 : vm₁.findClass E = some k := h
  rw [hW.alike.findClass] at h1
  exact h1
/-- the method's frame g, with q thrown over it -/
def vx_W (p : Program) (l : Launch) (e : Env) (R : Room) (s : State) (m : MethodId) (args : Array Value) (below : List Frame) (meth : Method) (c : Code) (H : Heap) (locs : List Loc) (cells slots : Nat) (Q : State → Prop) (g : JFrame) (q : Addr) : Prop :=
  ∀ T : State, T.heap = H → Stand p l e R s m args below meth c T locs cells slots → ∃ t, Steps p.tables e below ((T.setTop g).pushFrame (.throwing q)) t ∧ Q t
def vx_Run (p : Program) (l : Launch) (e : Env) (R : Room) (s : State) (m : MethodId) (args : Array Value) (below : List Frame) (meth : Method) (c : Code) (H : Heap) (locs : List Loc) (cells slots mc ms : Nat) (g : JFrame) (rest : List Value) (Qa : State → Outcome → State → Prop) (XC : String → State → State → Prop) (free : Addr → Prop) : Prop :=
  ∀ T : State, T.heap = H → Stand p l e R s m args below meth c T locs cells slots →
    (∃ (v : Option Value) (st₀ t T' : State) (L : List Loc), st₀.heap = H ∧ Stand p l e R s m args below meth c T' (locs ++ L) (cells + mc) (slots + ms) ∧ (∀ q ∈ L, free q.base) ∧ T'.heap = t.heap ∧ T'.vm = t.vm ∧ Qa st₀ (.returned v) t ∧
      Goes p e below T g T' { g with pc := g.pc + 3, stack := v.toList ++ rest }) ∨
    (∃ (q : Addr) (st₀ t T' : State) (L : List Loc) (E : String) (ce : Cell), st₀.heap = H ∧ Stand p l e R s m args below meth c T' (locs ++ L) (cells + mc) (slots + ms) ∧ (∀ z ∈ L, free z.base) ∧ T'.heap = t.heap ∧ T'.vm = t.vm ∧ XC E st₀ t ∧ t.heap[q]? = some ce ∧ ce.vm = .none ∧ s.vm.findClass E = some ce.cls ∧
      Steps p.tables e below (T.setTop g) ((T'.setTop { g with stack := rest }).pushFrame (.throwing q)))
def vx_X {S : Type} (px : S → Prop) (B : String → S → State → Prop) (A : Nat → Prop) : String → State → State → Prop := fun E st t => ∃ u : S, px u ∧ B E u t ∧ va_F A st t
section Runs
variable {p : Program} {l : Launch} {e : Env} {R : Room} {s : State} {m : MethodId} {args : Array Value} {below : List Frame} {meth : Method} {c : Code} {H : Heap} {locs : List Loc} {cells slots : Nat}
variable {y : MethodName} {bytes cc : ByteArray} {maxL nL mc ms n index : Nat} {ret : Option FieldType} {ws : List Cond} {rm : Room} {Pc : Array Value → State → Prop} {Qc : Array Value → State → Outcome → State → Prop} {XC : String → State → State → Prop} {free : Addr → Prop} {Ts : List Cond} {own C : String} {b : Addr} {As rest : List Value} {g : JFrame}
theorem vx_callBack (cb : CallB R s args own index y bytes maxL ret ws rm mc ms n) (hM : vx_Met l y ws rm Pc Qc XC mc ms free) (hbl : FrameBlind Pc) : vx_Back l R p e below s args y 3 8 (PreOf R mc ms Pc) (PostOf Qc mc ms free) (vx_Post XC mc ms free) := by
  obtain ⟨hrc, hrs, hfr, hlo, hws, hcw, -, hini, -⟩ := cb
  exact vx_back (bytes := bytes) (maxL := maxL) (ret := ret) hM hbl hrc hrs hfr hlo hws hcw (fun a' U hW => word_at hW (Or.inl (by first | rfl | simp [Cond.onTables, Cond.keeps, Cond.steady])) hini)
theorem vx_runV (S : CallFix p m c cc nL s args Ts own) (hM : vx_Met l y ws rm Pc Qc XC mc ms free) (cw : CallW R s args own C index y bytes maxL ret ws rm mc ms n) (hp : PreV s H C b Pc As)
    (hg : g.method = m) (hn : As.length = n) (hsize : g.locals.size = nL) (hstack : g.stack = As.reverse ++ .ref b :: rest) (hW : 2 * g.monitorRoom + (rest.map fun v => v.category).sum ≤ 8) (hdg : decode cc g.pc = .ok (.invokevirtual index, 3)) (hf : cells + mc ≤ R.cells ∧ slots + ms ≤ R.slots) :
    vx_Run p l e R s m args below meth c H locs cells slots mc ms g rest (Qc (Value.ref b :: As).toArray) XC free := by
  have hK : vx_Back l R p e below s args y 3 8 (PreOf R mc ms Pc) (PostOf Qc mc ms free) (vx_Post XC mc ms free) := vx_callBack cw.1 hM hp.1
  obtain ⟨⟨-, -, -, -, -, -, hcode, -, hy, hlen, hl⟩, hin, hse⟩ := cw
  obtain ⟨hx, hb, hml, ho, -⟩ := S
  obtain ⟨-, ⟨cellB, hcB, hoB, hclB⟩, hPc⟩ := hp
  intro T hT X
  rcases vx_callV X hx (C := C) (bytes := bytes) (maxL := maxL) (ret := ret) ho hl hin hse hcode hy hK (by rw [hT]; exact hcB) hoB hclB hg (hsize.trans hml.symm) (argsL := As) (rest := rest) (fun sig h => hn.trans (hlen sig h)) hstack hW (by rw [hb]; exact hdg)
    (fun vm₁ hW₁ => ⟨hf.1, hf.2, hPc (T.setVm vm₁) hT hW₁⟩) with ⟨v, vm₁, ⟨U', l2, c2, s2⟩, hW₁, X', ⟨g', mk, t, L, e1, e2, hq, h1, hL, h2, h3⟩, st⟩ | ⟨q, vm₁, ⟨U', l2, c2, s2⟩, hW₁, X', ⟨g', mk, t, L, E, ce, e1, e2, hq, hce, hcv, hcl, h1, hL, h2, h3⟩, st⟩
  · dsimp only [Pt.U, Pt.locs, Pt.cells, Pt.slots] at X' e1 e2 h1 h2 h3 st
    subst h1; subst h2; subst h3
    exact Or.inl ⟨v, (T.setVm vm₁).calling g' mk (Value.ref b :: As).toArray, t, U', L, hT, X', hL, e1, e2, hq, st⟩
  · dsimp only [Pt.U, Pt.locs, Pt.cells, Pt.slots] at X' e1 e2 h1 h2 h3 st hcl
    subst h1; subst h2; subst h3
    exact Or.inr ⟨q, (T.setVm vm₁).calling g' mk (Value.ref b :: As).toArray, t, U', L, E, ce, hT, X', hL, e1, e2, hq, hce, hcv, vx_cls hW₁ hcl, st⟩
theorem vx_runS (S : CallFix p m c cc nL s args Ts own) (hM : vx_Met l y ws rm Pc Qc XC mc ms free) (cw : CallB R s args own index y bytes maxL ret ws rm mc ms n ∧ (Cond.static y).before args s = true) (hp : PreS s H Pc As)
    (hg : g.method = m) (hn : As.length = n) (hsize : g.locals.size = nL) (hstack : g.stack = As.reverse ++ rest) (hW : 2 * g.monitorRoom + (rest.map fun v => v.category).sum ≤ 8) (hdg : decode cc g.pc = .ok (.invokestatic index, 3)) (hf : cells + mc ≤ R.cells ∧ slots + ms ≤ R.slots) :
    vx_Run p l e R s m args below meth c H locs cells slots mc ms g rest (Qc As.toArray) XC free := by
  have hK : vx_Back l R p e below s args y 3 8 (PreOf R mc ms Pc) (PostOf Qc mc ms free) (vx_Post XC mc ms free) := vx_callBack cw.1 hM hp.1
  obtain ⟨⟨-, -, -, -, -, -, hcode, hini, hy, hlen, hl⟩, hstt⟩ := cw
  obtain ⟨hx, hb, hml, ho, -⟩ := S
  intro T hT X
  rcases vx_callS X hx (bytes := bytes) (maxL := maxL) (ret := ret) ho hl hstt hini hcode hy hK hg (hsize.trans hml.symm) (argsL := As) (rest := rest) (fun sig h => hn.trans (hlen sig h)) hstack hW (by rw [hb]; exact hdg)
    (fun vm₁ hW₁ => ⟨hf.1, hf.2, hp.2 (T.setVm vm₁) hT hW₁⟩) with ⟨v, vm₁, ⟨U', l2, c2, s2⟩, hW₁, X', ⟨g', mk, t, L, e1, e2, hq, h1, hL, h2, h3⟩, st⟩ | ⟨q, vm₁, ⟨U', l2, c2, s2⟩, hW₁, X', ⟨g', mk, t, L, E, ce, e1, e2, hq, hce, hcv, hcl, h1, hL, h2, h3⟩, st⟩
  · dsimp only [Pt.U, Pt.locs, Pt.cells, Pt.slots] at X' e1 e2 h1 h2 h3 st
    subst h1; subst h2; subst h3
    exact Or.inl ⟨v, (T.setVm vm₁).calling g' mk As.toArray, t, U', L, hT, X', hL, e1, e2, hq, st⟩
  · dsimp only [Pt.U, Pt.locs, Pt.cells, Pt.slots] at X' e1 e2 h1 h2 h3 st hcl
    subst h1; subst h2; subst h3
    exact Or.inr ⟨q, (T.setVm vm₁).calling g' mk As.toArray, t, U', L, E, ce, hT, X', hL, e1, e2, hq, hce, hcv, vx_cls hW₁ hcl, st⟩
end Runs
section Rows
variable {p : Program} {l : Launch} {e : Env} {R : Room} {s : State} {m : MethodId} {args : Array Value} {below : List Frame} {meth : Method} {c : Code} {H : Heap} {locs : List Loc} {cells slots : Nat} {Q : State → Prop}
variable {mc ms : Nat} {free : Addr → Prop} {A0 A1 : Nat → Prop} {H0 : Heap} {a : Array Value} {pc : Nat} {ls : Array Slot} {st0 rest : List Value}
theorem vx_keep {st₀ t T' : State} {L : List Loc} (h0 : st₀.heap = H) (e1 : T'.heap = t.heap) (hS : va_S A0 H0 H locs) (hA : ∀ q, q < H.size → A1 q → A0 q) (hf : ∀ q, free q → A0 q) (hL : ∀ q ∈ L, free q.base) (hF : va_F A1 st₀ t) :
    H.size ≤ T'.heap.size ∧ (∀ q : Nat, q < H.size → ¬ A1 q → T'.heap[q]? = H[q]?) ∧ va_S A0 H0 T'.heap (locs ++ L) := by
  obtain ⟨hz, hk⟩ := hF
  rw [h0] at hz hk
  exact ⟨by rw [e1]; exact hz, fun q h1 h2 => by rw [e1]; exact hk q h1 h2,
    ⟨Nat.le_trans hS.1 (by rw [e1]; exact hz), fun q h1 h2 => by rw [e1, hk q (Nat.lt_of_lt_of_le h1 hS.1) (fun z => h2 (hA q (Nat.lt_of_lt_of_le h1 hS.1) z))]; exact hS.2.1 q h1 h2, fun q hq => by
      rcases List.mem_append.mp hq with h | h
      · exact hS.2.2 q h
      · exact hf _ (hL q h)⟩⟩
theorem vx_calli {S SX : Type} {post : Int32 → S → Prop} {px : SX → Prop} {B : S → State → Prop} {BX : String → SX → State → Prop} {AX : Nat → Prop} (hr : vx_Run p l e R s m args below meth c H locs cells slots mc ms (F0 m pc ls st0) rest (va_Qi post B A1 a) (vx_X px BX AX) free) (hS : va_S A0 H0 H locs) (hA : ∀ q, q < H.size → A1 q → A0 q) (hf : ∀ q, free q → A0 q) (hAX : ∀ q, q < H.size → AX q → A0 q)
    (kx : ∀ (E : String) (ce : Cell) (q9 : Addr) (u : SX) (t : State) (H1 : Heap) (locs1 : List Loc), t.heap = H1 → s.vm.Alike t.vm → px u → BX E u t → H.size ≤ H1.size → (∀ q : Nat, q < H.size → ¬ AX q → H1[q]? = H[q]?) → va_S A0 H0 H1 locs1 → H1[q9]? = some ce → ce.vm = .none → s.vm.findClass E = some ce.cls → vx_W p l e R s m args below meth c H1 locs1 (cells + mc) (slots + ms) Q (F0 m pc ls rest) q9)
    (kk : ∀ (r : Int32) (u : S) (t : State) (H1 : Heap) (locs1 : List Loc), t.heap = H1 → s.vm.Alike t.vm → post r u → B u t → H.size ≤ H1.size → (∀ q : Nat, q < H.size → ¬ A1 q → H1[q]? = H[q]?) → va_S A0 H0 H1 locs1 → W p l e R s m args below meth c H1 locs1 (cells + mc) (slots + ms) Q (F0 m (pc + 3) ls (.int r :: rest))) : W p l e R s m args below meth c H locs cells slots Q (F0 m pc ls st0) := by
  intro T hT X
  rcases hr T hT X with ⟨v, st₀, t, T', L, h0, X', hL, e1, e2, ⟨⟨r, u, hv, hp, hb⟩, hF⟩, st⟩ | ⟨q, st₀, t, T', L, E, ce, h0, X', hL, e1, e2, ⟨u, hp, hb, hF⟩, hce, hcv, hcl, st⟩
  · cases hv
    obtain ⟨k1, k2, k3⟩ := vx_keep h0 e1 hS hA hf hL hF
    obtain ⟨t2, a1, b1⟩ := kk r u t T'.heap (locs ++ L) e1.symm (by rw [← e2]; exact X'.warmed.alike) hp hb k1 k2 k3 T' rfl X'
    exact ⟨t2, st t2 a1, b1⟩
  · obtain ⟨k1, k2, k3⟩ := vx_keep h0 e1 hS hAX hf hL hF
    obtain ⟨t2, a1, b1⟩ := kx E ce q u t T'.heap (locs ++ L) e1.symm (by rw [← e2]; exact X'.warmed.alike) hp hb k1 k2 k3 (by rw [e1]; exact hce) hcv hcl T' rfl X'
    exact ⟨t2, st.trans a1, b1⟩
theorem vx_calll {S SX : Type} {post : Int64 → S → Prop} {px : SX → Prop} {B : S → State → Prop} {BX : String → SX → State → Prop} {AX : Nat → Prop} (hr : vx_Run p l e R s m args below meth c H locs cells slots mc ms (F0 m pc ls st0) rest (va_Ql post B A1 a) (vx_X px BX AX) free) (hS : va_S A0 H0 H locs) (hA : ∀ q, q < H.size → A1 q → A0 q) (hf : ∀ q, free q → A0 q) (hAX : ∀ q, q < H.size → AX q → A0 q)
    (kx : ∀ (E : String) (ce : Cell) (q9 : Addr) (u : SX) (t : State) (H1 : Heap) (locs1 : List Loc), t.heap = H1 → s.vm.Alike t.vm → px u → BX E u t → H.size ≤ H1.size → (∀ q : Nat, q < H.size → ¬ AX q → H1[q]? = H[q]?) → va_S A0 H0 H1 locs1 → H1[q9]? = some ce → ce.vm = .none → s.vm.findClass E = some ce.cls → vx_W p l e R s m args below meth c H1 locs1 (cells + mc) (slots + ms) Q (F0 m pc ls rest) q9)
    (kk : ∀ (r : Int64) (u : S) (t : State) (H1 : Heap) (locs1 : List Loc), t.heap = H1 → s.vm.Alike t.vm → post r u → B u t → H.size ≤ H1.size → (∀ q : Nat, q < H.size → ¬ A1 q → H1[q]? = H[q]?) → va_S A0 H0 H1 locs1 → W p l e R s m args below meth c H1 locs1 (cells + mc) (slots + ms) Q (F0 m (pc + 3) ls (.long r :: rest))) : W p l e R s m args below meth c H locs cells slots Q (F0 m pc ls st0) := by
  intro T hT X
  rcases hr T hT X with ⟨v, st₀, t, T', L, h0, X', hL, e1, e2, ⟨⟨r, u, hv, hp, hb⟩, hF⟩, st⟩ | ⟨q, st₀, t, T', L, E, ce, h0, X', hL, e1, e2, ⟨u, hp, hb, hF⟩, hce, hcv, hcl, st⟩
  · cases hv
    obtain ⟨k1, k2, k3⟩ := vx_keep h0 e1 hS hA hf hL hF
    obtain ⟨t2, a1, b1⟩ := kk r u t T'.heap (locs ++ L) e1.symm (by rw [← e2]; exact X'.warmed.alike) hp hb k1 k2 k3 T' rfl X'
    exact ⟨t2, st t2 a1, b1⟩
  · obtain ⟨k1, k2, k3⟩ := vx_keep h0 e1 hS hAX hf hL hF
    obtain ⟨t2, a1, b1⟩ := kx E ce q u t T'.heap (locs ++ L) e1.symm (by rw [← e2]; exact X'.warmed.alike) hp hb k1 k2 k3 (by rw [e1]; exact hce) hcv hcl T' rfl X'
    exact ⟨t2, st.trans a1, b1⟩
theorem vx_callf {S SX : Type} {post : UInt32 → S → Prop} {px : SX → Prop} {B : S → State → Prop} {BX : String → SX → State → Prop} {AX : Nat → Prop} (hr : vx_Run p l e R s m args below meth c H locs cells slots mc ms (F0 m pc ls st0) rest (va_Qf post B A1 a) (vx_X px BX AX) free) (hS : va_S A0 H0 H locs) (hA : ∀ q, q < H.size → A1 q → A0 q) (hf : ∀ q, free q → A0 q) (hAX : ∀ q, q < H.size → AX q → A0 q)
    (kx : ∀ (E : String) (ce : Cell) (q9 : Addr) (u : SX) (t : State) (H1 : Heap) (locs1 : List Loc), t.heap = H1 → s.vm.Alike t.vm → px u → BX E u t → H.size ≤ H1.size → (∀ q : Nat, q < H.size → ¬ AX q → H1[q]? = H[q]?) → va_S A0 H0 H1 locs1 → H1[q9]? = some ce → ce.vm = .none → s.vm.findClass E = some ce.cls → vx_W p l e R s m args below meth c H1 locs1 (cells + mc) (slots + ms) Q (F0 m pc ls rest) q9)
    (kk : ∀ (r : UInt32) (u : S) (t : State) (H1 : Heap) (locs1 : List Loc), t.heap = H1 → s.vm.Alike t.vm → post r u → B u t → H.size ≤ H1.size → (∀ q : Nat, q < H.size → ¬ A1 q → H1[q]? = H[q]?) → va_S A0 H0 H1 locs1 → W p l e R s m args below meth c H1 locs1 (cells + mc) (slots + ms) Q (F0 m (pc + 3) ls (.float r :: rest))) : W p l e R s m args below meth c H locs cells slots Q (F0 m pc ls st0) := by
  intro T hT X
  rcases hr T hT X with ⟨v, st₀, t, T', L, h0, X', hL, e1, e2, ⟨⟨r, u, hv, hp, hb⟩, hF⟩, st⟩ | ⟨q, st₀, t, T', L, E, ce, h0, X', hL, e1, e2, ⟨u, hp, hb, hF⟩, hce, hcv, hcl, st⟩
  · cases hv
    obtain ⟨k1, k2, k3⟩ := vx_keep h0 e1 hS hA hf hL hF
    obtain ⟨t2, a1, b1⟩ := kk r u t T'.heap (locs ++ L) e1.symm (by rw [← e2]; exact X'.warmed.alike) hp hb k1 k2 k3 T' rfl X'
    exact ⟨t2, st t2 a1, b1⟩
  · obtain ⟨k1, k2, k3⟩ := vx_keep h0 e1 hS hAX hf hL hF
    obtain ⟨t2, a1, b1⟩ := kx E ce q u t T'.heap (locs ++ L) e1.symm (by rw [← e2]; exact X'.warmed.alike) hp hb k1 k2 k3 (by rw [e1]; exact hce) hcv hcl T' rfl X'
    exact ⟨t2, st.trans a1, b1⟩
theorem vx_calld {S SX : Type} {post : UInt64 → S → Prop} {px : SX → Prop} {B : S → State → Prop} {BX : String → SX → State → Prop} {AX : Nat → Prop} (hr : vx_Run p l e R s m args below meth c H locs cells slots mc ms (F0 m pc ls st0) rest (va_Qd post B A1 a) (vx_X px BX AX) free) (hS : va_S A0 H0 H locs) (hA : ∀ q, q < H.size → A1 q → A0 q) (hf : ∀ q, free q → A0 q) (hAX : ∀ q, q < H.size → AX q → A0 q)
    (kx : ∀ (E : String) (ce : Cell) (q9 : Addr) (u : SX) (t : State) (H1 : Heap) (locs1 : List Loc), t.heap = H1 → s.vm.Alike t.vm → px u → BX E u t → H.size ≤ H1.size → (∀ q : Nat, q < H.size → ¬ AX q → H1[q]? = H[q]?) → va_S A0 H0 H1 locs1 → H1[q9]? = some ce → ce.vm = .none → s.vm.findClass E = some ce.cls → vx_W p l e R s m args below meth c H1 locs1 (cells + mc) (slots + ms) Q (F0 m pc ls rest) q9)
    (kk : ∀ (r : UInt64) (u : S) (t : State) (H1 : Heap) (locs1 : List Loc), t.heap = H1 → s.vm.Alike t.vm → post r u → B u t → H.size ≤ H1.size → (∀ q : Nat, q < H.size → ¬ A1 q → H1[q]? = H[q]?) → va_S A0 H0 H1 locs1 → W p l e R s m args below meth c H1 locs1 (cells + mc) (slots + ms) Q (F0 m (pc + 3) ls (.double r :: rest))) : W p l e R s m args below meth c H locs cells slots Q (F0 m pc ls st0) := by
  intro T hT X
  rcases hr T hT X with ⟨v, st₀, t, T', L, h0, X', hL, e1, e2, ⟨⟨r, u, hv, hp, hb⟩, hF⟩, st⟩ | ⟨q, st₀, t, T', L, E, ce, h0, X', hL, e1, e2, ⟨u, hp, hb, hF⟩, hce, hcv, hcl, st⟩
  · cases hv
    obtain ⟨k1, k2, k3⟩ := vx_keep h0 e1 hS hA hf hL hF
    obtain ⟨t2, a1, b1⟩ := kk r u t T'.heap (locs ++ L) e1.symm (by rw [← e2]; exact X'.warmed.alike) hp hb k1 k2 k3 T' rfl X'
    exact ⟨t2, st t2 a1, b1⟩
  · obtain ⟨k1, k2, k3⟩ := vx_keep h0 e1 hS hAX hf hL hF
    obtain ⟨t2, a1, b1⟩ := kx E ce q u t T'.heap (locs ++ L) e1.symm (by rw [← e2]; exact X'.warmed.alike) hp hb k1 k2 k3 (by rw [e1]; exact hce) hcv hcl T' rfl X'
    exact ⟨t2, st.trans a1, b1⟩
theorem vx_callv {S SX : Type} {post : S → Prop} {px : SX → Prop} {B : S → State → Prop} {BX : String → SX → State → Prop} {AX : Nat → Prop} (hr : vx_Run p l e R s m args below meth c H locs cells slots mc ms (F0 m pc ls st0) rest (va_Qv post B A1 a) (vx_X px BX AX) free) (hS : va_S A0 H0 H locs) (hA : ∀ q, q < H.size → A1 q → A0 q) (hf : ∀ q, free q → A0 q) (hAX : ∀ q, q < H.size → AX q → A0 q)
    (kx : ∀ (E : String) (ce : Cell) (q9 : Addr) (u : SX) (t : State) (H1 : Heap) (locs1 : List Loc), t.heap = H1 → s.vm.Alike t.vm → px u → BX E u t → H.size ≤ H1.size → (∀ q : Nat, q < H.size → ¬ AX q → H1[q]? = H[q]?) → va_S A0 H0 H1 locs1 → H1[q9]? = some ce → ce.vm = .none → s.vm.findClass E = some ce.cls → vx_W p l e R s m args below meth c H1 locs1 (cells + mc) (slots + ms) Q (F0 m pc ls rest) q9)
    (kk : ∀ (u : S) (t : State) (H1 : Heap) (locs1 : List Loc), t.heap = H1 → s.vm.Alike t.vm → post u → B u t → H.size ≤ H1.size → (∀ q : Nat, q < H.size → ¬ A1 q → H1[q]? = H[q]?) → va_S A0 H0 H1 locs1 → W p l e R s m args below meth c H1 locs1 (cells + mc) (slots + ms) Q (F0 m (pc + 3) ls (rest))) : W p l e R s m args below meth c H locs cells slots Q (F0 m pc ls st0) := by
  intro T hT X
  rcases hr T hT X with ⟨v, st₀, t, T', L, h0, X', hL, e1, e2, ⟨⟨u, hv, hp, hb⟩, hF⟩, st⟩ | ⟨q, st₀, t, T', L, E, ce, h0, X', hL, e1, e2, ⟨u, hp, hb, hF⟩, hce, hcv, hcl, st⟩
  · cases hv
    obtain ⟨k1, k2, k3⟩ := vx_keep h0 e1 hS hA hf hL hF
    obtain ⟨t2, a1, b1⟩ := kk u t T'.heap (locs ++ L) e1.symm (by rw [← e2]; exact X'.warmed.alike) hp hb k1 k2 k3 T' rfl X'
    exact ⟨t2, st t2 a1, b1⟩
  · obtain ⟨k1, k2, k3⟩ := vx_keep h0 e1 hS hAX hf hL hF
    obtain ⟨t2, a1, b1⟩ := kx E ce q u t T'.heap (locs ++ L) e1.symm (by rw [← e2]; exact X'.warmed.alike) hp hb k1 k2 k3 (by rw [e1]; exact hce) hcv hcl T' rfl X'
    exact ⟨t2, st.trans a1, b1⟩
/-- caught by the row x of this method's table; the rows ahead don't take it -/
theorem vx_catch {own name : String} {E : String} {ce : Cell} {q : Addr} (hown : s.vm.findClass own = some m.cls) (pre : List ExceptionTableEntry) (x : ExceptionTableEntry) (suf : List ExceptionTableEntry) (hsplit : c.exceptionTable.toList = pre ++ x :: suf)
    (hpass : ∀ z ∈ pre, covers z pc = false ∨ (z.catchType ≠ 0 ∧ ∃ nm : String, (Cond.classLink own z.catchType nm).before args s = true ∧ va_Nc E nm s)) (hx : covers x pc = true) (h0 : x.catchType ≠ 0)
    (hlink : (Cond.classLink own x.catchType name).before args s = true) (hcast : (Cond.castable E name).before args s = true) (hcell : H[q]? = some ce) (hv : ce.vm = .none) (hcl : s.vm.findClass E = some ce.cls)
    (kk : W p l e R s m args below meth c H locs cells slots Q (F0 m x.handlerPc ls [.ref q])) : vx_W p l e R s m args below meth c H locs cells slots Q (F0 m pc ls rest) q := by
  intro T hT X
  have hpl : e.platform.magicAccessors = ({} : Platform).magicAccessors := by rw [X.admits.platform]
  obtain ⟨c3, c4, hc3, hc4, hasg⟩ := Cond.castable_spec hcast
  cases Option.some.inj (hc3.symm.trans hcl)
  obtain ⟨c5, hc5, hcl5⟩ := Cond.classLink_spec hown hlink e.platform hpl
  cases Option.some.inj (hc4.symm.trans hc5)
  obtain ⟨vm', X', st⟩ := X.thenCaughtThrough q (g := F0 m pc ls rest) rfl (Steps.refl _) (by rw [hT]; exact hcell) (by rw [hv]; rfl) (by obtain ⟨k9, h9, -⟩ := Vm.findClass_spec hcl; exact ⟨k9, h9⟩) pre x suf hsplit
    (fun z hz => by
      rcases hpass z hz with h | ⟨hz0, nm, hl1, hn1⟩
      · exact Or.inl h
      · obtain ⟨c6, hc6, hcl6⟩ := Cond.classLink_spec hown hl1 e.platform hpl
        obtain ⟨a8, b8, h1, h2, h3⟩ := hn1
        cases Option.some.inj (h1.symm.trans hcl)
        cases Option.some.inj (h2.symm.trans hc6)
        exact Or.inr ⟨hz0, _, hcl6, h3⟩) hx (Or.inr ⟨h0, c4, hcl5, hasg⟩)
  obtain ⟨t, a1, b1⟩ := kk (T.setVm vm') hT X'
  exact ⟨t, st.trans a1, b1⟩
end Rows
section Ends
variable {p : Program} {l : Launch} {e : Env} {R : Room} {s : State} {m : MethodId} {args : Array Value} {below : List Frame} {meth : Method} {c : Code} {H : Heap} {locs : List Loc} {cells slots : Nat} {Q : State → Prop}
variable {mc ms : Nat} {free : Addr → Prop} {A0 A1 : Nat → Prop} {H0 : Heap} {a : Array Value} {ls : Array Slot} {st0 rest : List Value}
variable {Qc : Array Value → State → Outcome → State → Prop} {XC : String → State → State → Prop}
/-- what a body that may throw owes at its end -/
def vx_MQ (below : List Frame) (Qc : Array Value → State → Outcome → State → Prop) (XC : String → State → State → Prop) (a : Array Value) (s : State) (mc ms : Nat) (free : Addr → Prop) : State → Prop := fun t =>
  ∃ o, t.status = .running ∧ Ended t below o ∧ vx_Q Qc XC mc ms free a s o t
theorem vx_ret {g : JFrame} {mc ms : Nat} (k : W p l e R s m args below meth c H locs cells slots (MQ below Qc args s mc ms free) g) : W p l e R s m args below meth c H locs cells slots (vx_MQ below Qc XC args s mc ms free) g := by
  intro T hT X
  obtain ⟨t, a1, o, b1, b2, b3, b4⟩ := k T hT X
  exact ⟨t, a1, o, b1, b2, Or.inl ⟨b3, b4⟩⟩
/-- not caught here: it goes on to the caller -/
theorem vx_widen {g : JFrame} {q : Addr} {k n : Nat} (h1 : cells ≤ k) (h2 : slots ≤ n) (kk : vx_W p l e R s m args below meth c H locs k n Q g q) : vx_W p l e R s m args below meth c H locs cells slots Q g q := fun T hT X => kk T hT (stand_widen X h1 h2)
theorem vx_out {pc : Nat} {E : String} {ce : Cell} {q : Addr} {mc ms : Nat} (hout : ∀ x ∈ c.exceptionTable.toList, covers x pc = false) (hlocks : meth.locks = false) (hcell : H[q]? = some ce) (hv : ce.vm = .none) (hcl : s.vm.findClass E = some ce.cls)
    (hx : ∀ t : State, t.heap = H → s.vm.Alike t.vm → XC E s t) (hf : ∀ z ∈ locs, free z.base) (hc : cells ≤ mc) (hs : slots ≤ ms) :
    vx_W p l e R s m args below meth c H locs cells slots (vx_MQ below Qc XC args s mc ms free) (F0 m pc ls rest) q := by
  intro T hT X
  obtain ⟨st1, hrun, hend, hW, hsm⟩ := X.leaveThrown q (g := F0 m pc ls rest) rfl rfl rfl hout hlocks
  have hcell9 : (T.setFrames (.throwing q :: below)).heap[q]? = some ce := by
    show T.heap[q]? = some ce
    rw [hT]; exact hcell
  exact ⟨_, st1, .threw q, hrun, hend, Or.inr ⟨q, rfl, E, ce, locs, hx _ hT hW.alike, hcell9, hv, hcl, hW, hsm.mono hc hs, hf⟩⟩
theorem vx_frame {U : State} {k n : Nat} (h : s.sameButNew ({ U with vm := s.vm } : State) locs k n) : s.heap.size ≤ U.heap.size ∧ ∀ q : Nat, q < s.heap.size → (∀ z ∈ locs, z.base ≠ q) → U.heap[q]? = s.heap[q]? := by
  obtain ⟨-, h2, -, -, -, h6⟩ := h
  refine ⟨h2, fun q hq hz => ?_⟩
  obtain ⟨c9, e1, e2, e3, e4⟩ := h6 q _ (Array.getElem?_eq_getElem hq)
  have hs : c9.slots = (s.heap[q]).slots := Array.ext_getElem? fun i => e4 i fun hm => hz _ hm rfl
  have h9 : c9 = s.heap[q] := by
    rw [hs] at e2
    exact e2
  have e5 : U.heap[q]? = some c9 := e1
  rw [e5, h9, Array.getElem?_eq_getElem hq]
/-- the words of a throw but the four that speak of the heap -/
def vx_no (w : Cond) : Bool := decide (w ≠ .isRef (.static Bundle.tN "UNASSIGNED_STACK" Bundle.steD)) && decide (w ≠ .isRef (.static Bundle.tN "SUPPRESSED_SENTINEL" Bundle.listD)) && decide (w ≠ .laysStatic Bundle.tN "UNASSIGNED_STACK" Bundle.steD) && decide (w ≠ .laysStatic Bundle.tN "SUPPRESSED_SENTINEL" Bundle.listD)
def vx_at0 (own : String) (ic : Nat) (X : String) (names : List String) : List Cond := (Bundle.ownAtoms0 own ic X names).filter vx_no
def vx_atS (own : String) (ic : Nat) (X : String) (names : List String) : List Cond := (Bundle.ownAtoms own ic X names).filter vx_no
/-- a word that the tables alone decide, or a good one -/
def vx_ot (w : Cond) : Bool := w.onTables || goodWord w
theorem vx_ot_at {args a' : Array Value} {s U : State} {w : Cond} (hW : s.WarmedH U.vm) (hvm : s.vm = U.vm) (hg : vx_ot w = true) (h : w.before args s = true) : w.before a' U = true := by
  simp only [vx_ot, Bool.or_eq_true] at hg
  rcases hg with hg | hg
  · exact va_tabs hg hvm h
  · exact word_at hW (good_of_word hg) h
/-- a list's words: the good ones out of the method's own list, the others by premises of their own -/
theorem vx_hat {args : Array Value} {s : State} {L B : List Cond} (h1 : ∀ w ∈ L.filter goodWord, w.before args s = true) (h2 : ∀ w ∈ L.filter (fun w => !goodWord w), w ∈ B) (h3 : ∀ w ∈ B, w.before args s = true) : ∀ w ∈ L, w.before args s = true := by
  intro w hw
  by_cases g : goodWord w = true
  · exact h1 w (List.mem_filter.mpr ⟨hw, g⟩)
  · refine h3 w (h2 w (List.mem_filter.mpr ⟨hw, ?_⟩))
    show (!goodWord w) = true
    cases hgw : goodWord w
    · rfl
    · exact absurd hgw g
theorem vx_c {args : Array Value} {s : State} {w : Cond} {B : List Cond} (h : w.before args s = true) (t : ∀ w ∈ B, w.before args s = true) : ∀ w' ∈ w :: B, w'.before args s = true := fun w' h' => (List.mem_cons.mp h').elim (fun e => by rw [e]; exact h) (t w')
theorem vx_n {args : Array Value} {s : State} : ∀ w ∈ ([] : List Cond), w.before args s = true := fun _ h => nomatch h
theorem vx_own {args : Array Value} {s : State} {L : List Cond} (h1 : ∀ w ∈ L.filter vx_no, w.before args s = true)
    (hU : (Cond.isRef (.static Bundle.tN "UNASSIGNED_STACK" Bundle.steD)).before args s = true) (hN : (Cond.isRef (.static Bundle.tN "SUPPRESSED_SENTINEL" Bundle.listD)).before args s = true)
    (lU : (Cond.laysStatic Bundle.tN "UNASSIGNED_STACK" Bundle.steD).before args s = true) (lN : (Cond.laysStatic Bundle.tN "SUPPRESSED_SENTINEL" Bundle.listD).before args s = true) : ∀ w ∈ L, w.before args s = true := by
  intro w hw
  by_cases e1 : w = .isRef (.static Bundle.tN "UNASSIGNED_STACK" Bundle.steD)
  · rw [e1]; exact hU
  · by_cases e2 : w = .isRef (.static Bundle.tN "SUPPRESSED_SENTINEL" Bundle.listD)
    · rw [e2]; exact hN
    · by_cases e3 : w = .laysStatic Bundle.tN "UNASSIGNED_STACK" Bundle.steD
      · rw [e3]; exact lU
      · by_cases e4 : w = .laysStatic Bundle.tN "SUPPRESSED_SENTINEL" Bundle.listD
        · rw [e4]; exact lN
        · exact h1 w (List.mem_filter.mpr ⟨hw, by unfold vx_no; rw [decide_eq_true e1, decide_eq_true e2, decide_eq_true e3, decide_eq_true e4]; rfl⟩)
/-- where a static field lies, its class's statics cell in H -/
def vx_L (C n d : String) (A : Nat → Prop) (U : State) (H : Heap) : Prop := ∃ (c : ClassId) (k : Class) (i : Nat) (f : Field) (a : Nat) (cell : Cell), U.vm.findClass C = some c ∧ U.fieldFound? C n d = some (c, k, i, f) ∧ f.isStatic = true ∧ k.statics = some a ∧ H[a]? = some cell ∧ cell.vm.isStatics = true ∧ cell.cls = c ∧ f.slot < cell.slots.size ∧ k.staticTypes[f.slot]? = some f.type ∧ ¬ A a
theorem vx_L.moved {C n d : String} {A : Nat → Prop} {u U : State} {H : Heap} (hvm : u.vm.Alike U.vm) (h : vx_L C n d A u H) : vx_L C n d A U H := by
  obtain ⟨c, k, i, f, a, cell, h1, h2, h3, h4, h5, h6, h7, h8, h9, h10⟩ := h
  obtain ⟨k', hi', he⟩ := State.fieldFound?_setVm hvm h2
  exact ⟨c, k', i, f, a, cell, by rw [hvm.findClass]; exact h1, hi', h3, by rw [he]; exact h4, h5, h6, h7, h8, by rw [he]; exact h9, h10⟩
theorem vx_L.kept {C n d : String} {A : Nat → Prop} {U : State} {H H1 : Heap} (h : vx_L C n d A U H) (hq : ∀ a : Nat, a < H.size → ¬ A a → H1[a]? = H[a]?) : vx_L C n d A U H1 := by
  obtain ⟨c, k, i, f, a, cell, h1, h2, h3, h4, h5, h6, h7, h8, h9, h10⟩ := h
  exact ⟨c, k, i, f, a, cell, h1, h2, h3, h4, by rw [hq a (Array.getElem?_eq_some_iff.mp h5).1 h10]; exact h5, h6, h7, h8, h9, h10⟩
theorem vx_L.narrow {C n d : String} {A B : Nat → Prop} {U : State} {H : Heap} (h : vx_L C n d A U H) (hAB : ∀ q, B q → A q) : vx_L C n d B U H := by
  obtain ⟨c, k, i, f, a, cell, h1, h2, h3, h4, h5, h6, h7, h8, h9, h10⟩ := h
  exact ⟨c, k, i, f, a, cell, h1, h2, h3, h4, h5, h6, h7, h8, h9, fun z => h10 (hAB _ z)⟩
theorem vx_L.word {C n d : String} {A : Nat → Prop} {s : State} {args : Array Value} (h : vx_L C n d A s s.heap) : (Cond.laysStatic C n d).before args s = true := by
  obtain ⟨c, k, i, f, a, cell, h1, h2, h3, h4, h5, h6, h7, h8, h9, -⟩ := h
  show (Cond.laysStatic C n d).holds args s none s [] = true
  exact Cond.laysStatic_of h1 h2 h3 h4 h5 h6 h7 h8 h9
/-- .. and what it holds: null or some reference -/
def vx_Zq (C n d : String) (A : Nat → Prop) (U : State) (H : Heap) : Prop := va_Zq C n d A U H ∧ vx_L C n d A U H
theorem vx_Zq.moved {C n d : String} {A : Nat → Prop} {u U : State} {H : Heap} (hvm : u.vm.Alike U.vm) (h : vx_Zq C n d A u H) : vx_Zq C n d A U H := ⟨va_Zq.moved hvm h.1, vx_L.moved hvm h.2⟩
theorem vx_Zq.kept {C n d : String} {A : Nat → Prop} {U : State} {H H1 : Heap} (h : vx_Zq C n d A U H) (hq : ∀ a : Nat, a < H.size → ¬ A a → H1[a]? = H[a]?) : vx_Zq C n d A U H1 := ⟨va_Zq.kept h.1 hq, vx_L.kept h.2 hq⟩
theorem vx_Zq.narrow {C n d : String} {A B : Nat → Prop} {U : State} {H : Heap} (h : vx_Zq C n d A U H) (hAB : ∀ q, B q → A q) : vx_Zq C n d B U H := ⟨va_Zq.narrow h.1 hAB, vx_L.narrow h.2 hAB⟩
theorem vx_Zqof {args : Array Value} {s : State} {C n d : String} {A : Nat → Prop} (hl : (Cond.laysStatic C n d).before args s = true) (hini : (Cond.initialized C).before args s = true) (h : (Cond.isRef (.static C n d)).before args s = true) (hA : ∀ a : Nat, a < s.heap.size → ¬ A a) : vx_Zq C n d A s s.heap := by
  refine ⟨va_Zqof hl hini h hA, ?_⟩
  obtain ⟨c, k, i, f, a, cell, h1, h2, h3, h4, h5, h6, h7, h8, h9⟩ := Cond.laysStatic_spec hl
  exact ⟨c, k, i, f, a, cell, h1, h2, h3, h4, h5, h6, h7, h8, h9, hA a (Array.getElem?_eq_some_iff.mp h5).1⟩
theorem vx_isRef {C n d : String} {v : Value} {A : Nat → Prop} {s : State} {args : Array Value} (h : va_Z C n d v A s s.heap) (hv : v.isRef = true) : (Cond.isRef (.static C n d)).before args s = true := by
  obtain ⟨cf, kf, fi, f, a, cell, h1, h2, h3, h4, h5, h6, h7, -⟩ := h
  have he : (Term.static C n d).eval args s none [] s = some v := by
    simp [Term.eval, State.fieldNamed?, h1, h2, h4, h5, h6, h7]
  simp only [Cond.before, Cond.holds, Cond.value, he]
  cases v <;> simp_all [Value.isRef]
theorem vx_isRefq {C n d : String} {A : Nat → Prop} {s : State} {args : Array Value} (h : va_Zq C n d A s s.heap) : (Cond.isRef (.static C n d)).before args s = true := by
  rcases h with h | ⟨t, h⟩
  · exact vx_isRef h rfl
  · exact vx_isRef h rfl
/-- the same frame, seen from here: as if the method were called anew in this heap -/
theorem vx_rebase {T : State} (X : Stand p l e R s m args below meth c T locs cells slots) {R' : Room} (hf : R'.frames ≤ R.frames) (hl : R'.locals ≤ R.locals) (hc : cells + R'.cells ≤ R.cells) (hs : slots + R'.slots ≤ R.slots) :
    Stand p l e R' ((T.setVm s.vm).setFrames (.invoking m args :: below)) m args below meth c T [] 0 0 := by
  have htop : (T.setVm s.vm).topJava?.isSome := X.here.top
  have hF : ((T.setVm s.vm).setFrames (.invoking m args :: below)).frames = .invoking m args :: below := State.frames_setFrames _ (State.cur_lt_of_top htop)
  obtain ⟨g₀, hg0⟩ := Option.isSome_iff_exists.mp htop
  obtain ⟨r, hr⟩ := State.topJava?_eq_some.mp hg0
  have hl9 : e.platform.stackLimits (T.setVm s.vm).me = e.platform.stackLimits s.me := X.limits
  have hb9 : (T.setVm s.vm).me.stackBytes = s.me.stackBytes := X.bytes
  refine ⟨X.admits, X.cas, X.clock, hF, ?_, X.hears, X.method, X.code, X.here, X.tail, X.warmed, ?_, ?_, ?_⟩
  · have h := X.room
    have hU : ((T.setVm s.vm).setFrames (.invoking m args :: below)).localsInUse = s.localsInUse := by
      rw [State.localsInUse_invoking hF (meth := meth) (c := c) X.method X.code, State.localsInUse_invoking X.frames X.method X.code]
    simp only [State.hasRoom, Bool.and_eq_true, decide_eq_true_eq] at h ⊢
    obtain ⟨⟨⟨⟨h1, h2, h3, h4, h5, h6⟩, h7⟩, h8⟩, h9⟩ := h
    rw [X.frames, List.length_cons] at h2 h3
    have q1 := X.heapSize
    have q2 := X.used
    simp only [hF, hU, List.length_cons, State.stackLimits_setFrames, State.stackBytes_setFrames, hl9, hb9]
    refine ⟨⟨⟨⟨by omega, by omega, by omega, by omega, by omega, h6⟩, ?_⟩, ?_⟩, X.book⟩
    · show T.heap.size + R'.cells ≤ e.platform.maxCells
      omega
    · show T.slotsUsed + R'.slots ≤ e.platform.maxSlots
      omega
  · rw [State.stackLimits_setFrames]; rfl
  · rw [State.stackBytes_setFrames]; rfl
  · refine ⟨?_, Nat.le_refl _, Nat.le_refl _, ?_, ?_, fun a c9 h9 => ⟨c9, h9, rfl, rfl, fun _ _ => rfl⟩⟩
    · obtain ⟨t, ht, -⟩ := State.frames_cons hr
      show T.setVm s.vm = { ((T.setVm s.vm).setFrames (.invoking m args :: below)).setFrames (T.setVm s.vm).frames with heap := T.heap, slotsUsed := T.slotsUsed }
      rw [State.setFrames_setFrames, State.setFrames_self ht]
      rfl
    · show T.slotsUsed = T.slotsUsed + ((T.heap.toList.drop T.heap.size).map (·.slots.size)).sum
      rw [List.drop_eq_nil_of_le (Nat.le_of_eq Array.length_toList)]
      rfl
    · show ((T.heap.toList.drop T.heap.size).map (·.slots.size)).sum ≤ 0
      rw [List.drop_eq_nil_of_le (Nat.le_of_eq Array.length_toList)]
      exact Nat.le_refl _
/-- 'throw new E()': new; dup; invokespecial; athrow -/
theorem vx_throw0 {cc : ByteArray} {pc : Nat} (hexec : p.tables.exec = Jvm.exec) (hb : c.code = cc) (hl : l.stackTraces = false) {own cls : String} {names : List String} {ik ic mc ms : Nat} {A : Nat → Prop}
    (hown : s.vm.findClass own = some m.cls) (hcls : Bundle.fit cls = true) (hnames : ∀ n ∈ names, Bundle.fit n = true)
    (hk : (Cond.classLink own ik cls).before args s = true) (hini : (Cond.initialized cls).before args s = true) (hat : ∀ w ∈ vx_at0 own ic cls names, w.before args s = true)
    (hgood : ∀ w ∈ Cond.classLink own ik cls :: Cond.initialized cls :: vx_at0 own ic cls names, vx_ot w = true)
    (hU : vx_Zq Bundle.tN "UNASSIGNED_STACK" Bundle.steD A s s.heap) (hN : vx_Zq Bundle.tN "SUPPRESSED_SENTINEL" Bundle.listD A s s.heap) (hS : va_S A s.heap H locs) (hsize : ls.size = c.maxLocals)
    (d0 : decode cc pc = .ok (.new ik, 3)) (d3 : decode cc (pc + 3) = .ok (.dup, 1)) (d4 : decode cc (pc + 4) = .ok (.invokespecial ic, 3)) (d7 : decode cc (pc + 7) = .ok (.athrow, 1))
    (hout : ∀ x ∈ c.exceptionTable.toList, covers x (pc + 7) = false)
    (hRframes : names.length + 3 < R.frames) (hRlocals : (rest.map fun v => v.category).sum + (13 * (names.length + 1) + 42) ≤ R.locals) (hRcells : cells + 1 ≤ R.cells) (hRslots : slots + 6 ≤ R.slots) (hlocks : meth.locks = false)
    (hx : ∀ t : State, s.vm.Alike t.vm → H.size ≤ t.heap.size → (∀ q : Nat, q < H.size → t.heap[q]? = H[q]?) → XC cls s t)
    (hf : ∀ z ∈ locs, free z.base) (hc : cells + 1 ≤ mc) (hs : slots + 6 ≤ ms) :
    W p l e R s m args below meth c H locs cells slots (vx_MQ below Qc XC args s mc ms free) (F0 m pc ls rest) := by
  intro T hT X
  have htr : e.platform.stackTraces = false := (show e.platform.stackTraces = l.stackTraces by rw [X.admits.platform]).trans hl
  have Y := vx_rebase X (R' := { frames := R.frames, locals := R.locals, cells := 1, slots := 6 }) (Nat.le_refl _) (Nat.le_refl _) hRcells hRslots
  obtain ⟨s', hA⟩ : ∃ z, z = (T.setVm s.vm).setFrames (.invoking m args :: below) := ⟨_, rfl⟩
  rw [← hA] at Y
  have hvm : s'.vm = s.vm := by rw [hA]; rfl
  have hhp : s'.heap = H := by rw [hA]; exact hT
  have hW0 : s.WarmedH s'.vm := by rw [hvm]; exact State.WarmedH.refl s
  have hat' : ∀ w ∈ vx_at0 own ic cls names, w.before args s' = true := fun w hw => vx_ot_at hW0 hvm.symm (hgood w (List.mem_cons_of_mem _ (List.mem_cons_of_mem _ hw))) (hat w hw)
  have hk' : (Cond.classLink own ik cls).before args s' = true := vx_ot_at hW0 hvm.symm (hgood _ List.mem_cons_self) hk
  have hini' : (Cond.initialized cls).before args s' = true := vx_ot_at hW0 hvm.symm (hgood _ (List.mem_cons_of_mem _ List.mem_cons_self)) hini
  have hU' : vx_Zq Bundle.tN "UNASSIGNED_STACK" Bundle.steD A s' s'.heap := by rw [hhp]; exact vx_Zq.moved hW0.alike (hU.kept hS.2.1)
  have hN' : vx_Zq Bundle.tN "SUPPRESSED_SENTINEL" Bundle.listD A s' s'.heap := by rw [hhp]; exact vx_Zq.moved hW0.alike (hN.kept hS.2.1)
  have h : ∀ w ∈ Bundle.ownAtoms0 own ic cls names, w.before args s' = true := vx_own hat' (vx_isRefq hU'.1) (vx_isRefq hN'.1) hU'.2.word hN'.2.word
  have hown' : s'.vm.findClass own = some m.cls := by rw [hvm]; exact hown
  have hins : (Cond.instantiable cls 6).before args s' = true := h _ (by simp [Bundle.ownAtoms0])
  obtain ⟨vm₁, cX, kX, hfX, hkX, -, -, X₁, st1⟩ := Y.newCold hexec (own := own) (C := cls) (index := ik) (n := 6) hown' hk' hins hini'
    (g := F0 m pc ls rest) rfl (by rw [hb]; exact d0) (Nat.le_refl _) (Nat.le_refl _)
  generalize hT1 : (T.setVm vm₁).pushCell { cls := cX, slots := kX.instanceTypes.map defaultValue, vm := .none } = T1 at X₁ st1
  have hcat : (Value.ref T.heap.size).category = 1 := rfl
  have hcellA : T1.heap[T.heap.size]? = some (freshCell cX kX) := by rw [← hT1]; exact State.heap_pushCell_size _ _
  have d3' : decode c.code (pc + 3) = .ok (.dup, 1) := by rw [hb]; exact d3
  obtain ⟨U, hsteps, hrun, hend, hW, hsame, ce, hce, hO⟩ := X₁.ctorThrow0 hexec htr (own := own) (cls := cls) (names := names) (ic := ic) hown' hcls hnames h (fun x hx => nomatch hx) hfX hkX hcellA (by rw [hhp, hT]; exact Nat.le_refl _)
    (g := { method := m, pc := pc + 4, locals := ls, stack := .ref T.heap.size :: .ref T.heap.size :: rest, locked := none }) rfl hsize rfl rfl (rest := rest) rfl
    (by rw [hb]; exact d4) (by rw [hb]; exact d7) hout hRframes (by simp only [List.map_cons, List.sum_cons, hcat]; omega) hlocks
  obtain ⟨f1, f2⟩ := vx_frame hsame
  rw [hhp] at f1 f2
  have hWs : s.WarmedH U.vm := State.WarmedH.trans hW0 hW
  have hcl : s.vm.findClass cls = some ce.cls := by
    have h9 := hO.cls
    rw [hvm] at h9
    exact h9
  have hall : s.sameButNew ({ U with vm := s.vm } : State) locs mc ms := by
    subst hA
    obtain ⟨e1, e2⟩ := hsame
    rw [State.setFrames_setFrames] at e1
    have h2 : (T.setVm s.vm).sameButNew ({ U with vm := s.vm } : State) [] (0 + 1) (0 + 6) := ⟨e1, e2⟩
    have h3 := X.same.trans h2
    rw [List.append_nil] at h3
    exact h3.mono hc hs
  refine ⟨U, ?_, .threw T.heap.size, hrun, hend, Or.inr ⟨T.heap.size, rfl, cls, ce, locs, hx U hWs.alike f1 (fun q hq => f2 q hq (fun z hz => nomatch hz)), hce, hO.vm, hcl, hWs, hall, hf⟩⟩
  refine st1 _ ?_
  show Steps p.tables e below (T1.setTop { method := m, pc := pc + 3, locals := ls, stack := .ref T.heap.size :: rest, locked := none }) _
  jvm_step X₁.here [X₁.here.top, hexec, d3', Value.category]
  exact hsteps
/-- 'throw new E("text")': new; dup; ldc; invokespecial; athrow -/
theorem vx_throwS {cc : ByteArray} {pc : Nat} (hexec : p.tables.exec = Jvm.exec) (hb : c.code = cc) (hl : l.stackTraces = false) {own cls text : String} {names : List String} {ik is ic mc ms sa : Nat} {A : Nat → Prop}
    (hown : s.vm.findClass own = some m.cls) (hcls : Bundle.fit cls = true) (hnames : ∀ n ∈ names, Bundle.fit n = true)
    (hk : (Cond.classLink own ik cls).before args s = true) (hini : (Cond.initialized cls).before args s = true) (hstr : vk_R own is text sa s) (hat : ∀ w ∈ vx_atS own ic cls names, w.before args s = true)
    (hgood : ∀ w ∈ Cond.classLink own ik cls :: Cond.initialized cls :: vx_atS own ic cls names, vx_ot w = true)
    (hU : vx_Zq Bundle.tN "UNASSIGNED_STACK" Bundle.steD A s s.heap) (hN : vx_Zq Bundle.tN "SUPPRESSED_SENTINEL" Bundle.listD A s s.heap) (hS : va_S A s.heap H locs) (hsize : ls.size = c.maxLocals)
    (d0 : decode cc pc = .ok (.new ik, 3)) (d3 : decode cc (pc + 3) = .ok (.dup, 1)) (d4 : decode cc (pc + 4) = .ok (.ldc is, 2)) (d6 : decode cc (pc + 6) = .ok (.invokespecial ic, 3)) (d9 : decode cc (pc + 9) = .ok (.athrow, 1))
    (hout : ∀ x ∈ c.exceptionTable.toList, covers x (pc + 9) = false)
    (hRframes : names.length + 3 < R.frames) (hRlocals : (rest.map fun v => v.category).sum + (13 * (names.length + 1) + 43) ≤ R.locals) (hRcells : cells + 1 ≤ R.cells) (hRslots : slots + 6 ≤ R.slots) (hlocks : meth.locks = false)
    (hx : ∀ t : State, s.vm.Alike t.vm → H.size ≤ t.heap.size → (∀ q : Nat, q < H.size → t.heap[q]? = H[q]?) → XC cls s t)
    (hf : ∀ z ∈ locs, free z.base) (hc : cells + 1 ≤ mc) (hs : slots + 6 ≤ ms) :
    W p l e R s m args below meth c H locs cells slots (vx_MQ below Qc XC args s mc ms free) (F0 m pc ls rest) := by
  intro T hT X
  have htr : e.platform.stackTraces = false := (show e.platform.stackTraces = l.stackTraces by rw [X.admits.platform]).trans hl
  have Y := vx_rebase X (R' := { frames := R.frames, locals := R.locals, cells := 1, slots := 6 }) (Nat.le_refl _) (Nat.le_refl _) hRcells hRslots
  obtain ⟨s', hA⟩ : ∃ z, z = (T.setVm s.vm).setFrames (.invoking m args :: below) := ⟨_, rfl⟩
  rw [← hA] at Y
  have hvm : s'.vm = s.vm := by rw [hA]; rfl
  have hhp : s'.heap = H := by rw [hA]; exact hT
  have hW0 : s.WarmedH s'.vm := by rw [hvm]; exact State.WarmedH.refl s
  have hat' : ∀ w ∈ vx_atS own ic cls names, w.before args s' = true := fun w hw => vx_ot_at hW0 hvm.symm (hgood w (List.mem_cons_of_mem _ (List.mem_cons_of_mem _ hw))) (hat w hw)
  have hk' : (Cond.classLink own ik cls).before args s' = true := vx_ot_at hW0 hvm.symm (hgood _ List.mem_cons_self) hk
  have hini' : (Cond.initialized cls).before args s' = true := vx_ot_at hW0 hvm.symm (hgood _ (List.mem_cons_of_mem _ List.mem_cons_self)) hini
  have hU' : vx_Zq Bundle.tN "UNASSIGNED_STACK" Bundle.steD A s' s'.heap := by rw [hhp]; exact vx_Zq.moved hW0.alike (hU.kept hS.2.1)
  have hN' : vx_Zq Bundle.tN "SUPPRESSED_SENTINEL" Bundle.listD A s' s'.heap := by rw [hhp]; exact vx_Zq.moved hW0.alike (hN.kept hS.2.1)
  have h : ∀ w ∈ Bundle.ownAtoms own ic cls names, w.before args s' = true := vx_own hat' (vx_isRefq hU'.1) (vx_isRefq hN'.1) hU'.2.word hN'.2.word
  have hown' : s'.vm.findClass own = some m.cls := by rw [hvm]; exact hown
  have hins : (Cond.instantiable cls 6).before args s' = true := h _ (by simp [Bundle.ownAtoms])
  obtain ⟨vm₁, cX, kX, hfX, hkX, -, -, X₁, st1⟩ := Y.newCold hexec (own := own) (C := cls) (index := ik) (n := 6) hown' hk' hins hini'
    (g := F0 m pc ls rest) rfl (by rw [hb]; exact d0) (Nat.le_refl _) (Nat.le_refl _)
  generalize hT1 : (T.setVm vm₁).pushCell { cls := cX, slots := kX.instanceTypes.map defaultValue, vm := .none } = T1 at X₁ st1
  have hcat : (Value.ref T.heap.size).category = 1 := rfl
  have hcellA : T1.heap[T.heap.size]? = some (freshCell cX kX) := by rw [← hT1]; exact State.heap_pushCell_size _ _
  have d3' : decode c.code (pc + 3) = .ok (.dup, 1) := by rw [hb]; exact d3
  have d4' : decode c.code (pc + 4) = .ok (.ldc is, 2) := by rw [hb]; exact d4
  have hstr' : vk_R own is text sa s' := vk_R.warm hW0 hstr
  obtain ⟨U, hsteps, hrun, hend, hW, hsame, ce, hce, hO⟩ := X₁.ctorThrowS hexec htr (own := own) (cls := cls) (names := names) (ic := ic) hown' hcls hnames h (fun x hx => nomatch hx) hfX hkX hcellA (by rw [hhp, hT]; exact Nat.le_refl _) (msg := .ref sa) rfl
    (g := { method := m, pc := pc + 6, locals := ls, stack := .ref sa :: .ref T.heap.size :: .ref T.heap.size :: rest, locked := none }) rfl hsize rfl rfl (rest := rest) rfl
    (by rw [hb]; exact d6) (by rw [hb]; exact d9) hout hRframes (by simp only [List.map_cons, List.sum_cons, hcat]; omega) hlocks
  obtain ⟨f1, f2⟩ := vx_frame hsame
  rw [hhp] at f1 f2
  have hWs : s.WarmedH U.vm := State.WarmedH.trans hW0 hW
  have hcl : s.vm.findClass cls = some ce.cls := by
    have h9 := hO.cls
    rw [hvm] at h9
    exact h9
  have hall : s.sameButNew ({ U with vm := s.vm } : State) locs mc ms := by
    subst hA
    obtain ⟨e1, e2⟩ := hsame
    rw [State.setFrames_setFrames] at e1
    have h2 : (T.setVm s.vm).sameButNew ({ U with vm := s.vm } : State) [] (0 + 1) (0 + 6) := ⟨e1, e2⟩
    have h3 := X.same.trans h2
    rw [List.append_nil] at h3
    exact h3.mono hc hs
  refine ⟨U, ?_, .threw T.heap.size, hrun, hend, Or.inr ⟨T.heap.size, rfl, cls, ce, locs, hx U hWs.alike f1 (fun q hq => f2 q hq (fun z hz => nomatch hz)), hce, hO.vm, hcl, hWs, hall, hf⟩⟩
  refine st1 _ ?_
  show Steps p.tables e below (T1.setTop { method := m, pc := pc + 3, locals := ls, stack := .ref T.heap.size :: rest, locked := none }) _
  jvm_step X₁.here [X₁.here.top, hexec, d3', Value.category]
  exact X₁.ldcString hexec (own := own) (text := text) (index := is) (a := sa) hown' hstr'.1 hstr'.2
    (g := { method := m, pc := pc + 4, locals := ls, stack := .ref T.heap.size :: .ref T.heap.size :: rest, locked := none }) rfl d4' _ hsteps
/-- 'throw new E("text")', the text by a wide index -/
theorem vx_throwSW {cc : ByteArray} {pc : Nat} (hexec : p.tables.exec = Jvm.exec) (hb : c.code = cc) (hl : l.stackTraces = false) {own cls text : String} {names : List String} {ik is ic mc ms sa : Nat} {A : Nat → Prop}
    (hown : s.vm.findClass own = some m.cls) (hcls : Bundle.fit cls = true) (hnames : ∀ n ∈ names, Bundle.fit n = true)
    (hk : (Cond.classLink own ik cls).before args s = true) (hini : (Cond.initialized cls).before args s = true) (hstr : vk_R own is text sa s) (hat : ∀ w ∈ vx_atS own ic cls names, w.before args s = true)
    (hgood : ∀ w ∈ Cond.classLink own ik cls :: Cond.initialized cls :: vx_atS own ic cls names, vx_ot w = true)
    (hU : vx_Zq Bundle.tN "UNASSIGNED_STACK" Bundle.steD A s s.heap) (hN : vx_Zq Bundle.tN "SUPPRESSED_SENTINEL" Bundle.listD A s s.heap) (hS : va_S A s.heap H locs) (hsize : ls.size = c.maxLocals)
    (d0 : decode cc pc = .ok (.new ik, 3)) (d3 : decode cc (pc + 3) = .ok (.dup, 1)) (d4 : decode cc (pc + 4) = .ok (.ldc_w is, 3)) (d7 : decode cc (pc + 7) = .ok (.invokespecial ic, 3)) (d10 : decode cc (pc + 10) = .ok (.athrow, 1))
    (hout : ∀ x ∈ c.exceptionTable.toList, covers x (pc + 10) = false)
    (hRframes : names.length + 3 < R.frames) (hRlocals : (rest.map fun v => v.category).sum + (13 * (names.length + 1) + 43) ≤ R.locals) (hRcells : cells + 1 ≤ R.cells) (hRslots : slots + 6 ≤ R.slots) (hlocks : meth.locks = false)
    (hx : ∀ t : State, s.vm.Alike t.vm → H.size ≤ t.heap.size → (∀ q : Nat, q < H.size → t.heap[q]? = H[q]?) → XC cls s t)
    (hf : ∀ z ∈ locs, free z.base) (hc : cells + 1 ≤ mc) (hs : slots + 6 ≤ ms) :
    W p l e R s m args below meth c H locs cells slots (vx_MQ below Qc XC args s mc ms free) (F0 m pc ls rest) := by
  intro T hT X
  have htr : e.platform.stackTraces = false := (show e.platform.stackTraces = l.stackTraces by rw [X.admits.platform]).trans hl
  have Y := vx_rebase X (R' := { frames := R.frames, locals := R.locals, cells := 1, slots := 6 }) (Nat.le_refl _) (Nat.le_refl _) hRcells hRslots
  obtain ⟨s', hA⟩ : ∃ z, z = (T.setVm s.vm).setFrames (.invoking m args :: below) := ⟨_, rfl⟩
  rw [← hA] at Y
  have hvm : s'.vm = s.vm := by rw [hA]; rfl
  have hhp : s'.heap = H := by rw [hA]; exact hT
  have hW0 : s.WarmedH s'.vm := by rw [hvm]; exact State.WarmedH.refl s
  have hat' : ∀ w ∈ vx_atS own ic cls names, w.before args s' = true := fun w hw => vx_ot_at hW0 hvm.symm (hgood w (List.mem_cons_of_mem _ (List.mem_cons_of_mem _ hw))) (hat w hw)
  have hk' : (Cond.classLink own ik cls).before args s' = true := vx_ot_at hW0 hvm.symm (hgood _ List.mem_cons_self) hk
  have hini' : (Cond.initialized cls).before args s' = true := vx_ot_at hW0 hvm.symm (hgood _ (List.mem_cons_of_mem _ List.mem_cons_self)) hini
  have hU' : vx_Zq Bundle.tN "UNASSIGNED_STACK" Bundle.steD A s' s'.heap := by rw [hhp]; exact vx_Zq.moved hW0.alike (hU.kept hS.2.1)
  have hN' : vx_Zq Bundle.tN "SUPPRESSED_SENTINEL" Bundle.listD A s' s'.heap := by rw [hhp]; exact vx_Zq.moved hW0.alike (hN.kept hS.2.1)
  have h : ∀ w ∈ Bundle.ownAtoms own ic cls names, w.before args s' = true := vx_own hat' (vx_isRefq hU'.1) (vx_isRefq hN'.1) hU'.2.word hN'.2.word
  have hown' : s'.vm.findClass own = some m.cls := by rw [hvm]; exact hown
  have hins : (Cond.instantiable cls 6).before args s' = true := h _ (by simp [Bundle.ownAtoms])
  obtain ⟨vm₁, cX, kX, hfX, hkX, -, -, X₁, st1⟩ := Y.newCold hexec (own := own) (C := cls) (index := ik) (n := 6) hown' hk' hins hini'
    (g := F0 m pc ls rest) rfl (by rw [hb]; exact d0) (Nat.le_refl _) (Nat.le_refl _)
  generalize hT1 : (T.setVm vm₁).pushCell { cls := cX, slots := kX.instanceTypes.map defaultValue, vm := .none } = T1 at X₁ st1
  have hcat : (Value.ref T.heap.size).category = 1 := rfl
  have hcellA : T1.heap[T.heap.size]? = some (freshCell cX kX) := by rw [← hT1]; exact State.heap_pushCell_size _ _
  have d3' : decode c.code (pc + 3) = .ok (.dup, 1) := by rw [hb]; exact d3
  have d4' : decode c.code (pc + 4) = .ok (.ldc_w is, 3) := by rw [hb]; exact d4
  have hstr' : vk_R own is text sa s' := vk_R.warm hW0 hstr
  obtain ⟨U, hsteps, hrun, hend, hW, hsame, ce, hce, hO⟩ := X₁.ctorThrowS hexec htr (own := own) (cls := cls) (names := names) (ic := ic) hown' hcls hnames h (fun x hx => nomatch hx) hfX hkX hcellA (by rw [hhp, hT]; exact Nat.le_refl _) (msg := .ref sa) rfl
    (g := { method := m, pc := pc + 7, locals := ls, stack := .ref sa :: .ref T.heap.size :: .ref T.heap.size :: rest, locked := none }) rfl hsize rfl rfl (rest := rest) rfl
    (by rw [hb]; exact d7) (by rw [hb]; exact d10) hout hRframes (by simp only [List.map_cons, List.sum_cons, hcat]; omega) hlocks
  obtain ⟨f1, f2⟩ := vx_frame hsame
  rw [hhp] at f1 f2
  have hWs : s.WarmedH U.vm := State.WarmedH.trans hW0 hW
  have hcl : s.vm.findClass cls = some ce.cls := by
    have h9 := hO.cls
    rw [hvm] at h9
    exact h9
  have hall : s.sameButNew ({ U with vm := s.vm } : State) locs mc ms := by
    subst hA
    obtain ⟨e1, e2⟩ := hsame
    rw [State.setFrames_setFrames] at e1
    have h2 : (T.setVm s.vm).sameButNew ({ U with vm := s.vm } : State) [] (0 + 1) (0 + 6) := ⟨e1, e2⟩
    have h3 := X.same.trans h2
    rw [List.append_nil] at h3
    exact h3.mono hc hs
  refine ⟨U, ?_, .threw T.heap.size, hrun, hend, Or.inr ⟨T.heap.size, rfl, cls, ce, locs, hx U hWs.alike f1 (fun q hq => f2 q hq (fun z hz => nomatch hz)), hce, hO.vm, hcl, hWs, hall, hf⟩⟩
  refine st1 _ ?_
  show Steps p.tables e below (T1.setTop { method := m, pc := pc + 3, locals := ls, stack := .ref T.heap.size :: rest, locked := none }) _
  jvm_step X₁.here [X₁.here.top, hexec, d3', Value.category]
  exact X₁.ldcStringW hexec (own := own) (text := text) (index := is) (a := sa) hown' hstr'.1 hstr'.2
    (g := { method := m, pc := pc + 4, locals := ls, stack := .ref T.heap.size :: .ref T.heap.size :: rest, locked := none }) rfl d4' _ hsteps
end Ends
section Bodies
variable {l : Launch}
theorem vx_ofW {y : MethodName} {ws ws' : List Cond} {rm : Room} {Pc : Array Value → State → Prop} {Qc : Array Value → State → Outcome → State → Prop} {XC : String → State → State → Prop} {mc ms : Nat} {free : Addr → Prop} {cc : ByteArray} {maxL : Nat} {ret : Option FieldType}
    (hy : plainName y.cls = true) (hw : ws = Cond.code y cc maxL ret :: ws')
    (body : ∀ p e s m args below meth c s₁, BodyLoose p l y (headSpec ws rm) cc maxL ret e s m args below meth c s₁ → c.maxLocals = maxL → (∀ x ∈ c.exceptionTable.toList, False) → Pc args s →
      W p l e (headSpec ws rm).room s m args below meth c s.heap [] 0 0 (vx_MQ below Qc XC args s mc ms free) (entryFrame m args maxL)) : vx_Met l y ws rm Pc Qc XC mc ms free := by
  refine MetFree.of_bodyS (code := cc) (maxLocals := maxL) (ret := ret) hy ?_ ?_
  · intro args s m h hn
    obtain ⟨meth, c, h1, h2, h3, h4, h5, h6, -, -⟩ := Cond.code_spec hn (atoms_spec (ws := ws) h _ (by rw [hw]; exact List.mem_cons_self))
    exact ⟨meth, c, h1, h2, h3, h4, h5, h6⟩
  · intro p e s m args below meth c s₁ B hml hP _
    have hh0 : s₁.heap = s.heap := by rw [B.state]; rfl
    have ht : ∀ x ∈ c.exceptionTable.toList, False := by
      obtain ⟨meth9, c9, h1, h2, -, -, -, -, h7, -⟩ := Cond.code_spec B.named (atoms_spec (ws := ws) B.pre _ (by rw [hw]; exact List.mem_cons_self))
      cases Option.some.inj (h1.symm.trans B.method)
      cases Option.some.inj (h2.symm.trans (Stand.of_body B).code)
      intro x hx
      rw [Array.isEmpty_iff.mp h7] at hx
      cases hx
    obtain ⟨t, a1, o, b1, b2, b3⟩ := body p e s m args below meth c s₁ B hml ht hP s₁ hh0 (Stand.of_body B)
    exact ⟨t, o, a1, b1, b2, b3⟩
/-- the table of a body with handlers -/
theorem vx_table {p : Program} {x y : MethodName} {S : Spec} {cc bytes : ByteArray} {maxL maxL' : Nat} {ret ret' : Option FieldType} {e : Env} {s s₁ : State} {m : MethodId} {args : Array Value} {below : List Frame} {meth : Method} {c : Code} {hh : List (Nat × Nat × Nat × Nat)}
    (B : BodyLoose p l y S cc maxL ret e s m args below meth c s₁) (h : (Cond.codeWith y bytes maxL' ret' hh).before args s = true) : c.exceptionTable.toList = tableOf hh := by
  obtain ⟨m9, meth9, c9, hn9, h1, h2, -, -, h6, -⟩ := Cond.codeWith_spec h
  cases Option.some.inj (hn9.symm.trans B.named)
  cases Option.some.inj (h1.symm.trans B.method)
  cases Option.some.inj (h2.symm.trans (Stand.of_body B).code)
  rw [← h6, table_eq]
end Bodies
end VXA
/-! ===== END ===== -/
/-! ===== BEGIN a static call of a method with an exception table ===== -/
section VXS
variable {p : Program} {l : Launch} {e : Env} {R : Room} {s : State} {m : MethodId} {args : Array Value} {below : List Frame} {meth : Method} {c : Code} {T : State} {H : Heap} {locs : List Loc} {cells slots : Nat}
abbrev vx_CSW (R : Room) (s : State) (args : Array Value) (own : String) (index : Nat) (y : MethodName) (bytes : ByteArray) (maxL : Nat) (ret : Option FieldType) (hh : List (Nat × Nat × Nat × Nat)) (ws : List Cond) (rm : Room) (mc ms n : Nat) : Prop :=
  (rm.cells = mc ∧ rm.slots = ms ∧ rm.frames + 1 ≤ R.frames ∧ 8 + (maxL + 11) + rm.locals ≤ R.locals ∧ (∀ w ∈ ws, ∀ (a' : Array Value) (U : State), s.WarmedH U.vm → w.before a' U = true) ∧ Cond.codeWith y bytes maxL ret hh ∈ ws) ∧
  (Cond.codeWith y bytes maxL ret hh).before args s = true ∧ (Cond.initialized y.cls).before args s = true ∧ (y.cls ≠ "java/lang/invoke/MethodHandle" ∧ y.cls ≠ "java/lang/invoke/VarHandle") ∧
  (∀ sig, parseMethodDescriptor y.desc = some sig → n = sig.parameters.length) ∧ (Cond.methodLink own index y).before args s = true ∧ (Cond.static y).before args s = true
theorem vx_cwSW {own : String} {index maxL mc ms : Nat} {y : MethodName} {bytes : ByteArray} {ret : Option FieldType} {hh : List (Nat × Nat × Nat × Nat)} {Ts ws ws' : List Cond} {rm : Room} (n : Nat) (ht : ∀ w ∈ Ts, w.before args s = true) (hT : GoodIn Ts (va_wsS own index y ws)) (hw : ws = Cond.codeWith y bytes maxL ret hh :: ws') (hrc : rm.cells = mc) (hrs : rm.slots = ms)
    (hd : y.cls ≠ "java/lang/invoke/MethodHandle" ∧ y.cls ≠ "java/lang/invoke/VarHandle" ∧ (parseMethodDescriptor y.desc).map (fun d => d.parameters.length) = some n) (hR : rm.frames + 1 ≤ R.frames ∧ 8 + (maxL + 11) + rm.locals ≤ R.locals) :
    vx_CSW R s args own index y bytes maxL ret hh ws rm mc ms n := by
  have ok : ∀ w ∈ va_wsS own index y ws, w.before args s = true := fun w h => ht w (hT w h).1
  have hG : GoodIn Ts ws := fun w h => hT w (by unfold va_wsS; exact List.mem_append_right _ h)
  have hc : Cond.codeWith y bytes maxL ret hh ∈ ws := by rw [hw]; exact List.mem_cons_self
  refine ⟨⟨hrc, hrs, hR.1, hR.2, pay_in ht hG, hc⟩, ht _ (hG _ hc).1, ok _ (by simp [va_wsS]), ⟨hd.1, hd.2.1⟩, fun sig h => ?_, ok _ (by simp [va_wsS]), ok _ (by simp [va_wsS])⟩
  have h2 := hd.2.2
  rw [h] at h2
  exact (Option.some.inj h2).symm
theorem vx_callSW (X : Stand p l e R s m args below meth c T locs cells slots) (hexec : p.tables.exec = Jvm.exec) {own : String} {index : Nat} {y : MethodName} {bytes : ByteArray} {maxL : Nat} {ret : Option FieldType} {hh : List (Nat × Nat × Nat × Nat)}
    (hown : s.vm.findClass own = some m.cls) (hlink : (Cond.methodLink own index y).before args s = true) (hstat : (Cond.static y).before args s = true) (hinit : (Cond.initialized y.cls).before args s = true)
    (hcode : (Cond.codeWith y bytes maxL ret hh).before args s = true) (hy : y.cls ≠ "java/lang/invoke/MethodHandle" ∧ y.cls ≠ "java/lang/invoke/VarHandle")
    {W9 : Nat} {Pre : Pt → Array Value → Prop} {Post : Pt → Array Value → Option Value → Pt → Prop} (hK : Back l R p e below s args y 3 W9 Pre Post)
    {g : JFrame} (hg : g.method = m) (hsize : g.locals.size = c.maxLocals) {argsL rest : List Value} (hlen : ∀ sig, parseMethodDescriptor y.desc = some sig → argsL.length = sig.parameters.length)
    (hstack : g.stack = argsL.reverse ++ rest) (hW : 2 * g.monitorRoom + (rest.map fun v => v.category).sum ≤ W9) (hdg : decode c.code g.pc = .ok (.invokestatic index, 3))
    (hpre : ∀ vm₁, s.WarmedH vm₁ → Pre ⟨T.setVm vm₁, locs, cells, slots⟩ argsL.toArray) :
    ∃ (v : Option Value) (vm₁ : Vm) (B : Pt), s.WarmedH vm₁ ∧ Stand p l e R s m args below meth c B.U B.locs B.cells B.slots ∧ Post ⟨T.setVm vm₁, locs, cells, slots⟩ argsL.toArray v B ∧
      ∀ target, Steps p.tables e below (B.U.setTop { g with pc := g.pc + 3, stack := v.toList ++ rest }) target → Steps p.tables e below (T.setTop g) target := by
  obtain ⟨mk, methM, cM, hnamed, hmethM, -, -, -, -, -, -, hsigM⟩ := Cond.codeWith_spec hcode
  have hstatic : methM.isStatic = true := Cond.static_spec hnamed hmethM hstat
  obtain ⟨kP, hkP, -⟩ := className_of_methodNamed hnamed
  have hinitP : kP.init = .initialized := Cond.initialized_spec (findClass_of_methodNamed hnamed) hkP hinit
  obtain ⟨vm₁, X₁, hstep₁⟩ := X.invokestatic hexec hown hlink hnamed hmethM hstatic hkP hinitP hy (g := g) hg (argsL := argsL) (rest := rest) (hlen _ hsigM) hstack hdg
  obtain ⟨v, B, X', hpost, hsteps⟩ := hK m meth c ⟨T.setVm vm₁, locs, cells, slots⟩ { g with stack := rest } (.invokestatic index) mk argsL.toArray X₁ hg hsize hdg hW (X₁.named hnamed) (hpre vm₁ X₁.warmed)
  exact ⟨v, vm₁, B, X₁.warmed, X', hpost, fun target h => hstep₁ _ fun acts => by rw [doInvoke_state]; exact hsteps.trans h⟩
theorem vx_runSW {y : MethodName} {bytes cc : ByteArray} {maxL nL mc ms n index : Nat} {ret : Option FieldType} {hh : List (Nat × Nat × Nat × Nat)} {ws : List Cond} {rm : Room} {Pc : Array Value → State → Prop} {Qc : Array Value → State → Outcome → State → Prop} {free : Addr → Prop} {Ts : List Cond} {own : String} {As rest : List Value} {g : JFrame}
    (S : CallFix p m c cc nL s args Ts own) (hM : Met l y ws rm Pc Qc mc ms free) (cw : vx_CSW R s args own index y bytes maxL ret hh ws rm mc ms n) (hp : PreS s H Pc As)
    (hg : g.method = m) (hn : As.length = n) (hsize : g.locals.size = nL) (hstack : g.stack = As.reverse ++ rest) (hW : 2 * g.monitorRoom + (rest.map fun v => v.category).sum ≤ 8) (hdg : decode cc g.pc = .ok (.invokestatic index, 3)) (hf : cells + mc ≤ R.cells ∧ slots + ms ≤ R.slots) :
    va_Run p l e R s m args below meth c H locs cells slots mc ms g rest (Qc As.toArray) (free) := by
  obtain ⟨⟨hrc, hrs, hfr, hlo, hws, hcw⟩, hcode, hini, hy, hlen, hl, hstt⟩ := cw
  have hK : Back l R p e below s args y 3 8 (PreOf R mc ms Pc) (PostOf Qc mc ms free) := va_backW (hh := hh) (bytes := bytes) (maxL := maxL) (ret := ret) hM hp.1 hrc hrs hfr hlo hws hcw (fun a' U hW => word_at hW (Or.inl (by first | rfl | simp [Cond.onTables, Cond.keeps, Cond.steady])) hini)
  obtain ⟨hx, hb, hml, ho, -⟩ := S
  intro T hT X
  obtain ⟨v, vm₁, ⟨U', l2, c2, s2⟩, hW₁, X', ⟨g', mk, t, L, e1, e2, hq, h1, hL, h2, h3⟩, st⟩ := vx_callSW X hx (hh := hh) (bytes := bytes) (maxL := maxL) (ret := ret) ho hl hstt hini hcode hy hK hg (hsize.trans hml.symm) (argsL := As) (rest := rest) (fun sig h => hn.trans (hlen sig h)) hstack hW (by rw [hb]; exact hdg)
    (fun vm₁ hW₁ => ⟨hf.1, hf.2, hp.2 (T.setVm vm₁) hT hW₁⟩)
  dsimp only [Pt.U, Pt.locs, Pt.cells, Pt.slots] at X' e1 e2 h1 h2 h3 st
  subst h1; subst h2; subst h3
  exact ⟨v, (T.setVm vm₁).calling g' mk As.toArray, t, U', L, hT, X', hL, e1, e2, hq, st⟩
/-- not caught here, past rows that name other classes: it goes on to the caller -/
theorem vx_outP {p : Program} {l : Launch} {e : Env} {R : Room} {s : State} {m : MethodId} {args : Array Value} {below : List Frame} {meth : Method} {c : Code} {H : Heap} {locs : List Loc} {cells slots : Nat} {free : Addr → Prop} {ls : Array Slot} {rest : List Value} {Qc : Array Value → State → Outcome → State → Prop} {XC : String → State → State → Prop}
    {pc : Nat} {own E : String} {ce : Cell} {q : Addr} {mc ms : Nat} (hown : s.vm.findClass own = some m.cls) (hlocks : meth.locks = false)
    (hpass : ∀ z ∈ c.exceptionTable.toList, covers z pc = false ∨ (z.catchType ≠ 0 ∧ ∃ nm : String, (Cond.classLink own z.catchType nm).before args s = true ∧ va_Nc E nm s)) (hcell : H[q]? = some ce) (hv : ce.vm = .none) (hcl : s.vm.findClass E = some ce.cls)
    (hx : ∀ t : State, t.heap = H → s.vm.Alike t.vm → XC E s t) (hf : ∀ z ∈ locs, free z.base) (hc : cells ≤ mc) (hs : slots ≤ ms) :
    vx_W p l e R s m args below meth c H locs cells slots (vx_MQ below Qc XC args s mc ms free) (F0 m pc ls rest) q := by
  intro T hT X
  have hpl : e.platform.magicAccessors = ({} : Platform).magicAccessors := by rw [X.admits.platform]
  obtain ⟨vm', hW', X', st⟩ := X.outThrough hlocks q (g := F0 m pc ls rest) rfl rfl rfl (cell := ce) (by rw [hT]; exact hcell) (by rw [hv]; rfl)
    (by obtain ⟨k9, h9, -⟩ := Vm.findClass_spec hcl; exact ⟨k9, h9⟩) (fun z hz => by
      rcases hpass z hz with h | ⟨hz0, nm, hl1, hn1⟩
      · exact Or.inl h
      · obtain ⟨c6, hc6, hcl6⟩ := Cond.classLink_spec hown hl1 e.platform hpl
        obtain ⟨a8, b8, h1, h2, h3⟩ := hn1
        cases Option.some.inj (h1.symm.trans hcl)
        cases Option.some.inj (h2.symm.trans hc6)
        exact Or.inr ⟨hz0, _, hcl6, h3⟩)
  obtain ⟨g₀, hfr⟩ := X'.frames_eq
  have hcell9 : ((T.setVm vm').setFrames (.throwing q :: below)).heap[q]? = some ce := by
    show T.heap[q]? = some ce
    rw [hT]; exact hcell
  have hend : Ended ((T.setVm vm').setFrames (.throwing q :: below)) below (.threw q) := State.frames_setFrames _ (State.cur_lt_of_frames hfr)
  refine ⟨(T.setVm vm').setFrames (.throwing q :: below), ?_, .threw q, X'.here.running, hend, Or.inr ⟨q, rfl, E, ce, locs, hx _ hT (X'.ends _).1.alike, hcell9, hv, hcl, (X'.ends _).1, (X'.ends _).2.mono hc hs, hf⟩⟩
  rw [X.pushThrowing_eq]
  exact st
/-- a thing of a world lies in the heap -/
theorem vx_lt {D : va_G} {cl : List vw_C} {ws : va_W} {H1 : Heap} (h : va_P D cl ws H1) {k : Nat} {q : Nat × va_E} (hk : ws[k]? = some q) : q.1 < H1.size := (h k q hk).lt
end VXS
/-! ===== END ===== -/
/-! ===== BEGIN methods with a table of their own: called by a name, returning or throwing ===== -/
section VXH
/-! vx_backW, vx_callVX, vx_callSX, vx_callVW, vx_runVW, vx_runVX, vx_runSX, vx_ofWH follow the same proofs as their sisters above (Free/Laws.lean, Shelf42/LK1.lean); vx_outP calls Shelf42/NT130.lean (outThrough). -/
section
variable {l : Launch} {R : Room} {p : Program} {e : Env} {below : List Frame} {s : State} {sargs : Array Value} {y : MethodName} {len W9 : Nat}
theorem vx_backW {ws : List Cond} {rm : Room} {Pc : Array Value → State → Prop} {Qc : Array Value → State → Outcome → State → Prop} {XC : String → State → State → Prop} {mc ms : Nat} {free : Addr → Prop} {bytes : ByteArray} {maxL : Nat} {ret : Option FieldType} {hh : List (Nat × Nat × Nat × Nat)}
    (hM : vx_Met l y ws rm Pc Qc XC mc ms free) (hblind : FrameBlind Pc) (hrc : rm.cells = mc) (hrs : rm.slots = ms)
    (hframes : rm.frames + 1 ≤ R.frames) (hlocals : W9 + (maxL + 11) + rm.locals ≤ R.locals)
    (hws : ∀ w ∈ ws, ∀ a' U, s.WarmedH U.vm → w.before a' U = true) (hcode : Cond.codeWith y bytes maxL ret hh ∈ ws) (hinit : ∀ a' U, s.WarmedH U.vm → (Cond.initialized y.cls).before a' U = true) :
    vx_Back l R p e below s sargs y len W9 (PreOf R mc ms Pc) (PostOf Qc mc ms free) (vx_Post XC mc ms free) := by
  intro m meth c A g ig mk a X hg hsize hdg hW hn hp
  have h1 : (headSpec ws rm).pre.before a A.U = true := atoms_intro fun w hw => hws w hw _ _ X.warmed
  have h2 : (Cond.codeWith y bytes maxL ret hh).before a A.U = true := hws _ hcode _ _ X.warmed
  have h3 : (Cond.initialized y.cls).before a A.U = true := hinit _ _ X.warmed
  have h4 : A.cells + (headSpec ws rm).room.cells ≤ R.cells := by rw [show (headSpec ws rm).room.cells = mc from hrc]; exact hp.1
  have h5 : A.slots + (headSpec ws rm).room.slots ≤ R.slots := by rw [show (headSpec ws rm).room.slots = ms from hrs]; exact hp.2.1
  have hPc : Pc a (A.U.calling g mk a) := hblind _ _ _ _ hp.2.2
  obtain ⟨U, Ls, c0, s0⟩ := A
  dsimp only [Pt.U, Pt.locs, Pt.cells, Pt.slots] at h1 h2 h3 h4 h5 X hn hPc ⊢
  obtain ⟨m9, methY, cY, hn9, hmY, hcY, -, hlY, -⟩ := Cond.codeWith_spec h2
  cases Option.some.inj (hn9.symm.trans hn)
  obtain ⟨kY, hkY, -⟩ := className_of_methodNamed hn
  have hinitY : kY.init = .initialized := Cond.initialized_spec (findClass_of_methodNamed hn) hkY h3
  have h : At U g.method c below := by rw [hg]; exact X.here
  have hlocals9 : W9 + (maxL + 11) + (headSpec ws rm).room.locals ≤ R.locals := hlocals
  have happ : (headSpec ws rm).appliesLoose y e.platform (U.calling g mk a) = true :=
    Spec.appliesLoose_calling (g := g) h hdg hn hkY hinitY
      (X.room_calling (g := g) (R' := (headSpec ws rm).room) hsize hmY hcY hframes (by rw [hlY]; omega) h4 h5) h1
  obtain ⟨mid, hmid⟩ := h.above
  have hfr : (U.setTop g).frames = (.java g :: mid) ++ below := by rw [State.frames_setTop' g h.top, hmid]; rfl
  obtain ⟨o, s₂, hsteps, -, hend, hq⟩ := Steps.callFree hM p X.admits X.cas X.clock (acts := []) hfr happ hPc trivial
  have hq' : vx_Q Qc XC mc ms free a (U.calling g mk a) o s₂ := hq
  rw [State.frames_setTop' g h.top] at hend
  obtain ⟨g₀, hg0⟩ := Option.isSome_iff_exists.mp h.top
  obtain ⟨r, hr⟩ := State.topJava?_eq_some.mp hg0
  have hr' : (({ U with heap := s₂.heap, slotsUsed := s₂.slotsUsed } : State).setVm s₂.vm).frames = .java g₀ :: r := hr
  rcases hq' with ⟨hqc, L, hfe, hL⟩ | ⟨q, rfl, E, ce, L, hx, hce, hcv, hcl, hW₂, hsm, hL⟩
  · obtain ⟨⟨v, rfl⟩, hW₂, e2, q2, q3, q4, q5, q6⟩ := id hfe
    have e3 : s₂ = ({ (U.calling g mk a).setFrames s₂.frames with heap := s₂.heap, slotsUsed := s₂.slotsUsed } : State).setVm s₂.vm := by
      have : s₂ = ({ s₂ with vm := (U.calling g mk a).vm } : State).setVm s₂.vm := rfl
      rw [e2] at this
      exact this
    obtain ⟨c₂, i₂, len₂, hc₂, hd₂, hf₂⟩ := hend
    have hW' : U.WarmedH s₂.vm := hW₂
    have hcc : c₂ = c := by
      have h1 : s₂.code? g.method = U.code? g.method := by
        rw [State.code?_eq, State.code?_eq, hW'.alike.method?]
      exact Option.some.inj (hc₂.symm.trans (h1.trans h.code))
    subst hcc
    have hlen : len₂ = len := by rw [hdg] at hd₂; cases hd₂; rfl
    subst hlen
    have hs₂ : s₂ = (({ U with heap := s₂.heap, slotsUsed := s₂.slotsUsed } : State).setVm s₂.vm).setTop { g with pc := g.pc + len₂, stack := v.toList ++ g.stack } := by
      refine e3.trans ?_
      rw [hf₂, State.calling_eq h.top, State.setFrames_setFrames, State.setTop_of_frames _ hr', hr]
      rfl
    have hsame : U.sameButNew ({ U with heap := s₂.heap, slotsUsed := s₂.slotsUsed } : State) L mc ms := by
      refine ⟨?_, q2, q3, q4, q5, q6⟩
      obtain ⟨t, ht, -⟩ := State.frames_cons hr
      show ({ U with heap := s₂.heap, slotsUsed := s₂.slotsUsed } : State) = { U.setFrames U.frames with heap := s₂.heap, slotsUsed := s₂.slotsUsed }
      rw [State.setFrames_self ht]
    subst hg
    refine Or.inl ⟨v, ⟨(({ U with heap := s₂.heap, slotsUsed := s₂.slotsUsed } : State).setVm s₂.vm), Ls ++ L, c0 + mc, s0 + ms⟩,
      ⟨X.admits, X.cas, X.clock, X.frames, X.room, X.hears, X.method, X.code, (X.here.setHeapUsed s₂.heap s₂.slotsUsed).setVm hW'.alike, X.tail, State.WarmedH.trans X.warmed hW', X.limits, X.bytes, X.same.trans (hsame.setVm s.vm)⟩,
      ⟨g, mk, s₂, L, rfl, rfl, hqc, rfl, hL, rfl, rfl⟩, ?_⟩
    show Steps p.tables e below _ ((({ U with heap := s₂.heap, slotsUsed := s₂.slotsUsed } : State).setVm s₂.vm).setTop { g with pc := g.pc + len₂, stack := v.toList ++ g.stack })
    rw [← hs₂]
    exact hsteps
  · obtain ⟨e2, q2, q3, q4, q5, q6⟩ := id hsm
    have e3 : s₂ = ({ (U.calling g mk a).setFrames s₂.frames with heap := s₂.heap, slotsUsed := s₂.slotsUsed } : State).setVm s₂.vm := by
      have : s₂ = ({ s₂ with vm := (U.calling g mk a).vm } : State).setVm s₂.vm := rfl
      rw [e2] at this
      exact this
    have hf₂ : s₂.frames = .throwing q :: .java g :: U.frames.tail := hend
    have hW' : U.WarmedH s₂.vm := hW₂
    have hs₂ : s₂ = ((({ U with heap := s₂.heap, slotsUsed := s₂.slotsUsed } : State).setVm s₂.vm).setTop g).pushFrame (.throwing q) := by
      refine e3.trans ?_
      rw [hf₂, State.calling_eq h.top, State.setFrames_setFrames, State.pushFrame, State.frames_setTop _ hr', State.setTop_of_frames _ hr', State.setFrames_setFrames, hr]
      rfl
    have hsame : U.sameButNew ({ U with heap := s₂.heap, slotsUsed := s₂.slotsUsed } : State) L mc ms := by
      refine ⟨?_, q2, q3, q4, q5, q6⟩
      obtain ⟨t, ht, -⟩ := State.frames_cons hr
      show ({ U with heap := s₂.heap, slotsUsed := s₂.slotsUsed } : State) = { U.setFrames U.frames with heap := s₂.heap, slotsUsed := s₂.slotsUsed }
      rw [State.setFrames_self ht]
    subst hg
    refine Or.inr ⟨q, ⟨(({ U with heap := s₂.heap, slotsUsed := s₂.slotsUsed } : State).setVm s₂.vm), Ls ++ L, c0 + mc, s0 + ms⟩,
      ⟨X.admits, X.cas, X.clock, X.frames, X.room, X.hears, X.method, X.code, (X.here.setHeapUsed s₂.heap s₂.slotsUsed).setVm hW'.alike, X.tail, State.WarmedH.trans X.warmed hW', X.limits, X.bytes, X.same.trans (hsame.setVm s.vm)⟩,
      ⟨g, mk, s₂, L, E, ce, rfl, rfl, hx, hce, hcv, hcl, rfl, hL, rfl, rfl⟩, ?_⟩
    show Steps p.tables e below _ (((({ U with heap := s₂.heap, slotsUsed := s₂.slotsUsed } : State).setVm s₂.vm).setTop g).pushFrame (.throwing q))
    rw [← hs₂]
    exact hsteps
end
variable {p : Program} {l : Launch} {e : Env} {R : Room} {s : State} {m : MethodId} {args : Array Value} {below : List Frame} {meth : Method} {c : Code} {T : State} {H : Heap} {locs : List Loc} {cells slots : Nat}
theorem vx_callVX (X : Stand p l e R s m args below meth c T locs cells slots) (hexec : p.tables.exec = Jvm.exec) {own C : String} {index : Nat} {y : MethodName} {bytes : ByteArray} {maxL : Nat} {ret : Option FieldType} {hh : List (Nat × Nat × Nat × Nat)}
    (hown : s.vm.findClass own = some m.cls) (hlink : (Cond.methodLink own index y).before args s = true) (hinst : (Cond.instanceMethod y).before args s = true) (hsel : (Cond.selects C y y).before args s = true)
    (hcode : (Cond.codeWith y bytes maxL ret hh).before args s = true) (hy : y.cls ≠ "java/lang/invoke/MethodHandle" ∧ y.cls ≠ "java/lang/invoke/VarHandle")
    {W9 : Nat} {Pre : Pt → Array Value → Prop} {Post : Pt → Array Value → Option Value → Pt → Prop} {PostX : Pt → Array Value → Addr → Pt → Prop} (hK : vx_Back l R p e below s args y 3 W9 Pre Post PostX)
    {b : Addr} {cellB : Cell} (hcell : T.heap[b]? = some cellB) (hobj : cellB.vm.isStatics = false) (hcls : s.vm.findClass C = some cellB.cls)
    {g : JFrame} (hg : g.method = m) (hsize : g.locals.size = c.maxLocals) {argsL rest : List Value} (hlen : ∀ sig, parseMethodDescriptor y.desc = some sig → argsL.length = sig.parameters.length)
    (hstack : g.stack = argsL.reverse ++ .ref b :: rest) (hW : 2 * g.monitorRoom + (rest.map fun v => v.category).sum ≤ W9) (hdg : decode c.code g.pc = .ok (.invokevirtual index, 3))
    (hpre : ∀ vm₁, s.WarmedH vm₁ → Pre ⟨T.setVm vm₁, locs, cells, slots⟩ (Value.ref b :: argsL).toArray) :
    (∃ (v : Option Value) (vm₁ : Vm) (B : Pt), s.WarmedH vm₁ ∧ Stand p l e R s m args below meth c B.U B.locs B.cells B.slots ∧ Post ⟨T.setVm vm₁, locs, cells, slots⟩ (Value.ref b :: argsL).toArray v B ∧
      ∀ target, Steps p.tables e below (B.U.setTop { g with pc := g.pc + 3, stack := v.toList ++ rest }) target → Steps p.tables e below (T.setTop g) target) ∨
    (∃ (q : Addr) (vm₁ : Vm) (B : Pt), s.WarmedH vm₁ ∧ Stand p l e R s m args below meth c B.U B.locs B.cells B.slots ∧ PostX ⟨T.setVm vm₁, locs, cells, slots⟩ (Value.ref b :: argsL).toArray q B ∧
      Steps p.tables e below (T.setTop g) ((B.U.setTop { g with stack := rest }).pushFrame (.throwing q))) := by
  obtain ⟨mk, methM, hnamed, hmethM, hstM, habM⟩ := Cond.instanceMethod_spec hinst
  obtain ⟨m8, methM', cM, hn8, hmethM', -, -, -, -, -, -, hsigM⟩ := Cond.codeWith_spec hcode
  cases Option.some.inj (hn8.symm.trans hnamed)
  cases hmethM.symm.trans hmethM'
  obtain ⟨c2, r2, m2, q1, q2, q3, q4, kP, hkP, hkPi⟩ := Cond.selects_spec hsel
  cases hcls.symm.trans q1
  cases (State.methodFound?_of_named hnamed hy).symm.trans q2
  cases hnamed.symm.trans q3
  have hselP : selectMethod e.platform s.vm cellB.cls mk = .method mk := by rw [Launch.admits_selectMethod X.admits]; exact q4
  obtain ⟨vm₁, X₁, hstep₁⟩ := X.invokevirtual hexec hown hlink hnamed hmethM hstM hkP hkPi hy (a := b) (cell := cellB) hcell
    (fun z h => by rw [h] at hobj; cases hobj) hselP hmethM habM hkP hkPi (g := g) hg (argsL := argsL) (rest := rest) (hlen _ hsigM) hstack hdg
  rcases hK m meth c ⟨T.setVm vm₁, locs, cells, slots⟩ { g with stack := rest } (.invokevirtual index) mk (Value.ref b :: argsL).toArray X₁ hg hsize hdg hW (X₁.named hnamed) (hpre vm₁ X₁.warmed) with ⟨v, B, X', hpost, hsteps⟩ | ⟨q, B, X', hpost, hsteps⟩
  · exact Or.inl ⟨v, vm₁, B, X₁.warmed, X', hpost, fun target h => hstep₁ _ fun acts => by rw [doInvoke_state]; exact hsteps.trans h⟩
  · exact Or.inr ⟨q, vm₁, B, X₁.warmed, X', hpost, hstep₁ _ fun acts => by rw [doInvoke_state]; exact hsteps⟩
theorem vx_callSX (X : Stand p l e R s m args below meth c T locs cells slots) (hexec : p.tables.exec = Jvm.exec) {own : String} {index : Nat} {y : MethodName} {bytes : ByteArray} {maxL : Nat} {ret : Option FieldType} {hh : List (Nat × Nat × Nat × Nat)}
    (hown : s.vm.findClass own = some m.cls) (hlink : (Cond.methodLink own index y).before args s = true) (hstat : (Cond.static y).before args s = true) (hinit : (Cond.initialized y.cls).before args s = true)
    (hcode : (Cond.codeWith y bytes maxL ret hh).before args s = true) (hy : y.cls ≠ "java/lang/invoke/MethodHandle" ∧ y.cls ≠ "java/lang/invoke/VarHandle")
    {W9 : Nat} {Pre : Pt → Array Value → Prop} {Post : Pt → Array Value → Option Value → Pt → Prop} {PostX : Pt → Array Value → Addr → Pt → Prop} (hK : vx_Back l R p e below s args y 3 W9 Pre Post PostX)
    {g : JFrame} (hg : g.method = m) (hsize : g.locals.size = c.maxLocals) {argsL rest : List Value} (hlen : ∀ sig, parseMethodDescriptor y.desc = some sig → argsL.length = sig.parameters.length)
    (hstack : g.stack = argsL.reverse ++ rest) (hW : 2 * g.monitorRoom + (rest.map fun v => v.category).sum ≤ W9) (hdg : decode c.code g.pc = .ok (.invokestatic index, 3))
    (hpre : ∀ vm₁, s.WarmedH vm₁ → Pre ⟨T.setVm vm₁, locs, cells, slots⟩ argsL.toArray) :
    (∃ (v : Option Value) (vm₁ : Vm) (B : Pt), s.WarmedH vm₁ ∧ Stand p l e R s m args below meth c B.U B.locs B.cells B.slots ∧ Post ⟨T.setVm vm₁, locs, cells, slots⟩ argsL.toArray v B ∧
      ∀ target, Steps p.tables e below (B.U.setTop { g with pc := g.pc + 3, stack := v.toList ++ rest }) target → Steps p.tables e below (T.setTop g) target) ∨
    (∃ (q : Addr) (vm₁ : Vm) (B : Pt), s.WarmedH vm₁ ∧ Stand p l e R s m args below meth c B.U B.locs B.cells B.slots ∧ PostX ⟨T.setVm vm₁, locs, cells, slots⟩ argsL.toArray q B ∧
      Steps p.tables e below (T.setTop g) ((B.U.setTop { g with stack := rest }).pushFrame (.throwing q))) := by
  obtain ⟨mk, methM, cM, hnamed, hmethM, -, -, -, -, -, -, hsigM⟩ := Cond.codeWith_spec hcode
  have hstatic : methM.isStatic = true := Cond.static_spec hnamed hmethM hstat
  obtain ⟨kP, hkP, -⟩ := className_of_methodNamed hnamed
  have hinitP : kP.init = .initialized := Cond.initialized_spec (findClass_of_methodNamed hnamed) hkP hinit
  obtain ⟨vm₁, X₁, hstep₁⟩ := X.invokestatic hexec hown hlink hnamed hmethM hstatic hkP hinitP hy (g := g) hg (argsL := argsL) (rest := rest) (hlen _ hsigM) hstack hdg
  rcases hK m meth c ⟨T.setVm vm₁, locs, cells, slots⟩ { g with stack := rest } (.invokestatic index) mk argsL.toArray X₁ hg hsize hdg hW (X₁.named hnamed) (hpre vm₁ X₁.warmed) with ⟨v, B, X', hpost, hsteps⟩ | ⟨q, B, X', hpost, hsteps⟩
  · exact Or.inl ⟨v, vm₁, B, X₁.warmed, X', hpost, fun target h => hstep₁ _ fun acts => by rw [doInvoke_state]; exact hsteps.trans h⟩
  · exact Or.inr ⟨q, vm₁, B, X₁.warmed, X', hpost, hstep₁ _ fun acts => by rw [doInvoke_state]; exact hsteps⟩
theorem vx_callVW (X : Stand p l e R s m args below meth c T locs cells slots) (hexec : p.tables.exec = Jvm.exec) {own C : String} {index : Nat} {y : MethodName} {bytes : ByteArray} {maxL : Nat} {ret : Option FieldType} {hh : List (Nat × Nat × Nat × Nat)}
    (hown : s.vm.findClass own = some m.cls) (hlink : (Cond.methodLink own index y).before args s = true) (hinst : (Cond.instanceMethod y).before args s = true) (hsel : (Cond.selects C y y).before args s = true)
    (hcode : (Cond.codeWith y bytes maxL ret hh).before args s = true) (hy : y.cls ≠ "java/lang/invoke/MethodHandle" ∧ y.cls ≠ "java/lang/invoke/VarHandle")
    {W9 : Nat} {Pre : Pt → Array Value → Prop} {Post : Pt → Array Value → Option Value → Pt → Prop} (hK : Back l R p e below s args y 3 W9 Pre Post)
    {b : Addr} {cellB : Cell} (hcell : T.heap[b]? = some cellB) (hobj : cellB.vm.isStatics = false) (hcls : s.vm.findClass C = some cellB.cls)
    {g : JFrame} (hg : g.method = m) (hsize : g.locals.size = c.maxLocals) {argsL rest : List Value} (hlen : ∀ sig, parseMethodDescriptor y.desc = some sig → argsL.length = sig.parameters.length)
    (hstack : g.stack = argsL.reverse ++ .ref b :: rest) (hW : 2 * g.monitorRoom + (rest.map fun v => v.category).sum ≤ W9) (hdg : decode c.code g.pc = .ok (.invokevirtual index, 3))
    (hpre : ∀ vm₁, s.WarmedH vm₁ → Pre ⟨T.setVm vm₁, locs, cells, slots⟩ (Value.ref b :: argsL).toArray) :
    ∃ (v : Option Value) (vm₁ : Vm) (B : Pt), s.WarmedH vm₁ ∧ Stand p l e R s m args below meth c B.U B.locs B.cells B.slots ∧ Post ⟨T.setVm vm₁, locs, cells, slots⟩ (Value.ref b :: argsL).toArray v B ∧
      ∀ target, Steps p.tables e below (B.U.setTop { g with pc := g.pc + 3, stack := v.toList ++ rest }) target → Steps p.tables e below (T.setTop g) target := by
  obtain ⟨mk, methM, hnamed, hmethM, hstM, habM⟩ := Cond.instanceMethod_spec hinst
  obtain ⟨m8, methM', cM, hn8, hmethM', -, -, -, -, -, -, hsigM⟩ := Cond.codeWith_spec hcode
  cases Option.some.inj (hn8.symm.trans hnamed)
  cases hmethM.symm.trans hmethM'
  obtain ⟨c2, r2, m2, q1, q2, q3, q4, kP, hkP, hkPi⟩ := Cond.selects_spec hsel
  cases hcls.symm.trans q1
  cases (State.methodFound?_of_named hnamed hy).symm.trans q2
  cases hnamed.symm.trans q3
  have hselP : selectMethod e.platform s.vm cellB.cls mk = .method mk := by rw [Launch.admits_selectMethod X.admits]; exact q4
  obtain ⟨vm₁, X₁, hstep₁⟩ := X.invokevirtual hexec hown hlink hnamed hmethM hstM hkP hkPi hy (a := b) (cell := cellB) hcell
    (fun z h => by rw [h] at hobj; cases hobj) hselP hmethM habM hkP hkPi (g := g) hg (argsL := argsL) (rest := rest) (hlen _ hsigM) hstack hdg
  obtain ⟨v, B, X', hpost, hsteps⟩ := hK m meth c ⟨T.setVm vm₁, locs, cells, slots⟩ { g with stack := rest } (.invokevirtual index) mk (Value.ref b :: argsL).toArray X₁ hg hsize hdg hW (X₁.named hnamed) (hpre vm₁ X₁.warmed)
  exact ⟨v, vm₁, B, X₁.warmed, X', hpost, fun target h => hstep₁ _ fun acts => by rw [doInvoke_state]; exact hsteps.trans h⟩
abbrev vx_CVW (R : Room) (s : State) (args : Array Value) (own C : String) (index : Nat) (y : MethodName) (bytes : ByteArray) (maxL : Nat) (ret : Option FieldType) (hh : List (Nat × Nat × Nat × Nat)) (ws : List Cond) (rm : Room) (mc ms n : Nat) : Prop :=
  (rm.cells = mc ∧ rm.slots = ms ∧ rm.frames + 1 ≤ R.frames ∧ 8 + (maxL + 11) + rm.locals ≤ R.locals ∧ (∀ w ∈ ws, ∀ (a' : Array Value) (U : State), s.WarmedH U.vm → w.before a' U = true) ∧ Cond.codeWith y bytes maxL ret hh ∈ ws) ∧
  (Cond.codeWith y bytes maxL ret hh).before args s = true ∧ (Cond.initialized y.cls).before args s = true ∧ (y.cls ≠ "java/lang/invoke/MethodHandle" ∧ y.cls ≠ "java/lang/invoke/VarHandle") ∧
  (∀ sig, parseMethodDescriptor y.desc = some sig → n = sig.parameters.length) ∧ (Cond.methodLink own index y).before args s = true ∧ (Cond.instanceMethod y).before args s = true ∧ (Cond.selects C y y).before args s = true
theorem vx_cwVW {own C : String} {index maxL mc ms : Nat} {y : MethodName} {bytes : ByteArray} {ret : Option FieldType} {hh : List (Nat × Nat × Nat × Nat)} {Ts ws ws' : List Cond} {rm : Room} (n : Nat) (ht : ∀ w ∈ Ts, w.before args s = true) (hT : GoodIn Ts (wsV own index C y ws)) (hw : ws = Cond.codeWith y bytes maxL ret hh :: ws') (hrc : rm.cells = mc) (hrs : rm.slots = ms)
    (hd : y.cls = C ∧ y.cls ≠ "java/lang/invoke/MethodHandle" ∧ y.cls ≠ "java/lang/invoke/VarHandle" ∧ (parseMethodDescriptor y.desc).map (fun d => d.parameters.length) = some n) (hR : rm.frames + 1 ≤ R.frames ∧ 8 + (maxL + 11) + rm.locals ≤ R.locals) :
    vx_CVW R s args own C index y bytes maxL ret hh ws rm mc ms n := by
  obtain ⟨hC, hd⟩ := hd
  subst hC
  have ok : ∀ w ∈ wsV own index y.cls y ws, w.before args s = true := fun w h => ht w (hT w h).1
  have hG : GoodIn Ts ws := fun w h => hT w (by unfold wsV; exact List.mem_append_right _ h)
  have hc : Cond.codeWith y bytes maxL ret hh ∈ ws := by rw [hw]; exact List.mem_cons_self
  refine ⟨⟨hrc, hrs, hR.1, hR.2, pay_in ht hG, hc⟩, ht _ (hG _ hc).1, ok _ (by simp [wsV]), ⟨hd.1, hd.2.1⟩, fun sig h => ?_, ok _ (by simp [wsV]), ok _ (by simp [wsV]), ok _ (by simp [wsV])⟩
  have h2 := hd.2.2
  rw [h] at h2
  exact (Option.some.inj h2).symm
theorem vx_runVW {y : MethodName} {bytes cc : ByteArray} {maxL nL mc ms n index : Nat} {ret : Option FieldType} {hh : List (Nat × Nat × Nat × Nat)} {ws : List Cond} {rm : Room} {Pc : Array Value → State → Prop} {Qc : Array Value → State → Outcome → State → Prop} {free : Addr → Prop} {Ts : List Cond} {own C : String} {b : Addr} {As rest : List Value} {g : JFrame}
    (S : CallFix p m c cc nL s args Ts own) (hM : Met l y ws rm Pc Qc mc ms free) (cw : vx_CVW R s args own C index y bytes maxL ret hh ws rm mc ms n) (hp : PreV s H C b Pc As)
    (hg : g.method = m) (hn : As.length = n) (hsize : g.locals.size = nL) (hstack : g.stack = As.reverse ++ .ref b :: rest) (hW : 2 * g.monitorRoom + (rest.map fun v => v.category).sum ≤ 8) (hdg : decode cc g.pc = .ok (.invokevirtual index, 3)) (hf : cells + mc ≤ R.cells ∧ slots + ms ≤ R.slots) :
    va_Run p l e R s m args below meth c H locs cells slots mc ms g rest (Qc (Value.ref b :: As).toArray) free := by
  obtain ⟨⟨hrc, hrs, hfr, hlo, hws, hcw⟩, hcode, hini, hy, hlen, hl, hin, hse⟩ := cw
  have hK : Back l R p e below s args y 3 8 (PreOf R mc ms Pc) (PostOf Qc mc ms free) := va_backW (hh := hh) (bytes := bytes) (maxL := maxL) (ret := ret) hM hp.1 hrc hrs hfr hlo hws hcw (fun a' U hW => word_at hW (Or.inl (by first | rfl | simp [Cond.onTables, Cond.keeps, Cond.steady])) hini)
  obtain ⟨hx, hb, hml, ho, -⟩ := S
  obtain ⟨-, ⟨cellB, hcB, hoB, hclB⟩, hPc⟩ := hp
  intro T hT X
  obtain ⟨v, vm₁, ⟨U', l2, c2, s2⟩, hW₁, X', ⟨g', mk, t, L, e1, e2, hq, h1, hL, h2, h3⟩, st⟩ := vx_callVW X hx (C := C) (hh := hh) (bytes := bytes) (maxL := maxL) (ret := ret) ho hl hin hse hcode hy hK (by rw [hT]; exact hcB) hoB hclB hg (hsize.trans hml.symm) (argsL := As) (rest := rest) (fun sig h => hn.trans (hlen sig h)) hstack hW (by rw [hb]; exact hdg)
    (fun vm₁ hW₁ => ⟨hf.1, hf.2, hPc (T.setVm vm₁) hT hW₁⟩)
  dsimp only [Pt.U, Pt.locs, Pt.cells, Pt.slots] at X' e1 e2 h1 h2 h3 st
  subst h1; subst h2; subst h3
  exact ⟨v, (T.setVm vm₁).calling g' mk (Value.ref b :: As).toArray, t, U', L, hT, X', hL, e1, e2, hq, st⟩
section
variable {y : MethodName} {bytes cc : ByteArray} {maxL nL mc ms n index : Nat} {ret : Option FieldType} {ws : List Cond} {rm : Room} {Pc : Array Value → State → Prop} {Qc : Array Value → State → Outcome → State → Prop} {XC : String → State → State → Prop} {free : Addr → Prop} {Ts : List Cond} {own C : String} {b : Addr} {As rest : List Value} {g : JFrame}
theorem vx_runVX {hh : List (Nat × Nat × Nat × Nat)} (S : CallFix p m c cc nL s args Ts own) (hM : vx_Met l y ws rm Pc Qc XC mc ms free) (cw : vx_CVW R s args own C index y bytes maxL ret hh ws rm mc ms n) (hp : PreV s H C b Pc As)
    (hg : g.method = m) (hn : As.length = n) (hsize : g.locals.size = nL) (hstack : g.stack = As.reverse ++ .ref b :: rest) (hW : 2 * g.monitorRoom + (rest.map fun v => v.category).sum ≤ 8) (hdg : decode cc g.pc = .ok (.invokevirtual index, 3)) (hf : cells + mc ≤ R.cells ∧ slots + ms ≤ R.slots) :
    vx_Run p l e R s m args below meth c H locs cells slots mc ms g rest (Qc (Value.ref b :: As).toArray) XC free := by
  obtain ⟨⟨hrc, hrs, hfr, hlo, hws, hcw⟩, hcode, hini, hy, hlen, hl, hin, hse⟩ := cw
  have hK : vx_Back l R p e below s args y 3 8 (PreOf R mc ms Pc) (PostOf Qc mc ms free) (vx_Post XC mc ms free) := vx_backW (hh := hh) (bytes := bytes) (maxL := maxL) (ret := ret) hM hp.1 hrc hrs hfr hlo hws hcw (fun a' U hW => word_at hW (Or.inl (by first | rfl | simp [Cond.onTables, Cond.keeps, Cond.steady])) hini)
  obtain ⟨hx, hb, hml, ho, -⟩ := S
  obtain ⟨-, ⟨cellB, hcB, hoB, hclB⟩, hPc⟩ := hp
  intro T hT X
  rcases vx_callVX X hx (C := C) (hh := hh) (bytes := bytes) (maxL := maxL) (ret := ret) ho hl hin hse hcode hy hK (by rw [hT]; exact hcB) hoB hclB hg (hsize.trans hml.symm) (argsL := As) (rest := rest) (fun sig h => hn.trans (hlen sig h)) hstack hW (by rw [hb]; exact hdg)
    (fun vm₁ hW₁ => ⟨hf.1, hf.2, hPc (T.setVm vm₁) hT hW₁⟩) with ⟨v, vm₁, ⟨U', l2, c2, s2⟩, hW₁, X', ⟨g', mk, t, L, e1, e2, hq, h1, hL, h2, h3⟩, st⟩ | ⟨q, vm₁, ⟨U', l2, c2, s2⟩, hW₁, X', ⟨g', mk, t, L, E, ce, e1, e2, hq, hce, hcv, hcl, h1, hL, h2, h3⟩, st⟩
  · dsimp only [Pt.U, Pt.locs, Pt.cells, Pt.slots] at X' e1 e2 h1 h2 h3 st
    subst h1; subst h2; subst h3
    exact Or.inl ⟨v, (T.setVm vm₁).calling g' mk (Value.ref b :: As).toArray, t, U', L, hT, X', hL, e1, e2, hq, st⟩
  · dsimp only [Pt.U, Pt.locs, Pt.cells, Pt.slots] at X' e1 e2 h1 h2 h3 st hcl
    subst h1; subst h2; subst h3
    exact Or.inr ⟨q, (T.setVm vm₁).calling g' mk (Value.ref b :: As).toArray, t, U', L, E, ce, hT, X', hL, e1, e2, hq, hce, hcv, vx_cls hW₁ hcl, st⟩
theorem vx_runSX {hh : List (Nat × Nat × Nat × Nat)} (S : CallFix p m c cc nL s args Ts own) (hM : vx_Met l y ws rm Pc Qc XC mc ms free) (cw : vx_CSW R s args own index y bytes maxL ret hh ws rm mc ms n) (hp : PreS s H Pc As)
    (hg : g.method = m) (hn : As.length = n) (hsize : g.locals.size = nL) (hstack : g.stack = As.reverse ++ rest) (hW : 2 * g.monitorRoom + (rest.map fun v => v.category).sum ≤ 8) (hdg : decode cc g.pc = .ok (.invokestatic index, 3)) (hf : cells + mc ≤ R.cells ∧ slots + ms ≤ R.slots) :
    vx_Run p l e R s m args below meth c H locs cells slots mc ms g rest (Qc As.toArray) XC free := by
  obtain ⟨⟨hrc, hrs, hfr, hlo, hws, hcw⟩, hcode, hini, hy, hlen, hl, hstt⟩ := cw
  have hK : vx_Back l R p e below s args y 3 8 (PreOf R mc ms Pc) (PostOf Qc mc ms free) (vx_Post XC mc ms free) := vx_backW (hh := hh) (bytes := bytes) (maxL := maxL) (ret := ret) hM hp.1 hrc hrs hfr hlo hws hcw (fun a' U hW => word_at hW (Or.inl (by first | rfl | simp [Cond.onTables, Cond.keeps, Cond.steady])) hini)
  obtain ⟨hx, hb, hml, ho, -⟩ := S
  intro T hT X
  rcases vx_callSX X hx (hh := hh) (bytes := bytes) (maxL := maxL) (ret := ret) ho hl hstt hini hcode hy hK hg (hsize.trans hml.symm) (argsL := As) (rest := rest) (fun sig h => hn.trans (hlen sig h)) hstack hW (by rw [hb]; exact hdg)
    (fun vm₁ hW₁ => ⟨hf.1, hf.2, hp.2 (T.setVm vm₁) hT hW₁⟩) with ⟨v, vm₁, ⟨U', l2, c2, s2⟩, hW₁, X', ⟨g', mk, t, L, e1, e2, hq, h1, hL, h2, h3⟩, st⟩ | ⟨q, vm₁, ⟨U', l2, c2, s2⟩, hW₁, X', ⟨g', mk, t, L, E, ce, e1, e2, hq, hce, hcv, hcl, h1, hL, h2, h3⟩, st⟩
  · dsimp only [Pt.U, Pt.locs, Pt.cells, Pt.slots] at X' e1 e2 h1 h2 h3 st
    subst h1; subst h2; subst h3
    exact Or.inl ⟨v, (T.setVm vm₁).calling g' mk As.toArray, t, U', L, hT, X', hL, e1, e2, hq, st⟩
  · dsimp only [Pt.U, Pt.locs, Pt.cells, Pt.slots] at X' e1 e2 h1 h2 h3 st hcl
    subst h1; subst h2; subst h3
    exact Or.inr ⟨q, (T.setVm vm₁).calling g' mk As.toArray, t, U', L, E, ce, hT, X', hL, e1, e2, hq, hce, hcv, vx_cls hW₁ hcl, st⟩
end
end VXH
theorem vx_ofWH {l : Launch} {y : MethodName} {ws ws' : List Cond} {rm : Room} {Pc : Array Value → State → Prop} {Qc : Array Value → State → Outcome → State → Prop} {XC : String → State → State → Prop} {mc ms : Nat} {free : Addr → Prop} {cc : ByteArray} {maxL : Nat} {ret : Option FieldType} {hh : List (Nat × Nat × Nat × Nat)}
    (hy : plainName y.cls = true) (hw : ws = Cond.codeWith y cc maxL ret hh :: ws')
    (body : ∀ p e s m args below meth c s₁, BodyLoose p l y (headSpec ws rm) cc maxL ret e s m args below meth c s₁ → c.maxLocals = maxL → Pc args s →
      W p l e (headSpec ws rm).room s m args below meth c s.heap [] 0 0 (vx_MQ below Qc XC args s mc ms free) (entryFrame m args maxL)) : vx_Met l y ws rm Pc Qc XC mc ms free := by
  refine MetFree.of_bodyS (code := cc) (maxLocals := maxL) (ret := ret) hy ?_ ?_
  · intro args s m h hn
    obtain ⟨m9, meth, c, hn9, h1, h2, h3, h4, -, h5, h6, -⟩ := Cond.codeWith_spec (atoms_spec (ws := ws) h _ (by rw [hw]; exact List.mem_cons_self))
    cases hn.symm.trans hn9
    exact ⟨meth, c, h1, h2, h3, h4, h5, h6⟩
  · intro p e s m args below meth c s₁ B hml hP _
    have hh0 : s₁.heap = s.heap := by rw [B.state]; rfl
    obtain ⟨t, a1, o, b1, b2, b3⟩ := body p e s m args below meth c s₁ B hml hP s₁ hh0 (Stand.of_body B)
    exact ⟨t, o, a1, b1, b2, b3⟩
/-! ===== END ===== -/
end
section
def RX0 : String := "Pseudorange$Receiver"
def TX0 : u_T := fun k => match k with
  | 0 => ("Pseudorange$Receiver", "number", "I", true)
  | 1 => ("Pseudorange$Receiver", "bias", "I", true)
  | 2 => ("Pseudorange$Receiver", "sights", "[LPseudorange$Sight;", true)
  | 3 => ("Pseudorange$Receiver", "track", "LPseudorange$Track;", true)
  | 4 => ("Pseudorange$Receiver", "x", "I", false)
  | 5 => ("Pseudorange$Receiver", "y", "I", false)
  | 6 => ("Pseudorange$Receiver", "leftHill", "I", false)
  | 7 => ("Pseudorange$Receiver", "rightHill", "I", false)
  | 8 => ("Pseudorange$Receiver", "iono", "I", false)
  | 9 => ("Pseudorange$Receiver", "isDual", "Z", false)
  | 10 => ("Pseudorange$Receiver", "alertLimit", "I", false)
  | 11 => ("Pseudorange$Receiver", "spoofed", "I", false)
  | _ => ("Pseudorange$Receiver", "reference", "I", false)
def tyX0 : Nat → FieldType := fun k => match k with
  | 0 => .int
  | 1 => .int
  | 2 => .array (.object "Pseudorange$Sight")
  | 3 => .object "Pseudorange$Track"
  | 4 => .int
  | 5 => .int
  | 6 => .int
  | 7 => .int
  | 8 => .int
  | 9 => .boolean
  | 10 => .int
  | 11 => .int
  | _ => .int
abbrev wsX00 : List Cond := u_ws RX0 TX0 13
theorem nmX0 : ∀ a, a < 13 → ∀ b, b < 13 → a ≠ b → (TX0 a).2.1 ≠ (TX0 b).2.1 := by decide +kernel
theorem tyX0_ok : ∀ k, k < 13 → parseFieldDescriptor (TX0 k).2.2.1 = some (tyX0 k) := by decide +kernel
abbrev cX0_init : ByteArray := prog_2_method_1_code
def yX0_init : MethodName := ⟨RX0, "<init>", "(IIII)V"⟩
abbrev cX0_canSee : ByteArray := prog_2_method_2_code
def yX0_canSee : MethodName := ⟨RX0, "canSee", "(LPseudorange$Star;I)Z"⟩
abbrev cX0_trueCount : ByteArray := prog_2_method_3_code
def yX0_trueCount : MethodName := ⟨RX0, "trueCount", "(LPseudorange$Star;)I"⟩
abbrev cX0_airDelay : ByteArray := prog_2_method_4_code
def yX0_airDelay : MethodName := ⟨RX0, "airDelay", "(LPseudorange$Star;)I"⟩
def RX1 : String := "Pseudorange$Sight"
def TX1 : u_T := fun k => match k with
  | 0 => ("Pseudorange$Sight", "isSeen", "Z", false)
  | 1 => ("Pseudorange$Sight", "isFixed", "Z", false)
  | 2 => ("Pseudorange$Sight", "isUsed", "Z", false)
  | 3 => ("Pseudorange$Sight", "code", "I", false)
  | 4 => ("Pseudorange$Sight", "wave", "I", false)
  | 5 => ("Pseudorange$Sight", "count", "I", false)
  | 6 => ("Pseudorange$Sight", "left", "I", false)
  | 7 => ("Pseudorange$Sight", "kept", "I", false)
  | 8 => ("Pseudorange$Sight", "steady", "I", false)
  | 9 => ("Pseudorange$Sight", "correction", "I", false)
  | _ => ("Pseudorange$Sight", "offered", "I", false)
def tyX1 : Nat → FieldType := fun k => match k with
  | 0 => .boolean
  | 1 => .boolean
  | 2 => .boolean
  | 3 => .int
  | 4 => .int
  | 5 => .int
  | 6 => .int
  | 7 => .int
  | 8 => .int
  | 9 => .int
  | _ => .int
abbrev wsX10 : List Cond := u_ws RX1 TX1 11
theorem nmX1 : ∀ a, a < 11 → ∀ b, b < 11 → a ≠ b → (TX1 a).2.1 ≠ (TX1 b).2.1 := by decide +kernel
theorem tyX1_ok : ∀ k, k < 11 → parseFieldDescriptor (TX1 k).2.2.1 = some (tyX1 k) := by decide +kernel
abbrev cX1_init : ByteArray := prog_3_method_1_code
def yX1_init : MethodName := ⟨RX1, "<init>", "()V"⟩
abbrev cX1_take : ByteArray := prog_3_method_2_code
def yX1_take : MethodName := ⟨RX1, "take", "(IIZ)V"⟩
abbrev cX1_lose : ByteArray := prog_3_method_3_code
def yX1_lose : MethodName := ⟨RX1, "lose", "()V"⟩
abbrev cX1_forget : ByteArray := prog_3_method_4_code
def yX1_forget : MethodName := ⟨RX1, "forget", "()V"⟩
abbrev cX1_measured : ByteArray := prog_3_method_5_code
def yX1_measured : MethodName := ⟨RX1, "measured", "()I"⟩
abbrev cX1_tell : ByteArray := prog_3_method_6_code
def yX1_tell : MethodName := ⟨RX1, "tell", "(I)I"⟩
abbrev cX1_tellSeen : ByteArray := prog_3_method_7_code
def yX1_tellSeen : MethodName := ⟨RX1, "tellSeen", "(I)I"⟩
def RX2 : String := "Pseudorange$Solver"
def TX2 : u_T := fun k => match k with
  | 0 => ("Pseudorange$Solver", "starX", "[I", true)
  | 1 => ("Pseudorange$Solver", "starY", "[I", true)
  | 2 => ("Pseudorange$Solver", "pseudoranges", "[I", true)
  | 3 => ("Pseudorange$Solver", "weights", "[I", true)
  | 4 => ("Pseudorange$Solver", "over", "[I", true)
  | 5 => ("Pseudorange$Solver", "used", "I", false)
  | 6 => ("Pseudorange$Solver", "x", "I", false)
  | 7 => ("Pseudorange$Solver", "y", "I", false)
  | 8 => ("Pseudorange$Solver", "time", "I", false)
  | 9 => ("Pseudorange$Solver", "cost", "J", false)
  | 10 => ("Pseudorange$Solver", "level", "I", false)
  | 11 => ("Pseudorange$Solver", "bestX", "I", false)
  | 12 => ("Pseudorange$Solver", "bestY", "I", false)
  | 13 => ("Pseudorange$Solver", "bestTime", "I", false)
  | _ => ("Pseudorange$Solver", "bestCost", "J", false)
def tyX2 : Nat → FieldType := fun k => match k with
  | 0 => .array .int
  | 1 => .array .int
  | 2 => .array .int
  | 3 => .array .int
  | 4 => .array .int
  | 5 => .int
  | 6 => .int
  | 7 => .int
  | 8 => .int
  | 9 => .long
  | 10 => .int
  | 11 => .int
  | 12 => .int
  | 13 => .int
  | _ => .long
abbrev wsX20 : List Cond := u_ws RX2 TX2 15
theorem nmX2 : ∀ a, a < 15 → ∀ b, b < 15 → a ≠ b → (TX2 a).2.1 ≠ (TX2 b).2.1 := by decide +kernel
theorem tyX2_ok : ∀ k, k < 15 → parseFieldDescriptor (TX2 k).2.2.1 = some (tyX2 k) := by decide +kernel
abbrev cX2_init : ByteArray := prog_4_method_1_code
def yX2_init : MethodName := ⟨RX2, "<init>", "()V"⟩
abbrev cX2_clear : ByteArray := prog_4_method_2_code
def yX2_clear : MethodName := ⟨RX2, "clear", "()V"⟩
abbrev cX2_use : ByteArray := prog_4_method_3_code
def yX2_use : MethodName := ⟨RX2, "use", "(IIII)V"⟩
abbrev cX2_hasSolution : ByteArray := prog_4_method_4_code
def yX2_hasSolution : MethodName := ⟨RX2, "hasSolution", "()Z"⟩
abbrev cX2_solve : ByteArray := prog_4_method_5_code
def yX2_solve : MethodName := ⟨RX2, "solve", "()V"⟩
abbrev cX2_search : ByteArray := prog_4_method_6_code
def yX2_search : MethodName := ⟨RX2, "search", "(I)V"⟩
abbrev cX2_tryPlace : ByteArray := prog_4_method_7_code
def yX2_tryPlace : MethodName := ⟨RX2, "tryPlace", "(III)V"⟩
abbrev cX2_costBy : ByteArray := prog_4_method_8_code
def yX2_costBy : MethodName := ⟨RX2, "costBy", "(II)J"⟩
def RX3 : String := "Pseudorange$Star"
def TX3 : u_T := fun k => match k with
  | 0 => ("Pseudorange$Star", "radius", "I", true)
  | 1 => ("Pseudorange$Star", "spin", "I", true)
  | 2 => ("Pseudorange$Star", "phase", "I", false)
  | 3 => ("Pseudorange$Star", "offset", "I", false)
  | 4 => ("Pseudorange$Star", "drift", "I", false)
  | 5 => ("Pseudorange$Star", "isHealthy", "Z", false)
  | 6 => ("Pseudorange$Star", "issue", "I", false)
  | 7 => ("Pseudorange$Star", "toldEpoch", "I", false)
  | 8 => ("Pseudorange$Star", "toldPhase", "I", false)
  | 9 => ("Pseudorange$Star", "toldOffset", "I", false)
  | _ => ("Pseudorange$Star", "toldDrift", "I", false)
def tyX3 : Nat → FieldType := fun k => match k with
  | 0 => .int
  | 1 => .int
  | 2 => .int
  | 3 => .int
  | 4 => .int
  | 5 => .boolean
  | 6 => .int
  | 7 => .int
  | 8 => .int
  | 9 => .int
  | _ => .int
abbrev wsX30 : List Cond := u_ws RX3 TX3 11
theorem nmX3 : ∀ a, a < 11 → ∀ b, b < 11 → a ≠ b → (TX3 a).2.1 ≠ (TX3 b).2.1 := by decide +kernel
theorem tyX3_ok : ∀ k, k < 11 → parseFieldDescriptor (TX3 k).2.2.1 = some (tyX3 k) := by decide +kernel
abbrev cX3_init : ByteArray := prog_5_method_1_code
def yX3_init : MethodName := ⟨RX3, "<init>", "(IIIII)V"⟩
abbrev cX3_moveClock : ByteArray := prog_5_method_2_code
def yX3_moveClock : MethodName := ⟨RX3, "moveClock", "(I)V"⟩
abbrev cX3_passOne : ByteArray := prog_5_method_3_code
def yX3_passOne : MethodName := ⟨RX3, "passOne", "()V"⟩
abbrev cX3_xIn : ByteArray := prog_5_method_4_code
def yX3_xIn : MethodName := ⟨RX3, "xIn", "(I)I"⟩
abbrev cX3_yIn : ByteArray := prog_5_method_5_code
def yX3_yIn : MethodName := ⟨RX3, "yIn", "(I)I"⟩
abbrev cX3_takeMessage : ByteArray := prog_5_method_6_code
def yX3_takeMessage : MethodName := ⟨RX3, "takeMessage", "(II)V"⟩
abbrev cX3_messageHolds : ByteArray := prog_5_method_7_code
def yX3_messageHolds : MethodName := ⟨RX3, "messageHolds", "(I)Z"⟩
abbrev cX3_toldX : ByteArray := prog_5_method_8_code
def yX3_toldX : MethodName := ⟨RX3, "toldX", "(I)I"⟩
abbrev cX3_toldY : ByteArray := prog_5_method_9_code
def yX3_toldY : MethodName := ⟨RX3, "toldY", "(I)I"⟩
abbrev cX3_toldClock : ByteArray := prog_5_method_10_code
def yX3_toldClock : MethodName := ⟨RX3, "toldClock", "(I)I"⟩
abbrev cX3_tell : ByteArray := prog_5_method_11_code
def yX3_tell : MethodName := ⟨RX3, "tell", "(I)I"⟩
abbrev cX3_tellMessage : ByteArray := prog_5_method_12_code
def yX3_tellMessage : MethodName := ⟨RX3, "tellMessage", "(II)I"⟩
def RX4 : String := "Pseudorange$Station"
def TX4 : u_T := fun k => match k with
  | 0 => ("Pseudorange$Station", "x", "I", true)
  | _ => ("Pseudorange$Station", "delay", "I", true)
def tyX4 : Nat → FieldType := fun k => match k with
  | 0 => .int
  | _ => .int
abbrev wsX40 : List Cond := u_ws RX4 TX4 2
theorem nmX4 : ∀ a, a < 2 → ∀ b, b < 2 → a ≠ b → (TX4 a).2.1 ≠ (TX4 b).2.1 := by decide +kernel
theorem tyX4_ok : ∀ k, k < 2 → parseFieldDescriptor (TX4 k).2.2.1 = some (tyX4 k) := by decide +kernel
abbrev cX4_init : ByteArray := prog_6_method_1_code
def yX4_init : MethodName := ⟨RX4, "<init>", "(II)V"⟩
abbrev cX4_canHear : ByteArray := prog_6_method_2_code
def yX4_canHear : MethodName := ⟨RX4, "canHear", "(LPseudorange$Star;I)Z"⟩
def RX5 : String := "Pseudorange$Track"
def TX5 : u_T := fun k => match k with
  | 0 => ("Pseudorange$Track", "observations", "I", false)
  | 1 => ("Pseudorange$Track", "latest", "I", false)
  | 2 => ("Pseudorange$Track", "used", "I", false)
  | 3 => ("Pseudorange$Track", "solutions", "I", false)
  | 4 => ("Pseudorange$Track", "errors", "I", false)
  | 5 => ("Pseudorange$Track", "x", "I", false)
  | 6 => ("Pseudorange$Track", "y", "I", false)
  | 7 => ("Pseudorange$Track", "time", "I", false)
  | 8 => ("Pseudorange$Track", "cost", "I", false)
  | 9 => ("Pseudorange$Track", "level", "I", false)
  | 10 => ("Pseudorange$Track", "alarm", "I", false)
  | 11 => ("Pseudorange$Track", "misled", "I", false)
  | _ => ("Pseudorange$Track", "alarmEpoch", "I", false)
def tyX5 : Nat → FieldType := fun k => match k with
  | 0 => .int
  | 1 => .int
  | 2 => .int
  | 3 => .int
  | 4 => .int
  | 5 => .int
  | 6 => .int
  | 7 => .int
  | 8 => .int
  | 9 => .int
  | 10 => .int
  | 11 => .int
  | _ => .int
abbrev wsX50 : List Cond := u_ws RX5 TX5 13
theorem nmX5 : ∀ a, a < 13 → ∀ b, b < 13 → a ≠ b → (TX5 a).2.1 ≠ (TX5 b).2.1 := by decide +kernel
theorem tyX5_ok : ∀ k, k < 13 → parseFieldDescriptor (TX5 k).2.2.1 = some (tyX5 k) := by decide +kernel
abbrev cX5_init : ByteArray := prog_7_method_1_code
def yX5_init : MethodName := ⟨RX5, "<init>", "()V"⟩
abbrev cX5_hasObservedIn : ByteArray := prog_7_method_2_code
def yX5_hasObservedIn : MethodName := ⟨RX5, "hasObservedIn", "(I)Z"⟩
abbrev cX5_hasObservedSince : ByteArray := prog_7_method_3_code
def yX5_hasObservedSince : MethodName := ⟨RX5, "hasObservedSince", "(I)Z"⟩
abbrev cX5_leapsTo : ByteArray := prog_7_method_4_code
def yX5_leapsTo : MethodName := ⟨RX5, "leapsTo", "(III)Z"⟩
abbrev cX5_keepAll : ByteArray := prog_7_method_5_code
def yX5_keepAll : MethodName := ⟨RX5, "keepAll", "(ILPseudorange$Solver;III)V"⟩
abbrev cX5_keepSolution : ByteArray := prog_7_method_6_code
def yX5_keepSolution : MethodName := ⟨RX5, "keepSolution", "(LPseudorange$Solver;II)V"⟩
abbrev cX5_errorAt : ByteArray := prog_7_method_7_code
def yX5_errorAt : MethodName := ⟨RX5, "errorAt", "(II)I"⟩
abbrev cX5_meanOfErrors : ByteArray := prog_7_method_8_code
def yX5_meanOfErrors : MethodName := ⟨RX5, "meanOfErrors", "()D"⟩
abbrev cX5_tell : ByteArray := prog_7_method_9_code
def yX5_tell : MethodName := ⟨RX5, "tell", "(I)I"⟩
def RX6 : String := "Pseudorange"
def TX6 : u_T := fun k => match k with
  | 0 => ("Pseudorange", "stars", "[LPseudorange$Star;", true)
  | 1 => ("Pseudorange", "stations", "[LPseudorange$Station;", true)
  | 2 => ("Pseudorange", "receivers", "[LPseudorange$Receiver;", true)
  | 3 => ("Pseudorange", "solver", "LPseudorange$Solver;", true)
  | 4 => ("Pseudorange", "starCount", "I", false)
  | 5 => ("Pseudorange", "stationCount", "I", false)
  | 6 => ("Pseudorange", "receiverCount", "I", false)
  | _ => ("Pseudorange", "epoch", "I", false)
def tyX6 : Nat → FieldType := fun k => match k with
  | 0 => .array (.object "Pseudorange$Star")
  | 1 => .array (.object "Pseudorange$Station")
  | 2 => .array (.object "Pseudorange$Receiver")
  | 3 => .object "Pseudorange$Solver"
  | 4 => .int
  | 5 => .int
  | 6 => .int
  | _ => .int
abbrev wsX60 : List Cond := u_ws RX6 TX6 8
theorem nmX6 : ∀ a, a < 8 → ∀ b, b < 8 → a ≠ b → (TX6 a).2.1 ≠ (TX6 b).2.1 := by decide +kernel
theorem tyX6_ok : ∀ k, k < 8 → parseFieldDescriptor (TX6 k).2.2.1 = some (tyX6 k) := by decide +kernel
abbrev cX6_init : ByteArray := prog_1_method_1_code
def yX6_init : MethodName := ⟨RX6, "<init>", "()V"⟩
abbrev cX6_star : ByteArray := prog_1_method_2_code
def yX6_star : MethodName := ⟨RX6, "star", "(IIIII)I"⟩
abbrev cX6_push : ByteArray := prog_1_method_3_code
def yX6_push : MethodName := ⟨RX6, "push", "(II)I"⟩
abbrev cX6_jump : ByteArray := prog_1_method_4_code
def yX6_jump : MethodName := ⟨RX6, "jump", "(III)I"⟩
abbrev cX6_health : ByteArray := prog_1_method_5_code
def yX6_health : MethodName := ⟨RX6, "health", "(IZ)Z"⟩
abbrev cX6_station : ByteArray := prog_1_method_6_code
def yX6_station : MethodName := ⟨RX6, "station", "(II)I"⟩
abbrev cX6_listen : ByteArray := prog_1_method_7_code
def yX6_listen : MethodName := ⟨RX6, "listen", "(II)I"⟩
abbrev cX6_receiver : ByteArray := prog_1_method_8_code
def yX6_receiver : MethodName := ⟨RX6, "receiver", "(III)I"⟩
abbrev cX6_go : ByteArray := prog_1_method_9_code
def yX6_go : MethodName := ⟨RX6, "go", "(III)I"⟩
abbrev cX6_hills : ByteArray := prog_1_method_10_code
def yX6_hills : MethodName := ⟨RX6, "hills", "(III)I"⟩
abbrev cX6_air : ByteArray := prog_1_method_11_code
def yX6_air : MethodName := ⟨RX6, "air", "(IIZ)I"⟩
abbrev cX6_alert : ByteArray := prog_1_method_12_code
def yX6_alert : MethodName := ⟨RX6, "alert", "(II)I"⟩
abbrev cX6_spoof : ByteArray := prog_1_method_13_code
def yX6_spoof : MethodName := ⟨RX6, "spoof", "(II)I"⟩
abbrev cX6_refer : ByteArray := prog_1_method_14_code
def yX6_refer : MethodName := ⟨RX6, "refer", "(II)I"⟩
abbrev cX6_pass : ByteArray := prog_1_method_15_code
def yX6_pass : MethodName := ⟨RX6, "pass", "(I)I"⟩
abbrev cX6_observe : ByteArray := prog_1_method_16_code
def yX6_observe : MethodName := ⟨RX6, "observe", "(I)I"⟩
abbrev cX6_ofStar : ByteArray := prog_1_method_17_code
def yX6_ofStar : MethodName := ⟨RX6, "ofStar", "(II)I"⟩
abbrev cX6_message : ByteArray := prog_1_method_18_code
def yX6_message : MethodName := ⟨RX6, "message", "(II)I"⟩
abbrev cX6_seen : ByteArray := prog_1_method_19_code
def yX6_seen : MethodName := ⟨RX6, "seen", "(III)I"⟩
abbrev cX6_ofReceiver : ByteArray := prog_1_method_20_code
def yX6_ofReceiver : MethodName := ⟨RX6, "ofReceiver", "(II)I"⟩
abbrev cX6_many : ByteArray := prog_1_method_21_code
def yX6_many : MethodName := ⟨RX6, "many", "(I)I"⟩
abbrev cX6_meanError : ByteArray := prog_1_method_22_code
def yX6_meanError : MethodName := ⟨RX6, "meanError", "(I)D"⟩
abbrev cX6_wouldSee : ByteArray := prog_1_method_23_code
def yX6_wouldSee : MethodName := ⟨RX6, "wouldSee", "(II)I"⟩
abbrev cX6_heardIn : ByteArray := prog_1_method_24_code
def yX6_heardIn : MethodName := ⟨RX6, "heardIn", "(II)I"⟩
abbrev cX6_without : ByteArray := prog_1_method_25_code
def yX6_without : MethodName := ⟨RX6, "without", "(II)I"⟩
abbrev cX6_wouldAlarm : ByteArray := prog_1_method_26_code
def yX6_wouldAlarm : MethodName := ⟨RX6, "wouldAlarm", "(I)I"⟩
abbrev cX6_digest : ByteArray := prog_1_method_27_code
def yX6_digest : MethodName := ⟨RX6, "digest", "()J"⟩
abbrev cX6_isOutside : ByteArray := prog_1_method_28_code
def yX6_isOutside : MethodName := ⟨RX6, "isOutside", "(III)Z"⟩
abbrev cX6_isNoPlace : ByteArray := prog_1_method_29_code
def yX6_isNoPlace : MethodName := ⟨RX6, "isNoPlace", "(II)Z"⟩
abbrev cX6_isNoStar : ByteArray := prog_1_method_30_code
def yX6_isNoStar : MethodName := ⟨RX6, "isNoStar", "(I)Z"⟩
abbrev cX6_isNoStation : ByteArray := prog_1_method_31_code
def yX6_isNoStation : MethodName := ⟨RX6, "isNoStation", "(I)Z"⟩
abbrev cX6_isNoReceiver : ByteArray := prog_1_method_32_code
def yX6_isNoReceiver : MethodName := ⟨RX6, "isNoReceiver", "(I)Z"⟩
abbrev cX6_held : ByteArray := prog_1_method_33_code
def yX6_held : MethodName := ⟨RX6, "held", "(II)I"⟩
abbrev cX6_rangeOf : ByteArray := prog_1_method_34_code
def yX6_rangeOf : MethodName := ⟨RX6, "rangeOf", "(IIII)I"⟩
abbrev cX6_swing : ByteArray := prog_1_method_35_code
def yX6_swing : MethodName := ⟨RX6, "swing", "(I)I"⟩
abbrev cX6_passOne : ByteArray := prog_1_method_36_code
def yX6_passOne : MethodName := ⟨RX6, "passOne", "()V"⟩
abbrev cX6_setSeen : ByteArray := prog_1_method_37_code
def yX6_setSeen : MethodName := ⟨RX6, "setSeen", "(LPseudorange$Receiver;I)I"⟩
abbrev cX6_firstHeard : ByteArray := prog_1_method_38_code
def yX6_firstHeard : MethodName := ⟨RX6, "firstHeard", "(LPseudorange$Star;LPseudorange$Station;)I"⟩
abbrev cX6_measure : ByteArray := prog_1_method_39_code
def yX6_measure : MethodName := ⟨RX6, "measure", "(LPseudorange$Receiver;)V"⟩
abbrev cX6_codeOf : ByteArray := prog_1_method_40_code
def yX6_codeOf : MethodName := ⟨RX6, "codeOf", "(LPseudorange$Receiver;I)I"⟩
abbrev cX6_gatherMeasured : ByteArray := prog_1_method_41_code
def yX6_gatherMeasured : MethodName := ⟨RX6, "gatherMeasured", "(LPseudorange$Receiver;)V"⟩
abbrev cX6_gatherSupposed : ByteArray := prog_1_method_42_code
def yX6_gatherSupposed : MethodName := ⟨RX6, "gatherSupposed", "(LPseudorange$Receiver;I)V"⟩
abbrev cX6_use : ByteArray := prog_1_method_43_code
def yX6_use : MethodName := ⟨RX6, "use", "(LPseudorange$Star;IZ)V"⟩
abbrev cX6_correctionOf : ByteArray := prog_1_method_44_code
def yX6_correctionOf : MethodName := ⟨RX6, "correctionOf", "(LPseudorange$Receiver;I)I"⟩
abbrev cX6_offerCorrections : ByteArray := prog_1_method_45_code
def yX6_offerCorrections : MethodName := ⟨RX6, "offerCorrections", "(LPseudorange$Receiver;)V"⟩
abbrev cX6_tooFar : ByteArray := prog_1_method_46_code
def yX6_tooFar : MethodName := ⟨RX6, "tooFar", "(LPseudorange$Receiver;LPseudorange$Star;I)I"⟩
abbrev cX6_alarmOf : ByteArray := prog_1_method_47_code
def yX6_alarmOf : MethodName := ⟨RX6, "alarmOf", "(LPseudorange$Receiver;Z)I"⟩
abbrev cX6_supposedAlarm : ByteArray := prog_1_method_48_code
def yX6_supposedAlarm : MethodName := ⟨RX6, "supposedAlarm", "(LPseudorange$Receiver;)I"⟩
abbrev cX6_tellReceiver : ByteArray := prog_1_method_49_code
def yX6_tellReceiver : MethodName := ⟨RX6, "tellReceiver", "(LPseudorange$Receiver;I)I"⟩
abbrev cX6_countOf : ByteArray := prog_1_method_50_code
def yX6_countOf : MethodName := ⟨RX6, "countOf", "(I)I"⟩
abbrev cX6_sumOfStars : ByteArray := prog_1_method_51_code
def yX6_sumOfStars : MethodName := ⟨RX6, "sumOfStars", "(I)I"⟩
abbrev cX6_sumOfReceivers : ByteArray := prog_1_method_52_code
def yX6_sumOfReceivers : MethodName := ⟨RX6, "sumOfReceivers", "(I)I"⟩
abbrev cX6_digestStar : ByteArray := prog_1_method_53_code
def yX6_digestStar : MethodName := ⟨RX6, "digestStar", "(JLPseudorange$Star;)J"⟩
abbrev cX6_digestReceiver : ByteArray := prog_1_method_54_code
def yX6_digestReceiver : MethodName := ⟨RX6, "digestReceiver", "(JLPseudorange$Receiver;)J"⟩
def RX7 : String := "PseudorangeModel"
def TX7 : u_T := fun k => match k with
  | 0 => ("PseudorangeModel", "thrown", "I", false)
  | 1 => ("PseudorangeModel", "epoch", "I", false)
  | 2 => ("PseudorangeModel", "observations", "I", false)
  | 3 => ("PseudorangeModel", "stars", "[[I", true)
  | 4 => ("PseudorangeModel", "messages", "[[I", true)
  | 5 => ("PseudorangeModel", "stations", "[[I", true)
  | 6 => ("PseudorangeModel", "receivers", "[[I", true)
  | 7 => ("PseudorangeModel", "rows", "[[[I", true)
  | 8 => ("PseudorangeModel", "manyStars", "I", false)
  | 9 => ("PseudorangeModel", "manyStations", "I", false)
  | 10 => ("PseudorangeModel", "manyReceivers", "I", false)
  | 11 => ("PseudorangeModel", "sx", "[I", true)
  | 12 => ("PseudorangeModel", "sy", "[I", true)
  | 13 => ("PseudorangeModel", "pseudo", "[I", true)
  | 14 => ("PseudorangeModel", "weights", "[I", true)
  | 15 => ("PseudorangeModel", "bestX", "I", false)
  | 16 => ("PseudorangeModel", "bestY", "I", false)
  | 17 => ("PseudorangeModel", "bestTime", "I", false)
  | 18 => ("PseudorangeModel", "bestCost", "J", false)
  | _ => ("PseudorangeModel", "sum", "J", false)
def tyX7 : Nat → FieldType := fun k => match k with
  | 0 => .int
  | 1 => .int
  | 2 => .int
  | 3 => .array (.array .int)
  | 4 => .array (.array .int)
  | 5 => .array (.array .int)
  | 6 => .array (.array .int)
  | 7 => .array (.array (.array .int))
  | 8 => .int
  | 9 => .int
  | 10 => .int
  | 11 => .array .int
  | 12 => .array .int
  | 13 => .array .int
  | 14 => .array .int
  | 15 => .int
  | 16 => .int
  | 17 => .int
  | 18 => .long
  | _ => .long
abbrev wsX70 : List Cond := u_ws RX7 TX7 20
theorem nmX7 : ∀ a, a < 20 → ∀ b, b < 20 → a ≠ b → (TX7 a).2.1 ≠ (TX7 b).2.1 := by decide +kernel
theorem tyX7_ok : ∀ k, k < 20 → parseFieldDescriptor (TX7 k).2.2.1 = some (tyX7 k) := by decide +kernel
abbrev cX7_init : ByteArray := prog_9_method_1_code
def yX7_init : MethodName := ⟨RX7, "<init>", "()V"⟩
abbrev cX7_thrown : ByteArray := prog_9_method_2_code
def yX7_thrown : MethodName := ⟨RX7, "thrown", "()I"⟩
abbrev cX7_refuse : ByteArray := prog_9_method_3_code
def yX7_refuse : MethodName := ⟨RX7, "refuse", "(I)I"⟩
abbrev cX7_is : ByteArray := prog_9_method_4_code
def yX7_is : MethodName := ⟨RX7, "is", "(III)Z"⟩
abbrev cX7_held : ByteArray := prog_9_method_5_code
def yX7_held : MethodName := ⟨RX7, "held", "(II)I"⟩
abbrev cX7_tOf : ByteArray := prog_9_method_6_code
def yX7_tOf : MethodName := ⟨RX7, "tOf", "(I)I"⟩
abbrev cX7_xAt : ByteArray := prog_9_method_7_code
def yX7_xAt : MethodName := ⟨RX7, "xAt", "(II)I"⟩
abbrev cX7_yAt : ByteArray := prog_9_method_8_code
def yX7_yAt : MethodName := ⟨RX7, "yAt", "(II)I"⟩
abbrev cX7_range : ByteArray := prog_9_method_9_code
def yX7_range : MethodName := ⟨RX7, "range", "(IIII)I"⟩
abbrev cX7_phaseIn : ByteArray := prog_9_method_10_code
def yX7_phaseIn : MethodName := ⟨RX7, "phaseIn", "(II)I"⟩
abbrev cX7_since : ByteArray := prog_9_method_11_code
def yX7_since : MethodName := ⟨RX7, "since", "(I)I"⟩
abbrev cX7_toldPhase : ByteArray := prog_9_method_12_code
def yX7_toldPhase : MethodName := ⟨RX7, "toldPhase", "(I)I"⟩
abbrev cX7_toldOffset : ByteArray := prog_9_method_13_code
def yX7_toldOffset : MethodName := ⟨RX7, "toldOffset", "(I)I"⟩
abbrev cX7_holds : ByteArray := prog_9_method_14_code
def yX7_holds : MethodName := ⟨RX7, "holds", "(I)Z"⟩
abbrev cX7_isHeard : ByteArray := prog_9_method_15_code
def yX7_isHeard : MethodName := ⟨RX7, "isHeard", "(III)Z"⟩
abbrev cX7_sees : ByteArray := prog_9_method_16_code
def yX7_sees : MethodName := ⟨RX7, "sees", "(III)Z"⟩
abbrev cX7_setSeen : ByteArray := prog_9_method_17_code
def yX7_setSeen : MethodName := ⟨RX7, "setSeen", "(II)I"⟩
abbrev cX7_isStar : ByteArray := prog_9_method_18_code
def yX7_isStar : MethodName := ⟨RX7, "isStar", "(I)Z"⟩
abbrev cX7_isStation : ByteArray := prog_9_method_19_code
def yX7_isStation : MethodName := ⟨RX7, "isStation", "(I)Z"⟩
abbrev cX7_isReceiver : ByteArray := prog_9_method_20_code
def yX7_isReceiver : MethodName := ⟨RX7, "isReceiver", "(I)Z"⟩
abbrev cX7_star : ByteArray := prog_9_method_21_code
def yX7_star : MethodName := ⟨RX7, "star", "(IIIII)I"⟩
abbrev cX7_push : ByteArray := prog_9_method_22_code
def yX7_push : MethodName := ⟨RX7, "push", "(II)I"⟩
abbrev cX7_jump : ByteArray := prog_9_method_23_code
def yX7_jump : MethodName := ⟨RX7, "jump", "(III)I"⟩
abbrev cX7_health : ByteArray := prog_9_method_24_code
def yX7_health : MethodName := ⟨RX7, "health", "(IZ)Z"⟩
abbrev cX7_station : ByteArray := prog_9_method_25_code
def yX7_station : MethodName := ⟨RX7, "station", "(II)I"⟩
abbrev cX7_listen : ByteArray := prog_9_method_26_code
def yX7_listen : MethodName := ⟨RX7, "listen", "(II)I"⟩
abbrev cX7_isPlace : ByteArray := prog_9_method_27_code
def yX7_isPlace : MethodName := ⟨RX7, "isPlace", "(II)Z"⟩
abbrev cX7_receiver : ByteArray := prog_9_method_28_code
def yX7_receiver : MethodName := ⟨RX7, "receiver", "(III)I"⟩
abbrev cX7_go : ByteArray := prog_9_method_29_code
def yX7_go : MethodName := ⟨RX7, "go", "(III)I"⟩
abbrev cX7_hills : ByteArray := prog_9_method_30_code
def yX7_hills : MethodName := ⟨RX7, "hills", "(III)I"⟩
abbrev cX7_change : ByteArray := prog_9_method_31_code
def yX7_change : MethodName := ⟨RX7, "change", "(III)I"⟩
abbrev cX7_air : ByteArray := prog_9_method_32_code
def yX7_air : MethodName := ⟨RX7, "air", "(IIZ)I"⟩
abbrev cX7_alert : ByteArray := prog_9_method_33_code
def yX7_alert : MethodName := ⟨RX7, "alert", "(II)I"⟩
abbrev cX7_spoof : ByteArray := prog_9_method_34_code
def yX7_spoof : MethodName := ⟨RX7, "spoof", "(II)I"⟩
abbrev cX7_refer : ByteArray := prog_9_method_35_code
def yX7_refer : MethodName := ⟨RX7, "refer", "(II)I"⟩
abbrev cX7_pass : ByteArray := prog_9_method_36_code
def yX7_pass : MethodName := ⟨RX7, "pass", "(I)I"⟩
abbrev cX7_trueOf : ByteArray := prog_9_method_37_code
def yX7_trueOf : MethodName := ⟨RX7, "trueOf", "(II)I"⟩
abbrev cX7_codeOf : ByteArray := prog_9_method_38_code
def yX7_codeOf : MethodName := ⟨RX7, "codeOf", "(II)I"⟩
abbrev cX7_correction : ByteArray := prog_9_method_39_code
def yX7_correction : MethodName := ⟨RX7, "correction", "(II)I"⟩
abbrev cX7_solve : ByteArray := prog_9_method_40_code
def yX7_solve : MethodName := ⟨RX7, "solve", "()V"⟩
abbrev cX7_over : ByteArray := prog_9_method_41_code
def yX7_over : MethodName := ⟨RX7, "over", "(III)I"⟩
abbrev cX7_look : ByteArray := prog_9_method_42_code
def yX7_look : MethodName := ⟨RX7, "look", "(II)V"⟩
abbrev cX7_lay : ByteArray := prog_9_method_43_code
def yX7_lay : MethodName := ⟨RX7, "lay", "(IZI)I"⟩
abbrev cX7_level : ByteArray := prog_9_method_44_code
def yX7_level : MethodName := ⟨RX7, "level", "(I)I"⟩
abbrev cX7_alarm : ByteArray := prog_9_method_45_code
def yX7_alarm : MethodName := ⟨RX7, "alarm", "(III)I"⟩
abbrev cX7_see : ByteArray := prog_9_method_46_code
def yX7_see : MethodName := ⟨RX7, "see", "(IIZ)V"⟩
abbrev cX7_observe : ByteArray := prog_9_method_47_code
def yX7_observe : MethodName := ⟨RX7, "observe", "(I)I"⟩
abbrev cX7_place : ByteArray := prog_9_method_48_code
def yX7_place : MethodName := ⟨RX7, "place", "(IIZII)V"⟩
abbrev cX7_ofStarNow : ByteArray := prog_9_method_49_code
def yX7_ofStarNow : MethodName := ⟨RX7, "ofStarNow", "(II)I"⟩
abbrev cX7_ofStar : ByteArray := prog_9_method_50_code
def yX7_ofStar : MethodName := ⟨RX7, "ofStar", "(II)I"⟩
abbrev cX7_messageNow : ByteArray := prog_9_method_51_code
def yX7_messageNow : MethodName := ⟨RX7, "messageNow", "(II)I"⟩
abbrev cX7_message : ByteArray := prog_9_method_52_code
def yX7_message : MethodName := ⟨RX7, "message", "(II)I"⟩
abbrev cX7_seenNow : ByteArray := prog_9_method_53_code
def yX7_seenNow : MethodName := ⟨RX7, "seenNow", "(III)I"⟩
abbrev cX7_seen : ByteArray := prog_9_method_54_code
def yX7_seen : MethodName := ⟨RX7, "seen", "(III)I"⟩
abbrev cX7_ofReceiverNow : ByteArray := prog_9_method_55_code
def yX7_ofReceiverNow : MethodName := ⟨RX7, "ofReceiverNow", "(II)I"⟩
abbrev cX7_ofReceiver : ByteArray := prog_9_method_56_code
def yX7_ofReceiver : MethodName := ⟨RX7, "ofReceiver", "(II)I"⟩
abbrev cX7_manyNow : ByteArray := prog_9_method_57_code
def yX7_manyNow : MethodName := ⟨RX7, "manyNow", "(I)I"⟩
abbrev cX7_many : ByteArray := prog_9_method_58_code
def yX7_many : MethodName := ⟨RX7, "many", "(I)I"⟩
abbrev cX7_meanError : ByteArray := prog_9_method_59_code
def yX7_meanError : MethodName := ⟨RX7, "meanError", "(I)D"⟩
abbrev cX7_wouldSee : ByteArray := prog_9_method_60_code
def yX7_wouldSee : MethodName := ⟨RX7, "wouldSee", "(II)I"⟩
abbrev cX7_heardNow : ByteArray := prog_9_method_61_code
def yX7_heardNow : MethodName := ⟨RX7, "heardNow", "(II)I"⟩
abbrev cX7_heardIn : ByteArray := prog_9_method_62_code
def yX7_heardIn : MethodName := ⟨RX7, "heardIn", "(II)I"⟩
abbrev cX7_without : ByteArray := prog_9_method_63_code
def yX7_without : MethodName := ⟨RX7, "without", "(II)I"⟩
abbrev cX7_alarmNow : ByteArray := prog_9_method_64_code
def yX7_alarmNow : MethodName := ⟨RX7, "alarmNow", "(I)I"⟩
abbrev cX7_wouldAlarm : ByteArray := prog_9_method_65_code
def yX7_wouldAlarm : MethodName := ⟨RX7, "wouldAlarm", "(I)I"⟩
abbrev cX7_add : ByteArray := prog_9_method_66_code
def yX7_add : MethodName := ⟨RX7, "add", "(I)V"⟩
abbrev cX7_digest : ByteArray := prog_9_method_67_code
def yX7_digest : MethodName := ⟨RX7, "digest", "()J"⟩
def RJ6 : String := "java/lang/Integer"
def TJ6 : u_T := fun k => match k with
  | _ => ("", "", "", false)
def tyJ6 : Nat → FieldType := fun k => match k with
  | _ => .int
abbrev wsJ60 : List Cond := u_ws RJ6 TJ6 0
theorem nmJ6 : ∀ a, a < 0 → ∀ b, b < 0 → a ≠ b → (TJ6 a).2.1 ≠ (TJ6 b).2.1 := by decide +kernel
theorem tyJ6_ok : ∀ k, k < 0 → parseFieldDescriptor (TJ6 k).2.2.1 = some (tyJ6 k) := by decide +kernel
abbrev cJ6_bitCount_0f7a4 : ByteArray := prog_14_method_49_code
def yJ6_bitCount_0f7a4 : MethodName := ⟨RJ6, "bitCount", "(I)I"⟩
def RJ9 : String := "java/lang/Math"
def TJ9 : u_T := fun k => match k with
  | _ => ("", "", "", false)
def tyJ9 : Nat → FieldType := fun k => match k with
  | _ => .int
abbrev wsJ90 : List Cond := u_ws RJ9 TJ9 0
theorem nmJ9 : ∀ a, a < 0 → ∀ b, b < 0 → a ≠ b → (TJ9 a).2.1 ≠ (TJ9 b).2.1 := by decide +kernel
theorem tyJ9_ok : ∀ k, k < 0 → parseFieldDescriptor (TJ9 k).2.2.1 = some (tyJ9 k) := by decide +kernel
abbrev cJ9_floorDiv_7cf53 : ByteArray := prog_15_method_47_code
def yJ9_floorDiv_7cf53 : MethodName := ⟨RJ9, "floorDiv", "(II)I"⟩
abbrev cJ9_floorMod_7cf53 : ByteArray := prog_15_method_50_code
def yJ9_floorMod_7cf53 : MethodName := ⟨RJ9, "floorMod", "(II)I"⟩
abbrev cJ9_abs_0f7a4 : ByteArray := prog_15_method_59_code
def yJ9_abs_0f7a4 : MethodName := ⟨RJ9, "abs", "(I)I"⟩
abbrev cJ9_max_7cf53 : ByteArray := prog_15_method_65_code
def yJ9_max_7cf53 : MethodName := ⟨RJ9, "max", "(II)I"⟩
abbrev cJ9_min_7cf53 : ByteArray := prog_15_method_69_code
def yJ9_min_7cf53 : MethodName := ⟨RJ9, "min", "(II)I"⟩
def RJ0 : String := "java/lang/String"
def TJ0 : u_T := fun k => match k with
  | _ => ("", "", "", false)
def tyJ0 : Nat → FieldType := fun k => match k with
  | _ => .int
abbrev wsJ00 : List Cond := u_ws RJ0 TJ0 0
theorem nmJ0 : ∀ a, a < 0 → ∀ b, b < 0 → a ≠ b → (TJ0 a).2.1 ≠ (TJ0 b).2.1 := by decide +kernel
theorem tyJ0_ok : ∀ k, k < 0 → parseFieldDescriptor (TJ0 k).2.2.1 = some (tyJ0 k) := by decide +kernel
def RL : String := "PseudorangeLaw"
abbrev cL_star : ByteArray := method_3_code
def yL_star : MethodName := ⟨RL, "star", "(LPseudorange;IIIII[J)I"⟩
abbrev cL_push : ByteArray := method_4_code
def yL_push : MethodName := ⟨RL, "push", "(LPseudorange;II[J)I"⟩
abbrev cL_jump : ByteArray := method_5_code
def yL_jump : MethodName := ⟨RL, "jump", "(LPseudorange;III[J)I"⟩
abbrev cL_health : ByteArray := method_6_code
def yL_health : MethodName := ⟨RL, "health", "(LPseudorange;IZ[J)I"⟩
abbrev cL_station : ByteArray := method_7_code
def yL_station : MethodName := ⟨RL, "station", "(LPseudorange;II[J)I"⟩
abbrev cL_listen : ByteArray := method_8_code
def yL_listen : MethodName := ⟨RL, "listen", "(LPseudorange;II[J)I"⟩
abbrev cL_receiver : ByteArray := method_9_code
def yL_receiver : MethodName := ⟨RL, "receiver", "(LPseudorange;III[J)I"⟩
abbrev cL_go : ByteArray := method_10_code
def yL_go : MethodName := ⟨RL, "go", "(LPseudorange;III[J)I"⟩
abbrev cL_hills : ByteArray := method_11_code
def yL_hills : MethodName := ⟨RL, "hills", "(LPseudorange;III[J)I"⟩
abbrev cL_air : ByteArray := method_12_code
def yL_air : MethodName := ⟨RL, "air", "(LPseudorange;IIZ[J)I"⟩
abbrev cL_alert : ByteArray := method_13_code
def yL_alert : MethodName := ⟨RL, "alert", "(LPseudorange;II[J)I"⟩
abbrev cL_spoof : ByteArray := method_14_code
def yL_spoof : MethodName := ⟨RL, "spoof", "(LPseudorange;II[J)I"⟩
abbrev cL_refer : ByteArray := method_15_code
def yL_refer : MethodName := ⟨RL, "refer", "(LPseudorange;II[J)I"⟩
abbrev cL_pass : ByteArray := method_16_code
def yL_pass : MethodName := ⟨RL, "pass", "(LPseudorange;I[J)I"⟩
abbrev cL_observe : ByteArray := method_17_code
def yL_observe : MethodName := ⟨RL, "observe", "(LPseudorange;I[J)I"⟩
abbrev cL_ofStar : ByteArray := method_18_code
def yL_ofStar : MethodName := ⟨RL, "ofStar", "(LPseudorange;II[J)I"⟩
abbrev cL_message : ByteArray := method_19_code
def yL_message : MethodName := ⟨RL, "message", "(LPseudorange;II[J)I"⟩
abbrev cL_seen : ByteArray := method_20_code
def yL_seen : MethodName := ⟨RL, "seen", "(LPseudorange;III[J)I"⟩
abbrev cL_ofReceiver : ByteArray := method_21_code
def yL_ofReceiver : MethodName := ⟨RL, "ofReceiver", "(LPseudorange;II[J)I"⟩
abbrev cL_many : ByteArray := method_22_code
def yL_many : MethodName := ⟨RL, "many", "(LPseudorange;I[J)I"⟩
abbrev cL_meanError : ByteArray := method_23_code
def yL_meanError : MethodName := ⟨RL, "meanError", "(LPseudorange;I[D)I"⟩
abbrev cL_wouldSee : ByteArray := method_24_code
def yL_wouldSee : MethodName := ⟨RL, "wouldSee", "(LPseudorange;II[J)I"⟩
abbrev cL_heardIn : ByteArray := method_25_code
def yL_heardIn : MethodName := ⟨RL, "heardIn", "(LPseudorange;II[J)I"⟩
abbrev cL_without : ByteArray := method_26_code
def yL_without : MethodName := ⟨RL, "without", "(LPseudorange;II[J)I"⟩
abbrev cL_wouldAlarm : ByteArray := method_27_code
def yL_wouldAlarm : MethodName := ⟨RL, "wouldAlarm", "(LPseudorange;I[J)I"⟩
abbrev cL_law : ByteArray := code
def yL_law : MethodName := ⟨RL, "law", "([I)Z"⟩
abbrev vwCl : List vw_C := [(RX0, TX0, 13), (RX1, TX1, 11), (RX2, TX2, 15), (RX3, TX3, 11), (RX4, TX4, 2), (RX5, TX5, 13), (RX6, TX6, 8), (RX7, TX7, 20)]
end
section
theorem dX0_init_0 : decode cX0_init 0 = .ok (.aload_n 0, 1) := by decide +kernel
theorem dX0_init_1 : decode cX0_init 1 = .ok (.invokespecial 3, 3) := by decide +kernel
theorem dX0_init_4 : decode cX0_init 4 = .ok (.aload_n 0, 1) := by decide +kernel
theorem dX0_init_5 : decode cX0_init 5 = .ok (.iload_n 1, 1) := by decide +kernel
theorem dX0_init_6 : decode cX0_init 6 = .ok (.putfield 9, 3) := by decide +kernel
theorem dX0_init_9 : decode cX0_init 9 = .ok (.aload_n 0, 1) := by decide +kernel
theorem dX0_init_10 : decode cX0_init 10 = .ok (.iload_n 2, 1) := by decide +kernel
theorem dX0_init_11 : decode cX0_init 11 = .ok (.putfield 15, 3) := by decide +kernel
theorem dX0_init_14 : decode cX0_init 14 = .ok (.aload_n 0, 1) := by decide +kernel
theorem dX0_init_15 : decode cX0_init 15 = .ok (.iload_n 3, 1) := by decide +kernel
theorem dX0_init_16 : decode cX0_init 16 = .ok (.putfield 18, 3) := by decide +kernel
theorem dX0_init_19 : decode cX0_init 19 = .ok (.aload_n 0, 1) := by decide +kernel
theorem dX0_init_20 : decode cX0_init 20 = .ok (.iload 4, 2) := by decide +kernel
theorem dX0_init_22 : decode cX0_init 22 = .ok (.putfield 21, 3) := by decide +kernel
theorem dX0_init_25 : decode cX0_init 25 = .ok (.aload_n 0, 1) := by decide +kernel
theorem dX0_init_26 : decode cX0_init 26 = .ok (.iconst 5, 1) := by decide +kernel
theorem dX0_init_27 : decode cX0_init 27 = .ok (.putfield 24, 3) := by decide +kernel
theorem dX0_init_30 : decode cX0_init 30 = .ok (.aload_n 0, 1) := by decide +kernel
theorem dX0_init_31 : decode cX0_init 31 = .ok (.iconst 5, 1) := by decide +kernel
theorem dX0_init_32 : decode cX0_init 32 = .ok (.putfield 27, 3) := by decide +kernel
theorem dX0_init_35 : decode cX0_init 35 = .ok (.aload_n 0, 1) := by decide +kernel
theorem dX0_init_36 : decode cX0_init 36 = .ok (.bipush 6, 2) := by decide +kernel
theorem dX0_init_38 : decode cX0_init 38 = .ok (.putfield 30, 3) := by decide +kernel
theorem dX0_init_41 : decode cX0_init 41 = .ok (.aload_n 0, 1) := by decide +kernel
theorem dX0_init_42 : decode cX0_init 42 = .ok (.iconst (-1), 1) := by decide +kernel
theorem dX0_init_43 : decode cX0_init 43 = .ok (.putfield 33, 3) := by decide +kernel
theorem dX0_init_46 : decode cX0_init 46 = .ok (.aload_n 0, 1) := by decide +kernel
theorem dX0_init_47 : decode cX0_init 47 = .ok (.new 36, 3) := by decide +kernel
theorem dX0_init_50 : decode cX0_init 50 = .ok (.dup, 1) := by decide +kernel
theorem dX0_init_51 : decode cX0_init 51 = .ok (.invokespecial 38, 3) := by decide +kernel
theorem dX0_init_54 : decode cX0_init 54 = .ok (.putfield 39, 3) := by decide +kernel
theorem dX0_init_57 : decode cX0_init 57 = .ok (.aload_n 0, 1) := by decide +kernel
theorem dX0_init_58 : decode cX0_init 58 = .ok (.bipush 8, 2) := by decide +kernel
theorem dX0_init_60 : decode cX0_init 60 = .ok (.anewarray 43, 3) := by decide +kernel
theorem dX0_init_63 : decode cX0_init 63 = .ok (.putfield 45, 3) := by decide +kernel
theorem dX0_init_66 : decode cX0_init 66 = .ok (.iconst 0, 1) := by decide +kernel
theorem dX0_init_67 : decode cX0_init 67 = .ok (.istore 5, 2) := by decide +kernel
theorem dX0_init_69 : decode cX0_init 69 = .ok (.iload 5, 2) := by decide +kernel
theorem dX0_init_71 : decode cX0_init 71 = .ok (.bipush 8, 2) := by decide +kernel
theorem dX0_init_73 : decode cX0_init 73 = .ok (.if_icmp .ge 23, 3) := by decide +kernel
theorem dX0_init_76 : decode cX0_init 76 = .ok (.aload_n 0, 1) := by decide +kernel
theorem dX0_init_77 : decode cX0_init 77 = .ok (.getfield 45, 3) := by decide +kernel
theorem dX0_init_80 : decode cX0_init 80 = .ok (.iload 5, 2) := by decide +kernel
theorem dX0_init_82 : decode cX0_init 82 = .ok (.new 43, 3) := by decide +kernel
theorem dX0_init_85 : decode cX0_init 85 = .ok (.dup, 1) := by decide +kernel
theorem dX0_init_86 : decode cX0_init 86 = .ok (.invokespecial 49, 3) := by decide +kernel
theorem dX0_init_89 : decode cX0_init 89 = .ok (.aastore, 1) := by decide +kernel
theorem dX0_init_90 : decode cX0_init 90 = .ok (.iinc 5 1, 3) := by decide +kernel
theorem dX0_init_93 : decode cX0_init 93 = .ok (.goto (-24), 3) := by decide +kernel
theorem dX0_init_96 : decode cX0_init 96 = .ok (.return_, 1) := by decide +kernel
theorem dX0_canSee_0 : decode cX0_canSee 0 = .ok (.aload_n 1, 1) := by decide +kernel
theorem dX0_canSee_1 : decode cX0_canSee 1 = .ok (.iload_n 2, 1) := by decide +kernel
theorem dX0_canSee_2 : decode cX0_canSee 2 = .ok (.invokevirtual 50, 3) := by decide +kernel
theorem dX0_canSee_5 : decode cX0_canSee 5 = .ok (.aload_n 0, 1) := by decide +kernel
theorem dX0_canSee_6 : decode cX0_canSee 6 = .ok (.getfield 15, 3) := by decide +kernel
theorem dX0_canSee_9 : decode cX0_canSee 9 = .ok (.if_icmp .ge 10, 3) := by decide +kernel
theorem dX0_canSee_12 : decode cX0_canSee 12 = .ok (.aload_n 0, 1) := by decide +kernel
theorem dX0_canSee_13 : decode cX0_canSee 13 = .ok (.getfield 24, 3) := by decide +kernel
theorem dX0_canSee_16 : decode cX0_canSee 16 = .ok (.goto 7, 3) := by decide +kernel
theorem dX0_canSee_19 : decode cX0_canSee 19 = .ok (.aload_n 0, 1) := by decide +kernel
theorem dX0_canSee_20 : decode cX0_canSee 20 = .ok (.getfield 27, 3) := by decide +kernel
theorem dX0_canSee_23 : decode cX0_canSee 23 = .ok (.istore_n 3, 1) := by decide +kernel
theorem dX0_canSee_24 : decode cX0_canSee 24 = .ok (.aload_n 1, 1) := by decide +kernel
theorem dX0_canSee_25 : decode cX0_canSee 25 = .ok (.getfield 56, 3) := by decide +kernel
theorem dX0_canSee_28 : decode cX0_canSee 28 = .ok (.ifCond .eq 21, 3) := by decide +kernel
theorem dX0_canSee_31 : decode cX0_canSee 31 = .ok (.aload_n 1, 1) := by decide +kernel
theorem dX0_canSee_32 : decode cX0_canSee 32 = .ok (.iload_n 2, 1) := by decide +kernel
theorem dX0_canSee_33 : decode cX0_canSee 33 = .ok (.invokevirtual 60, 3) := by decide +kernel
theorem dX0_canSee_36 : decode cX0_canSee 36 = .ok (.aload_n 0, 1) := by decide +kernel
theorem dX0_canSee_37 : decode cX0_canSee 37 = .ok (.getfield 18, 3) := by decide +kernel
theorem dX0_canSee_40 : decode cX0_canSee 40 = .ok (.isub, 1) := by decide +kernel
theorem dX0_canSee_41 : decode cX0_canSee 41 = .ok (.iload_n 3, 1) := by decide +kernel
theorem dX0_canSee_42 : decode cX0_canSee 42 = .ok (.if_icmp .lt 7, 3) := by decide +kernel
theorem dX0_canSee_45 : decode cX0_canSee 45 = .ok (.iconst 1, 1) := by decide +kernel
theorem dX0_canSee_46 : decode cX0_canSee 46 = .ok (.goto 4, 3) := by decide +kernel
theorem dX0_canSee_49 : decode cX0_canSee 49 = .ok (.iconst 0, 1) := by decide +kernel
theorem dX0_canSee_50 : decode cX0_canSee 50 = .ok (.ireturn, 1) := by decide +kernel
theorem dX0_trueCount_0 : decode cX0_trueCount 0 = .ok (.aload_n 1, 1) := by decide +kernel
theorem dX0_trueCount_1 : decode cX0_trueCount 1 = .ok (.iconst 0, 1) := by decide +kernel
theorem dX0_trueCount_2 : decode cX0_trueCount 2 = .ok (.invokevirtual 50, 3) := by decide +kernel
theorem dX0_trueCount_5 : decode cX0_trueCount 5 = .ok (.istore_n 2, 1) := by decide +kernel
theorem dX0_trueCount_6 : decode cX0_trueCount 6 = .ok (.aload_n 0, 1) := by decide +kernel
theorem dX0_trueCount_7 : decode cX0_trueCount 7 = .ok (.getfield 15, 3) := by decide +kernel
theorem dX0_trueCount_10 : decode cX0_trueCount 10 = .ok (.aload_n 0, 1) := by decide +kernel
theorem dX0_trueCount_11 : decode cX0_trueCount 11 = .ok (.getfield 18, 3) := by decide +kernel
theorem dX0_trueCount_14 : decode cX0_trueCount 14 = .ok (.iload_n 2, 1) := by decide +kernel
theorem dX0_trueCount_15 : decode cX0_trueCount 15 = .ok (.aload_n 1, 1) := by decide +kernel
theorem dX0_trueCount_16 : decode cX0_trueCount 16 = .ok (.iconst 0, 1) := by decide +kernel
theorem dX0_trueCount_17 : decode cX0_trueCount 17 = .ok (.invokevirtual 60, 3) := by decide +kernel
theorem dX0_trueCount_20 : decode cX0_trueCount 20 = .ok (.invokestatic 63, 3) := by decide +kernel
theorem dX0_trueCount_23 : decode cX0_trueCount 23 = .ok (.istore_n 3, 1) := by decide +kernel
theorem dX0_trueCount_24 : decode cX0_trueCount 24 = .ok (.iload_n 3, 1) := by decide +kernel
theorem dX0_trueCount_25 : decode cX0_trueCount 25 = .ok (.aload_n 1, 1) := by decide +kernel
theorem dX0_trueCount_26 : decode cX0_trueCount 26 = .ok (.getfield 67, 3) := by decide +kernel
theorem dX0_trueCount_29 : decode cX0_trueCount 29 = .ok (.iadd, 1) := by decide +kernel
theorem dX0_trueCount_30 : decode cX0_trueCount 30 = .ok (.aload_n 0, 1) := by decide +kernel
theorem dX0_trueCount_31 : decode cX0_trueCount 31 = .ok (.getfield 21, 3) := by decide +kernel
theorem dX0_trueCount_34 : decode cX0_trueCount 34 = .ok (.iadd, 1) := by decide +kernel
theorem dX0_trueCount_35 : decode cX0_trueCount 35 = .ok (.iload_n 2, 1) := by decide +kernel
theorem dX0_trueCount_36 : decode cX0_trueCount 36 = .ok (.aload_n 0, 1) := by decide +kernel
theorem dX0_trueCount_37 : decode cX0_trueCount 37 = .ok (.getfield 15, 3) := by decide +kernel
theorem dX0_trueCount_40 : decode cX0_trueCount 40 = .ok (.if_icmp .ge 10, 3) := by decide +kernel
theorem dX0_trueCount_43 : decode cX0_trueCount 43 = .ok (.aload_n 0, 1) := by decide +kernel
theorem dX0_trueCount_44 : decode cX0_trueCount 44 = .ok (.getfield 70, 3) := by decide +kernel
theorem dX0_trueCount_47 : decode cX0_trueCount 47 = .ok (.goto 8, 3) := by decide +kernel
theorem dX0_trueCount_50 : decode cX0_trueCount 50 = .ok (.aload_n 0, 1) := by decide +kernel
theorem dX0_trueCount_51 : decode cX0_trueCount 51 = .ok (.getfield 70, 3) := by decide +kernel
theorem dX0_trueCount_54 : decode cX0_trueCount 54 = .ok (.ineg, 1) := by decide +kernel
theorem dX0_trueCount_55 : decode cX0_trueCount 55 = .ok (.iadd, 1) := by decide +kernel
theorem dX0_trueCount_56 : decode cX0_trueCount 56 = .ok (.ireturn, 1) := by decide +kernel
theorem dX0_airDelay_0 : decode cX0_airDelay 0 = .ok (.aload_n 0, 1) := by decide +kernel
theorem dX0_airDelay_1 : decode cX0_airDelay 1 = .ok (.getfield 73, 3) := by decide +kernel
theorem dX0_airDelay_4 : decode cX0_airDelay 4 = .ok (.ifCond .eq 5, 3) := by decide +kernel
theorem dX0_airDelay_7 : decode cX0_airDelay 7 = .ok (.iconst 0, 1) := by decide +kernel
theorem dX0_airDelay_8 : decode cX0_airDelay 8 = .ok (.ireturn, 1) := by decide +kernel
theorem dX0_airDelay_9 : decode cX0_airDelay 9 = .ok (.aload_n 1, 1) := by decide +kernel
theorem dX0_airDelay_10 : decode cX0_airDelay 10 = .ok (.iconst 0, 1) := by decide +kernel
theorem dX0_airDelay_11 : decode cX0_airDelay 11 = .ok (.invokevirtual 50, 3) := by decide +kernel
theorem dX0_airDelay_14 : decode cX0_airDelay 14 = .ok (.aload_n 0, 1) := by decide +kernel
theorem dX0_airDelay_15 : decode cX0_airDelay 15 = .ok (.getfield 15, 3) := by decide +kernel
theorem dX0_airDelay_18 : decode cX0_airDelay 18 = .ok (.isub, 1) := by decide +kernel
theorem dX0_airDelay_19 : decode cX0_airDelay 19 = .ok (.invokestatic 76, 3) := by decide +kernel
theorem dX0_airDelay_22 : decode cX0_airDelay 22 = .ok (.aload_n 1, 1) := by decide +kernel
theorem dX0_airDelay_23 : decode cX0_airDelay 23 = .ok (.iconst 0, 1) := by decide +kernel
theorem dX0_airDelay_24 : decode cX0_airDelay 24 = .ok (.invokevirtual 60, 3) := by decide +kernel
theorem dX0_airDelay_27 : decode cX0_airDelay 27 = .ok (.aload_n 0, 1) := by decide +kernel
theorem dX0_airDelay_28 : decode cX0_airDelay 28 = .ok (.getfield 18, 3) := by decide +kernel
theorem dX0_airDelay_31 : decode cX0_airDelay 31 = .ok (.isub, 1) := by decide +kernel
theorem dX0_airDelay_32 : decode cX0_airDelay 32 = .ok (.invokestatic 76, 3) := by decide +kernel
theorem dX0_airDelay_35 : decode cX0_airDelay 35 = .ok (.if_icmp .le 7, 3) := by decide +kernel
theorem dX0_airDelay_38 : decode cX0_airDelay 38 = .ok (.iconst 1, 1) := by decide +kernel
theorem dX0_airDelay_39 : decode cX0_airDelay 39 = .ok (.goto 4, 3) := by decide +kernel
theorem dX0_airDelay_42 : decode cX0_airDelay 42 = .ok (.iconst 0, 1) := by decide +kernel
theorem dX0_airDelay_43 : decode cX0_airDelay 43 = .ok (.istore_n 2, 1) := by decide +kernel
theorem dX0_airDelay_44 : decode cX0_airDelay 44 = .ok (.iload_n 2, 1) := by decide +kernel
theorem dX0_airDelay_45 : decode cX0_airDelay 45 = .ok (.ifCond .eq 12, 3) := by decide +kernel
theorem dX0_airDelay_48 : decode cX0_airDelay 48 = .ok (.iconst 2, 1) := by decide +kernel
theorem dX0_airDelay_49 : decode cX0_airDelay 49 = .ok (.aload_n 0, 1) := by decide +kernel
theorem dX0_airDelay_50 : decode cX0_airDelay 50 = .ok (.getfield 81, 3) := by decide +kernel
theorem dX0_airDelay_53 : decode cX0_airDelay 53 = .ok (.imul, 1) := by decide +kernel
theorem dX0_airDelay_54 : decode cX0_airDelay 54 = .ok (.goto 7, 3) := by decide +kernel
theorem dX0_airDelay_57 : decode cX0_airDelay 57 = .ok (.aload_n 0, 1) := by decide +kernel
theorem dX0_airDelay_58 : decode cX0_airDelay 58 = .ok (.getfield 81, 3) := by decide +kernel
theorem dX0_airDelay_61 : decode cX0_airDelay 61 = .ok (.ireturn, 1) := by decide +kernel
theorem dX1_init_0 : decode cX1_init 0 = .ok (.aload_n 0, 1) := by decide +kernel
theorem dX1_init_1 : decode cX1_init 1 = .ok (.invokespecial 3, 3) := by decide +kernel
theorem dX1_init_4 : decode cX1_init 4 = .ok (.return_, 1) := by decide +kernel
theorem dX1_take_0 : decode cX1_take 0 = .ok (.iload_n 3, 1) := by decide +kernel
theorem dX1_take_1 : decode cX1_take 1 = .ok (.ifCond .eq 14, 3) := by decide +kernel
theorem dX1_take_4 : decode cX1_take 4 = .ok (.aload_n 0, 1) := by decide +kernel
theorem dX1_take_5 : decode cX1_take 5 = .ok (.getfield 9, 3) := by decide +kernel
theorem dX1_take_8 : decode cX1_take 8 = .ok (.ifCond .eq 7, 3) := by decide +kernel
theorem dX1_take_11 : decode cX1_take 11 = .ok (.iconst 1, 1) := by decide +kernel
theorem dX1_take_12 : decode cX1_take 12 = .ok (.goto 4, 3) := by decide +kernel
theorem dX1_take_15 : decode cX1_take 15 = .ok (.iconst 0, 1) := by decide +kernel
theorem dX1_take_16 : decode cX1_take 16 = .ok (.istore 4, 2) := by decide +kernel
theorem dX1_take_18 : decode cX1_take 18 = .ok (.aload_n 0, 1) := by decide +kernel
theorem dX1_take_19 : decode cX1_take 19 = .ok (.invokevirtual 15, 3) := by decide +kernel
theorem dX1_take_22 : decode cX1_take 22 = .ok (.aload_n 0, 1) := by decide +kernel
theorem dX1_take_23 : decode cX1_take 23 = .ok (.iconst 1, 1) := by decide +kernel
theorem dX1_take_24 : decode cX1_take 24 = .ok (.putfield 9, 3) := by decide +kernel
theorem dX1_take_27 : decode cX1_take 27 = .ok (.aload_n 0, 1) := by decide +kernel
theorem dX1_take_28 : decode cX1_take 28 = .ok (.iload_n 1, 1) := by decide +kernel
theorem dX1_take_29 : decode cX1_take 29 = .ok (.putfield 18, 3) := by decide +kernel
theorem dX1_take_32 : decode cX1_take 32 = .ok (.aload_n 0, 1) := by decide +kernel
theorem dX1_take_33 : decode cX1_take 33 = .ok (.iload_n 2, 1) := by decide +kernel
theorem dX1_take_34 : decode cX1_take 34 = .ok (.putfield 22, 3) := by decide +kernel
theorem dX1_take_37 : decode cX1_take 37 = .ok (.aload_n 0, 1) := by decide +kernel
theorem dX1_take_38 : decode cX1_take 38 = .ok (.aload_n 0, 1) := by decide +kernel
theorem dX1_take_39 : decode cX1_take 39 = .ok (.getfield 18, 3) := by decide +kernel
theorem dX1_take_42 : decode cX1_take 42 = .ok (.aload_n 0, 1) := by decide +kernel
theorem dX1_take_43 : decode cX1_take 43 = .ok (.getfield 22, 3) := by decide +kernel
theorem dX1_take_46 : decode cX1_take 46 = .ok (.isub, 1) := by decide +kernel
theorem dX1_take_47 : decode cX1_take 47 = .ok (.iconst 5, 1) := by decide +kernel
theorem dX1_take_48 : decode cX1_take 48 = .ok (.iadd, 1) := by decide +kernel
theorem dX1_take_49 : decode cX1_take 49 = .ok (.bipush 10, 2) := by decide +kernel
theorem dX1_take_51 : decode cX1_take 51 = .ok (.invokestatic 25, 3) := by decide +kernel
theorem dX1_take_54 : decode cX1_take 54 = .ok (.putfield 31, 3) := by decide +kernel
theorem dX1_take_57 : decode cX1_take 57 = .ok (.aload_n 0, 1) := by decide +kernel
theorem dX1_take_58 : decode cX1_take 58 = .ok (.aload_n 0, 1) := by decide +kernel
theorem dX1_take_59 : decode cX1_take 59 = .ok (.getfield 18, 3) := by decide +kernel
theorem dX1_take_62 : decode cX1_take 62 = .ok (.aload_n 0, 1) := by decide +kernel
theorem dX1_take_63 : decode cX1_take 63 = .ok (.getfield 22, 3) := by decide +kernel
theorem dX1_take_66 : decode cX1_take 66 = .ok (.isub, 1) := by decide +kernel
theorem dX1_take_67 : decode cX1_take 67 = .ok (.bipush 10, 2) := by decide +kernel
theorem dX1_take_69 : decode cX1_take 69 = .ok (.aload_n 0, 1) := by decide +kernel
theorem dX1_take_70 : decode cX1_take 70 = .ok (.getfield 31, 3) := by decide +kernel
theorem dX1_take_73 : decode cX1_take 73 = .ok (.imul, 1) := by decide +kernel
theorem dX1_take_74 : decode cX1_take 74 = .ok (.isub, 1) := by decide +kernel
theorem dX1_take_75 : decode cX1_take 75 = .ok (.putfield 34, 3) := by decide +kernel
theorem dX1_take_78 : decode cX1_take 78 = .ok (.aload_n 0, 1) := by decide +kernel
theorem dX1_take_79 : decode cX1_take 79 = .ok (.iload 4, 2) := by decide +kernel
theorem dX1_take_81 : decode cX1_take 81 = .ok (.ifCond .eq 12, 3) := by decide +kernel
theorem dX1_take_84 : decode cX1_take 84 = .ok (.aload_n 0, 1) := by decide +kernel
theorem dX1_take_85 : decode cX1_take 85 = .ok (.getfield 37, 3) := by decide +kernel
theorem dX1_take_88 : decode cX1_take 88 = .ok (.iconst 1, 1) := by decide +kernel
theorem dX1_take_89 : decode cX1_take 89 = .ok (.iadd, 1) := by decide +kernel
theorem dX1_take_90 : decode cX1_take 90 = .ok (.goto 4, 3) := by decide +kernel
theorem dX1_take_93 : decode cX1_take 93 = .ok (.iconst 1, 1) := by decide +kernel
theorem dX1_take_94 : decode cX1_take 94 = .ok (.putfield 37, 3) := by decide +kernel
theorem dX1_take_97 : decode cX1_take 97 = .ok (.aload_n 0, 1) := by decide +kernel
theorem dX1_take_98 : decode cX1_take 98 = .ok (.aload_n 0, 1) := by decide +kernel
theorem dX1_take_99 : decode cX1_take 99 = .ok (.getfield 34, 3) := by decide +kernel
theorem dX1_take_102 : decode cX1_take 102 = .ok (.bipush (-2), 2) := by decide +kernel
theorem dX1_take_104 : decode cX1_take 104 = .ok (.iconst 2, 1) := by decide +kernel
theorem dX1_take_105 : decode cX1_take 105 = .ok (.invokestatic 40, 3) := by decide +kernel
theorem dX1_take_108 : decode cX1_take 108 = .ok (.ifCond .eq 7, 3) := by decide +kernel
theorem dX1_take_111 : decode cX1_take 111 = .ok (.iconst 0, 1) := by decide +kernel
theorem dX1_take_112 : decode cX1_take 112 = .ok (.goto 18, 3) := by decide +kernel
theorem dX1_take_115 : decode cX1_take 115 = .ok (.iload 4, 2) := by decide +kernel
theorem dX1_take_117 : decode cX1_take 117 = .ok (.ifCond .eq 12, 3) := by decide +kernel
theorem dX1_take_120 : decode cX1_take 120 = .ok (.aload_n 0, 1) := by decide +kernel
theorem dX1_take_121 : decode cX1_take 121 = .ok (.getfield 44, 3) := by decide +kernel
theorem dX1_take_124 : decode cX1_take 124 = .ok (.iconst 1, 1) := by decide +kernel
theorem dX1_take_125 : decode cX1_take 125 = .ok (.iadd, 1) := by decide +kernel
theorem dX1_take_126 : decode cX1_take 126 = .ok (.goto 4, 3) := by decide +kernel
theorem dX1_take_129 : decode cX1_take 129 = .ok (.iconst 1, 1) := by decide +kernel
theorem dX1_take_130 : decode cX1_take 130 = .ok (.putfield 44, 3) := by decide +kernel
theorem dX1_take_133 : decode cX1_take 133 = .ok (.aload_n 0, 1) := by decide +kernel
theorem dX1_take_134 : decode cX1_take 134 = .ok (.aload_n 0, 1) := by decide +kernel
theorem dX1_take_135 : decode cX1_take 135 = .ok (.getfield 37, 3) := by decide +kernel
theorem dX1_take_138 : decode cX1_take 138 = .ok (.iconst 3, 1) := by decide +kernel
theorem dX1_take_139 : decode cX1_take 139 = .ok (.if_icmp .lt 15, 3) := by decide +kernel
theorem dX1_take_142 : decode cX1_take 142 = .ok (.aload_n 0, 1) := by decide +kernel
theorem dX1_take_143 : decode cX1_take 143 = .ok (.getfield 44, 3) := by decide +kernel
theorem dX1_take_146 : decode cX1_take 146 = .ok (.iconst 3, 1) := by decide +kernel
theorem dX1_take_147 : decode cX1_take 147 = .ok (.if_icmp .lt 7, 3) := by decide +kernel
theorem dX1_take_150 : decode cX1_take 150 = .ok (.iconst 1, 1) := by decide +kernel
theorem dX1_take_151 : decode cX1_take 151 = .ok (.goto 4, 3) := by decide +kernel
theorem dX1_take_154 : decode cX1_take 154 = .ok (.iconst 0, 1) := by decide +kernel
theorem dX1_take_155 : decode cX1_take 155 = .ok (.putfield 47, 3) := by decide +kernel
theorem dX1_take_158 : decode cX1_take 158 = .ok (.return_, 1) := by decide +kernel
theorem dX1_lose_0 : decode cX1_lose 0 = .ok (.aload_n 0, 1) := by decide +kernel
theorem dX1_lose_1 : decode cX1_lose 1 = .ok (.invokevirtual 15, 3) := by decide +kernel
theorem dX1_lose_4 : decode cX1_lose 4 = .ok (.aload_n 0, 1) := by decide +kernel
theorem dX1_lose_5 : decode cX1_lose 5 = .ok (.iconst 0, 1) := by decide +kernel
theorem dX1_lose_6 : decode cX1_lose 6 = .ok (.putfield 9, 3) := by decide +kernel
theorem dX1_lose_9 : decode cX1_lose 9 = .ok (.aload_n 0, 1) := by decide +kernel
theorem dX1_lose_10 : decode cX1_lose 10 = .ok (.iconst 0, 1) := by decide +kernel
theorem dX1_lose_11 : decode cX1_lose 11 = .ok (.putfield 47, 3) := by decide +kernel
theorem dX1_lose_14 : decode cX1_lose 14 = .ok (.return_, 1) := by decide +kernel
theorem dX1_forget_0 : decode cX1_forget 0 = .ok (.aload_n 0, 1) := by decide +kernel
theorem dX1_forget_1 : decode cX1_forget 1 = .ok (.iconst 0, 1) := by decide +kernel
theorem dX1_forget_2 : decode cX1_forget 2 = .ok (.putfield 50, 3) := by decide +kernel
theorem dX1_forget_5 : decode cX1_forget 5 = .ok (.aload_n 0, 1) := by decide +kernel
theorem dX1_forget_6 : decode cX1_forget 6 = .ok (.iconst 0, 1) := by decide +kernel
theorem dX1_forget_7 : decode cX1_forget 7 = .ok (.putfield 53, 3) := by decide +kernel
theorem dX1_forget_10 : decode cX1_forget 10 = .ok (.aload_n 0, 1) := by decide +kernel
theorem dX1_forget_11 : decode cX1_forget 11 = .ok (.iconst 0, 1) := by decide +kernel
theorem dX1_forget_12 : decode cX1_forget 12 = .ok (.putfield 56, 3) := by decide +kernel
theorem dX1_forget_15 : decode cX1_forget 15 = .ok (.return_, 1) := by decide +kernel
theorem dX1_measured_0 : decode cX1_measured 0 = .ok (.aload_n 0, 1) := by decide +kernel
theorem dX1_measured_1 : decode cX1_measured 1 = .ok (.getfield 47, 3) := by decide +kernel
theorem dX1_measured_4 : decode cX1_measured 4 = .ok (.ifCond .eq 18, 3) := by decide +kernel
theorem dX1_measured_7 : decode cX1_measured 7 = .ok (.aload_n 0, 1) := by decide +kernel
theorem dX1_measured_8 : decode cX1_measured 8 = .ok (.getfield 22, 3) := by decide +kernel
theorem dX1_measured_11 : decode cX1_measured 11 = .ok (.bipush 10, 2) := by decide +kernel
theorem dX1_measured_13 : decode cX1_measured 13 = .ok (.aload_n 0, 1) := by decide +kernel
theorem dX1_measured_14 : decode cX1_measured 14 = .ok (.getfield 31, 3) := by decide +kernel
theorem dX1_measured_17 : decode cX1_measured 17 = .ok (.imul, 1) := by decide +kernel
theorem dX1_measured_18 : decode cX1_measured 18 = .ok (.iadd, 1) := by decide +kernel
theorem dX1_measured_19 : decode cX1_measured 19 = .ok (.goto 7, 3) := by decide +kernel
theorem dX1_measured_22 : decode cX1_measured 22 = .ok (.aload_n 0, 1) := by decide +kernel
theorem dX1_measured_23 : decode cX1_measured 23 = .ok (.getfield 18, 3) := by decide +kernel
theorem dX1_measured_26 : decode cX1_measured 26 = .ok (.ireturn, 1) := by decide +kernel
theorem dX1_tell_0 : decode cX1_tell 0 = .ok (.iload_n 1, 1) := by decide +kernel
theorem dX1_tell_1 : decode cX1_tell 1 = .ok (.iconst 5, 1) := by decide +kernel
theorem dX1_tell_2 : decode cX1_tell 2 = .ok (.if_icmp .ne 16, 3) := by decide +kernel
theorem dX1_tell_5 : decode cX1_tell 5 = .ok (.aload_n 0, 1) := by decide +kernel
theorem dX1_tell_6 : decode cX1_tell 6 = .ok (.getfield 47, 3) := by decide +kernel
theorem dX1_tell_9 : decode cX1_tell 9 = .ok (.ifCond .eq 7, 3) := by decide +kernel
theorem dX1_tell_12 : decode cX1_tell 12 = .ok (.iconst 1, 1) := by decide +kernel
theorem dX1_tell_13 : decode cX1_tell 13 = .ok (.goto 4, 3) := by decide +kernel
theorem dX1_tell_16 : decode cX1_tell 16 = .ok (.iconst 0, 1) := by decide +kernel
theorem dX1_tell_17 : decode cX1_tell 17 = .ok (.ireturn, 1) := by decide +kernel
theorem dX1_tell_18 : decode cX1_tell 18 = .ok (.iload_n 1, 1) := by decide +kernel
theorem dX1_tell_19 : decode cX1_tell 19 = .ok (.bipush 6, 2) := by decide +kernel
theorem dX1_tell_21 : decode cX1_tell 21 = .ok (.if_icmp .ne 16, 3) := by decide +kernel
theorem dX1_tell_24 : decode cX1_tell 24 = .ok (.aload_n 0, 1) := by decide +kernel
theorem dX1_tell_25 : decode cX1_tell 25 = .ok (.getfield 50, 3) := by decide +kernel
theorem dX1_tell_28 : decode cX1_tell 28 = .ok (.ifCond .eq 7, 3) := by decide +kernel
theorem dX1_tell_31 : decode cX1_tell 31 = .ok (.iconst 1, 1) := by decide +kernel
theorem dX1_tell_32 : decode cX1_tell 32 = .ok (.goto 4, 3) := by decide +kernel
theorem dX1_tell_35 : decode cX1_tell 35 = .ok (.iconst 0, 1) := by decide +kernel
theorem dX1_tell_36 : decode cX1_tell 36 = .ok (.ireturn, 1) := by decide +kernel
theorem dX1_tell_37 : decode cX1_tell 37 = .ok (.aload_n 0, 1) := by decide +kernel
theorem dX1_tell_38 : decode cX1_tell 38 = .ok (.getfield 9, 3) := by decide +kernel
theorem dX1_tell_41 : decode cX1_tell 41 = .ok (.ifCond .eq 11, 3) := by decide +kernel
theorem dX1_tell_44 : decode cX1_tell 44 = .ok (.aload_n 0, 1) := by decide +kernel
theorem dX1_tell_45 : decode cX1_tell 45 = .ok (.iload_n 1, 1) := by decide +kernel
theorem dX1_tell_46 : decode cX1_tell 46 = .ok (.invokevirtual 59, 3) := by decide +kernel
theorem dX1_tell_49 : decode cX1_tell 49 = .ok (.goto 4, 3) := by decide +kernel
theorem dX1_tell_52 : decode cX1_tell 52 = .ok (.iconst (-1), 1) := by decide +kernel
theorem dX1_tell_53 : decode cX1_tell 53 = .ok (.ireturn, 1) := by decide +kernel
theorem dX1_tellSeen_0 : decode cX1_tellSeen 0 = .ok (.iload_n 1, 1) := by decide +kernel
theorem dX1_tellSeen_1 : decode cX1_tellSeen 1 = .ok (.tableswitch 60 0 4 #[35, 40, 45, 50, 55], 35) := by decide +kernel
theorem dX1_tellSeen_36 : decode cX1_tellSeen 36 = .ok (.aload_n 0, 1) := by decide +kernel
theorem dX1_tellSeen_37 : decode cX1_tellSeen 37 = .ok (.getfield 18, 3) := by decide +kernel
theorem dX1_tellSeen_40 : decode cX1_tellSeen 40 = .ok (.ireturn, 1) := by decide +kernel
theorem dX1_tellSeen_41 : decode cX1_tellSeen 41 = .ok (.aload_n 0, 1) := by decide +kernel
theorem dX1_tellSeen_42 : decode cX1_tellSeen 42 = .ok (.getfield 22, 3) := by decide +kernel
theorem dX1_tellSeen_45 : decode cX1_tellSeen 45 = .ok (.ireturn, 1) := by decide +kernel
theorem dX1_tellSeen_46 : decode cX1_tellSeen 46 = .ok (.aload_n 0, 1) := by decide +kernel
theorem dX1_tellSeen_47 : decode cX1_tellSeen 47 = .ok (.getfield 31, 3) := by decide +kernel
theorem dX1_tellSeen_50 : decode cX1_tellSeen 50 = .ok (.ireturn, 1) := by decide +kernel
theorem dX1_tellSeen_51 : decode cX1_tellSeen 51 = .ok (.aload_n 0, 1) := by decide +kernel
theorem dX1_tellSeen_52 : decode cX1_tellSeen 52 = .ok (.getfield 34, 3) := by decide +kernel
theorem dX1_tellSeen_55 : decode cX1_tellSeen 55 = .ok (.ireturn, 1) := by decide +kernel
theorem dX1_tellSeen_56 : decode cX1_tellSeen 56 = .ok (.aload_n 0, 1) := by decide +kernel
theorem dX1_tellSeen_57 : decode cX1_tellSeen 57 = .ok (.getfield 37, 3) := by decide +kernel
theorem dX1_tellSeen_60 : decode cX1_tellSeen 60 = .ok (.ireturn, 1) := by decide +kernel
theorem dX1_tellSeen_61 : decode cX1_tellSeen 61 = .ok (.aload_n 0, 1) := by decide +kernel
theorem dX1_tellSeen_62 : decode cX1_tellSeen 62 = .ok (.getfield 53, 3) := by decide +kernel
theorem dX1_tellSeen_65 : decode cX1_tellSeen 65 = .ok (.ireturn, 1) := by decide +kernel
theorem dX2_init_0 : decode cX2_init 0 = .ok (.aload_n 0, 1) := by decide +kernel
theorem dX2_init_1 : decode cX2_init 1 = .ok (.invokespecial 3, 3) := by decide +kernel
theorem dX2_init_4 : decode cX2_init 4 = .ok (.aload_n 0, 1) := by decide +kernel
theorem dX2_init_5 : decode cX2_init 5 = .ok (.bipush 8, 2) := by decide +kernel
theorem dX2_init_7 : decode cX2_init 7 = .ok (.newarray .int, 2) := by decide +kernel
theorem dX2_init_9 : decode cX2_init 9 = .ok (.putfield 9, 3) := by decide +kernel
theorem dX2_init_12 : decode cX2_init 12 = .ok (.aload_n 0, 1) := by decide +kernel
theorem dX2_init_13 : decode cX2_init 13 = .ok (.bipush 8, 2) := by decide +kernel
theorem dX2_init_15 : decode cX2_init 15 = .ok (.newarray .int, 2) := by decide +kernel
theorem dX2_init_17 : decode cX2_init 17 = .ok (.putfield 15, 3) := by decide +kernel
theorem dX2_init_20 : decode cX2_init 20 = .ok (.aload_n 0, 1) := by decide +kernel
theorem dX2_init_21 : decode cX2_init 21 = .ok (.bipush 8, 2) := by decide +kernel
theorem dX2_init_23 : decode cX2_init 23 = .ok (.newarray .int, 2) := by decide +kernel
theorem dX2_init_25 : decode cX2_init 25 = .ok (.putfield 18, 3) := by decide +kernel
theorem dX2_init_28 : decode cX2_init 28 = .ok (.aload_n 0, 1) := by decide +kernel
theorem dX2_init_29 : decode cX2_init 29 = .ok (.bipush 8, 2) := by decide +kernel
theorem dX2_init_31 : decode cX2_init 31 = .ok (.newarray .int, 2) := by decide +kernel
theorem dX2_init_33 : decode cX2_init 33 = .ok (.putfield 21, 3) := by decide +kernel
theorem dX2_init_36 : decode cX2_init 36 = .ok (.aload_n 0, 1) := by decide +kernel
theorem dX2_init_37 : decode cX2_init 37 = .ok (.bipush 8, 2) := by decide +kernel
theorem dX2_init_39 : decode cX2_init 39 = .ok (.newarray .int, 2) := by decide +kernel
theorem dX2_init_41 : decode cX2_init 41 = .ok (.putfield 24, 3) := by decide +kernel
theorem dX2_init_44 : decode cX2_init 44 = .ok (.return_, 1) := by decide +kernel
theorem dX2_clear_0 : decode cX2_clear 0 = .ok (.aload_n 0, 1) := by decide +kernel
theorem dX2_clear_1 : decode cX2_clear 1 = .ok (.iconst 0, 1) := by decide +kernel
theorem dX2_clear_2 : decode cX2_clear 2 = .ok (.putfield 27, 3) := by decide +kernel
theorem dX2_clear_5 : decode cX2_clear 5 = .ok (.return_, 1) := by decide +kernel
theorem dX2_use_0 : decode cX2_use 0 = .ok (.aload_n 0, 1) := by decide +kernel
theorem dX2_use_1 : decode cX2_use 1 = .ok (.getfield 27, 3) := by decide +kernel
theorem dX2_use_4 : decode cX2_use 4 = .ok (.bipush 8, 2) := by decide +kernel
theorem dX2_use_6 : decode cX2_use 6 = .ok (.if_icmp .lt 4, 3) := by decide +kernel
theorem dX2_use_9 : decode cX2_use 9 = .ok (.return_, 1) := by decide +kernel
theorem dX2_use_10 : decode cX2_use 10 = .ok (.aload_n 0, 1) := by decide +kernel
theorem dX2_use_11 : decode cX2_use 11 = .ok (.getfield 9, 3) := by decide +kernel
theorem dX2_use_14 : decode cX2_use 14 = .ok (.aload_n 0, 1) := by decide +kernel
theorem dX2_use_15 : decode cX2_use 15 = .ok (.getfield 27, 3) := by decide +kernel
theorem dX2_use_18 : decode cX2_use 18 = .ok (.iload_n 1, 1) := by decide +kernel
theorem dX2_use_19 : decode cX2_use 19 = .ok (.iastore, 1) := by decide +kernel
theorem dX2_use_20 : decode cX2_use 20 = .ok (.aload_n 0, 1) := by decide +kernel
theorem dX2_use_21 : decode cX2_use 21 = .ok (.getfield 15, 3) := by decide +kernel
theorem dX2_use_24 : decode cX2_use 24 = .ok (.aload_n 0, 1) := by decide +kernel
theorem dX2_use_25 : decode cX2_use 25 = .ok (.getfield 27, 3) := by decide +kernel
theorem dX2_use_28 : decode cX2_use 28 = .ok (.iload_n 2, 1) := by decide +kernel
theorem dX2_use_29 : decode cX2_use 29 = .ok (.iastore, 1) := by decide +kernel
theorem dX2_use_30 : decode cX2_use 30 = .ok (.aload_n 0, 1) := by decide +kernel
theorem dX2_use_31 : decode cX2_use 31 = .ok (.getfield 18, 3) := by decide +kernel
theorem dX2_use_34 : decode cX2_use 34 = .ok (.aload_n 0, 1) := by decide +kernel
theorem dX2_use_35 : decode cX2_use 35 = .ok (.getfield 27, 3) := by decide +kernel
theorem dX2_use_38 : decode cX2_use 38 = .ok (.iload_n 3, 1) := by decide +kernel
theorem dX2_use_39 : decode cX2_use 39 = .ok (.iastore, 1) := by decide +kernel
theorem dX2_use_40 : decode cX2_use 40 = .ok (.aload_n 0, 1) := by decide +kernel
theorem dX2_use_41 : decode cX2_use 41 = .ok (.getfield 21, 3) := by decide +kernel
theorem dX2_use_44 : decode cX2_use 44 = .ok (.aload_n 0, 1) := by decide +kernel
theorem dX2_use_45 : decode cX2_use 45 = .ok (.getfield 27, 3) := by decide +kernel
theorem dX2_use_48 : decode cX2_use 48 = .ok (.iload 4, 2) := by decide +kernel
theorem dX2_use_50 : decode cX2_use 50 = .ok (.iastore, 1) := by decide +kernel
theorem dX2_use_51 : decode cX2_use 51 = .ok (.aload_n 0, 1) := by decide +kernel
theorem dX2_use_52 : decode cX2_use 52 = .ok (.dup, 1) := by decide +kernel
theorem dX2_use_53 : decode cX2_use 53 = .ok (.getfield 27, 3) := by decide +kernel
theorem dX2_use_56 : decode cX2_use 56 = .ok (.iconst 1, 1) := by decide +kernel
theorem dX2_use_57 : decode cX2_use 57 = .ok (.iadd, 1) := by decide +kernel
theorem dX2_use_58 : decode cX2_use 58 = .ok (.putfield 27, 3) := by decide +kernel
theorem dX2_use_61 : decode cX2_use 61 = .ok (.return_, 1) := by decide +kernel
theorem dX2_hasSolution_0 : decode cX2_hasSolution 0 = .ok (.aload_n 0, 1) := by decide +kernel
theorem dX2_hasSolution_1 : decode cX2_hasSolution 1 = .ok (.getfield 27, 3) := by decide +kernel
theorem dX2_hasSolution_4 : decode cX2_hasSolution 4 = .ok (.iconst 3, 1) := by decide +kernel
theorem dX2_hasSolution_5 : decode cX2_hasSolution 5 = .ok (.if_icmp .lt 7, 3) := by decide +kernel
theorem dX2_hasSolution_8 : decode cX2_hasSolution 8 = .ok (.iconst 1, 1) := by decide +kernel
theorem dX2_hasSolution_9 : decode cX2_hasSolution 9 = .ok (.goto 4, 3) := by decide +kernel
theorem dX2_hasSolution_12 : decode cX2_hasSolution 12 = .ok (.iconst 0, 1) := by decide +kernel
theorem dX2_hasSolution_13 : decode cX2_hasSolution 13 = .ok (.ireturn, 1) := by decide +kernel
theorem dX2_solve_0 : decode cX2_solve 0 = .ok (.aload_n 0, 1) := by decide +kernel
theorem dX2_solve_1 : decode cX2_solve 1 = .ok (.bipush 99, 2) := by decide +kernel
theorem dX2_solve_3 : decode cX2_solve 3 = .ok (.putfield 31, 3) := by decide +kernel
theorem dX2_solve_6 : decode cX2_solve 6 = .ok (.aload_n 0, 1) := by decide +kernel
theorem dX2_solve_7 : decode cX2_solve 7 = .ok (.invokevirtual 34, 3) := by decide +kernel
theorem dX2_solve_10 : decode cX2_solve 10 = .ok (.ifCond .ne 4, 3) := by decide +kernel
theorem dX2_solve_13 : decode cX2_solve 13 = .ok (.return_, 1) := by decide +kernel
theorem dX2_solve_14 : decode cX2_solve 14 = .ok (.aload_n 0, 1) := by decide +kernel
theorem dX2_solve_15 : decode cX2_solve 15 = .ok (.iconst (-1), 1) := by decide +kernel
theorem dX2_solve_16 : decode cX2_solve 16 = .ok (.invokevirtual 38, 3) := by decide +kernel
theorem dX2_solve_19 : decode cX2_solve 19 = .ok (.aload_n 0, 1) := by decide +kernel
theorem dX2_solve_20 : decode cX2_solve 20 = .ok (.aload_n 0, 1) := by decide +kernel
theorem dX2_solve_21 : decode cX2_solve 21 = .ok (.getfield 42, 3) := by decide +kernel
theorem dX2_solve_24 : decode cX2_solve 24 = .ok (.putfield 45, 3) := by decide +kernel
theorem dX2_solve_27 : decode cX2_solve 27 = .ok (.aload_n 0, 1) := by decide +kernel
theorem dX2_solve_28 : decode cX2_solve 28 = .ok (.aload_n 0, 1) := by decide +kernel
theorem dX2_solve_29 : decode cX2_solve 29 = .ok (.getfield 48, 3) := by decide +kernel
theorem dX2_solve_32 : decode cX2_solve 32 = .ok (.putfield 51, 3) := by decide +kernel
theorem dX2_solve_35 : decode cX2_solve 35 = .ok (.aload_n 0, 1) := by decide +kernel
theorem dX2_solve_36 : decode cX2_solve 36 = .ok (.aload_n 0, 1) := by decide +kernel
theorem dX2_solve_37 : decode cX2_solve 37 = .ok (.getfield 54, 3) := by decide +kernel
theorem dX2_solve_40 : decode cX2_solve 40 = .ok (.putfield 57, 3) := by decide +kernel
theorem dX2_solve_43 : decode cX2_solve 43 = .ok (.aload_n 0, 1) := by decide +kernel
theorem dX2_solve_44 : decode cX2_solve 44 = .ok (.aload_n 0, 1) := by decide +kernel
theorem dX2_solve_45 : decode cX2_solve 45 = .ok (.getfield 60, 3) := by decide +kernel
theorem dX2_solve_48 : decode cX2_solve 48 = .ok (.putfield 64, 3) := by decide +kernel
theorem dX2_solve_51 : decode cX2_solve 51 = .ok (.aload_n 0, 1) := by decide +kernel
theorem dX2_solve_52 : decode cX2_solve 52 = .ok (.getfield 27, 3) := by decide +kernel
theorem dX2_solve_55 : decode cX2_solve 55 = .ok (.iconst 4, 1) := by decide +kernel
theorem dX2_solve_56 : decode cX2_solve 56 = .ok (.if_icmp .ge 4, 3) := by decide +kernel
theorem dX2_solve_59 : decode cX2_solve 59 = .ok (.return_, 1) := by decide +kernel
theorem dX2_solve_60 : decode cX2_solve 60 = .ok (.iconst 0, 1) := by decide +kernel
theorem dX2_solve_61 : decode cX2_solve 61 = .ok (.istore_n 1, 1) := by decide +kernel
theorem dX2_solve_62 : decode cX2_solve 62 = .ok (.iconst 0, 1) := by decide +kernel
theorem dX2_solve_63 : decode cX2_solve 63 = .ok (.istore_n 2, 1) := by decide +kernel
theorem dX2_solve_64 : decode cX2_solve 64 = .ok (.iload_n 2, 1) := by decide +kernel
theorem dX2_solve_65 : decode cX2_solve 65 = .ok (.aload_n 0, 1) := by decide +kernel
theorem dX2_solve_66 : decode cX2_solve 66 = .ok (.getfield 27, 3) := by decide +kernel
theorem dX2_solve_69 : decode cX2_solve 69 = .ok (.if_icmp .ge 38, 3) := by decide +kernel
theorem dX2_solve_72 : decode cX2_solve 72 = .ok (.aload_n 0, 1) := by decide +kernel
theorem dX2_solve_73 : decode cX2_solve 73 = .ok (.iload_n 2, 1) := by decide +kernel
theorem dX2_solve_74 : decode cX2_solve 74 = .ok (.invokevirtual 38, 3) := by decide +kernel
theorem dX2_solve_77 : decode cX2_solve 77 = .ok (.iload_n 1, 1) := by decide +kernel
theorem dX2_solve_78 : decode cX2_solve 78 = .ok (.aload_n 0, 1) := by decide +kernel
theorem dX2_solve_79 : decode cX2_solve 79 = .ok (.getfield 45, 3) := by decide +kernel
theorem dX2_solve_82 : decode cX2_solve 82 = .ok (.aload_n 0, 1) := by decide +kernel
theorem dX2_solve_83 : decode cX2_solve 83 = .ok (.getfield 51, 3) := by decide +kernel
theorem dX2_solve_86 : decode cX2_solve 86 = .ok (.aload_n 0, 1) := by decide +kernel
theorem dX2_solve_87 : decode cX2_solve 87 = .ok (.getfield 42, 3) := by decide +kernel
theorem dX2_solve_90 : decode cX2_solve 90 = .ok (.aload_n 0, 1) := by decide +kernel
theorem dX2_solve_91 : decode cX2_solve 91 = .ok (.getfield 48, 3) := by decide +kernel
theorem dX2_solve_94 : decode cX2_solve 94 = .ok (.invokestatic 67, 3) := by decide +kernel
theorem dX2_solve_97 : decode cX2_solve 97 = .ok (.invokestatic 71, 3) := by decide +kernel
theorem dX2_solve_100 : decode cX2_solve 100 = .ok (.istore_n 1, 1) := by decide +kernel
theorem dX2_solve_101 : decode cX2_solve 101 = .ok (.iinc 2 1, 3) := by decide +kernel
theorem dX2_solve_104 : decode cX2_solve 104 = .ok (.goto (-40), 3) := by decide +kernel
theorem dX2_solve_107 : decode cX2_solve 107 = .ok (.aload_n 0, 1) := by decide +kernel
theorem dX2_solve_108 : decode cX2_solve 108 = .ok (.iconst 3, 1) := by decide +kernel
theorem dX2_solve_109 : decode cX2_solve 109 = .ok (.iload_n 1, 1) := by decide +kernel
theorem dX2_solve_110 : decode cX2_solve 110 = .ok (.iadd, 1) := by decide +kernel
theorem dX2_solve_111 : decode cX2_solve 111 = .ok (.putfield 31, 3) := by decide +kernel
theorem dX2_solve_114 : decode cX2_solve 114 = .ok (.return_, 1) := by decide +kernel
theorem dX2_search_0 : decode cX2_search 0 = .ok (.aload_n 0, 1) := by decide +kernel
theorem dX2_search_1 : decode cX2_search 1 = .ok (.ldc2_w 79, 3) := by decide +kernel
theorem dX2_search_4 : decode cX2_search 4 = .ok (.putfield 60, 3) := by decide +kernel
theorem dX2_search_7 : decode cX2_search 7 = .ok (.iconst 0, 1) := by decide +kernel
theorem dX2_search_8 : decode cX2_search 8 = .ok (.istore_n 2, 1) := by decide +kernel
theorem dX2_search_9 : decode cX2_search 9 = .ok (.iload_n 2, 1) := by decide +kernel
theorem dX2_search_10 : decode cX2_search 10 = .ok (.bipush 12, 2) := by decide +kernel
theorem dX2_search_12 : decode cX2_search 12 = .ok (.if_icmp .gt 31, 3) := by decide +kernel
theorem dX2_search_15 : decode cX2_search 15 = .ok (.bipush (-12), 2) := by decide +kernel
theorem dX2_search_17 : decode cX2_search 17 = .ok (.istore_n 3, 1) := by decide +kernel
theorem dX2_search_18 : decode cX2_search 18 = .ok (.iload_n 3, 1) := by decide +kernel
theorem dX2_search_19 : decode cX2_search 19 = .ok (.bipush 12, 2) := by decide +kernel
theorem dX2_search_21 : decode cX2_search 21 = .ok (.if_icmp .gt 16, 3) := by decide +kernel
theorem dX2_search_24 : decode cX2_search 24 = .ok (.aload_n 0, 1) := by decide +kernel
theorem dX2_search_25 : decode cX2_search 25 = .ok (.iload_n 3, 1) := by decide +kernel
theorem dX2_search_26 : decode cX2_search 26 = .ok (.iload_n 2, 1) := by decide +kernel
theorem dX2_search_27 : decode cX2_search 27 = .ok (.iload_n 1, 1) := by decide +kernel
theorem dX2_search_28 : decode cX2_search 28 = .ok (.invokevirtual 81, 3) := by decide +kernel
theorem dX2_search_31 : decode cX2_search 31 = .ok (.iinc 3 1, 3) := by decide +kernel
theorem dX2_search_34 : decode cX2_search 34 = .ok (.goto (-16), 3) := by decide +kernel
theorem dX2_search_37 : decode cX2_search 37 = .ok (.iinc 2 1, 3) := by decide +kernel
theorem dX2_search_40 : decode cX2_search 40 = .ok (.goto (-31), 3) := by decide +kernel
theorem dX2_search_43 : decode cX2_search 43 = .ok (.return_, 1) := by decide +kernel
theorem dX2_tryPlace_0 : decode cX2_tryPlace 0 = .ok (.iconst 0, 1) := by decide +kernel
theorem dX2_tryPlace_1 : decode cX2_tryPlace 1 = .ok (.istore 4, 2) := by decide +kernel
theorem dX2_tryPlace_3 : decode cX2_tryPlace 3 = .ok (.iconst 0, 1) := by decide +kernel
theorem dX2_tryPlace_4 : decode cX2_tryPlace 4 = .ok (.istore 5, 2) := by decide +kernel
theorem dX2_tryPlace_6 : decode cX2_tryPlace 6 = .ok (.iconst 0, 1) := by decide +kernel
theorem dX2_tryPlace_7 : decode cX2_tryPlace 7 = .ok (.istore 6, 2) := by decide +kernel
theorem dX2_tryPlace_9 : decode cX2_tryPlace 9 = .ok (.iload 6, 2) := by decide +kernel
theorem dX2_tryPlace_11 : decode cX2_tryPlace 11 = .ok (.aload_n 0, 1) := by decide +kernel
theorem dX2_tryPlace_12 : decode cX2_tryPlace 12 = .ok (.getfield 27, 3) := by decide +kernel
theorem dX2_tryPlace_15 : decode cX2_tryPlace 15 = .ok (.if_icmp .ge 81, 3) := by decide +kernel
theorem dX2_tryPlace_18 : decode cX2_tryPlace 18 = .ok (.aload_n 0, 1) := by decide +kernel
theorem dX2_tryPlace_19 : decode cX2_tryPlace 19 = .ok (.getfield 24, 3) := by decide +kernel
theorem dX2_tryPlace_22 : decode cX2_tryPlace 22 = .ok (.iload 6, 2) := by decide +kernel
theorem dX2_tryPlace_24 : decode cX2_tryPlace 24 = .ok (.aload_n 0, 1) := by decide +kernel
theorem dX2_tryPlace_25 : decode cX2_tryPlace 25 = .ok (.getfield 18, 3) := by decide +kernel
theorem dX2_tryPlace_28 : decode cX2_tryPlace 28 = .ok (.iload 6, 2) := by decide +kernel
theorem dX2_tryPlace_30 : decode cX2_tryPlace 30 = .ok (.iaload, 1) := by decide +kernel
theorem dX2_tryPlace_31 : decode cX2_tryPlace 31 = .ok (.iload_n 1, 1) := by decide +kernel
theorem dX2_tryPlace_32 : decode cX2_tryPlace 32 = .ok (.iload_n 2, 1) := by decide +kernel
theorem dX2_tryPlace_33 : decode cX2_tryPlace 33 = .ok (.aload_n 0, 1) := by decide +kernel
theorem dX2_tryPlace_34 : decode cX2_tryPlace 34 = .ok (.getfield 9, 3) := by decide +kernel
theorem dX2_tryPlace_37 : decode cX2_tryPlace 37 = .ok (.iload 6, 2) := by decide +kernel
theorem dX2_tryPlace_39 : decode cX2_tryPlace 39 = .ok (.iaload, 1) := by decide +kernel
theorem dX2_tryPlace_40 : decode cX2_tryPlace 40 = .ok (.aload_n 0, 1) := by decide +kernel
theorem dX2_tryPlace_41 : decode cX2_tryPlace 41 = .ok (.getfield 15, 3) := by decide +kernel
theorem dX2_tryPlace_44 : decode cX2_tryPlace 44 = .ok (.iload 6, 2) := by decide +kernel
theorem dX2_tryPlace_46 : decode cX2_tryPlace 46 = .ok (.iaload, 1) := by decide +kernel
theorem dX2_tryPlace_47 : decode cX2_tryPlace 47 = .ok (.invokestatic 67, 3) := by decide +kernel
theorem dX2_tryPlace_50 : decode cX2_tryPlace 50 = .ok (.isub, 1) := by decide +kernel
theorem dX2_tryPlace_51 : decode cX2_tryPlace 51 = .ok (.iastore, 1) := by decide +kernel
theorem dX2_tryPlace_52 : decode cX2_tryPlace 52 = .ok (.iload 6, 2) := by decide +kernel
theorem dX2_tryPlace_54 : decode cX2_tryPlace 54 = .ok (.iload_n 3, 1) := by decide +kernel
theorem dX2_tryPlace_55 : decode cX2_tryPlace 55 = .ok (.if_icmp .eq 35, 3) := by decide +kernel
theorem dX2_tryPlace_58 : decode cX2_tryPlace 58 = .ok (.iload 4, 2) := by decide +kernel
theorem dX2_tryPlace_60 : decode cX2_tryPlace 60 = .ok (.aload_n 0, 1) := by decide +kernel
theorem dX2_tryPlace_61 : decode cX2_tryPlace 61 = .ok (.getfield 21, 3) := by decide +kernel
theorem dX2_tryPlace_64 : decode cX2_tryPlace 64 = .ok (.iload 6, 2) := by decide +kernel
theorem dX2_tryPlace_66 : decode cX2_tryPlace 66 = .ok (.iaload, 1) := by decide +kernel
theorem dX2_tryPlace_67 : decode cX2_tryPlace 67 = .ok (.aload_n 0, 1) := by decide +kernel
theorem dX2_tryPlace_68 : decode cX2_tryPlace 68 = .ok (.getfield 24, 3) := by decide +kernel
theorem dX2_tryPlace_71 : decode cX2_tryPlace 71 = .ok (.iload 6, 2) := by decide +kernel
theorem dX2_tryPlace_73 : decode cX2_tryPlace 73 = .ok (.iaload, 1) := by decide +kernel
theorem dX2_tryPlace_74 : decode cX2_tryPlace 74 = .ok (.imul, 1) := by decide +kernel
theorem dX2_tryPlace_75 : decode cX2_tryPlace 75 = .ok (.iadd, 1) := by decide +kernel
theorem dX2_tryPlace_76 : decode cX2_tryPlace 76 = .ok (.istore 4, 2) := by decide +kernel
theorem dX2_tryPlace_78 : decode cX2_tryPlace 78 = .ok (.iload 5, 2) := by decide +kernel
theorem dX2_tryPlace_80 : decode cX2_tryPlace 80 = .ok (.aload_n 0, 1) := by decide +kernel
theorem dX2_tryPlace_81 : decode cX2_tryPlace 81 = .ok (.getfield 21, 3) := by decide +kernel
theorem dX2_tryPlace_84 : decode cX2_tryPlace 84 = .ok (.iload 6, 2) := by decide +kernel
theorem dX2_tryPlace_86 : decode cX2_tryPlace 86 = .ok (.iaload, 1) := by decide +kernel
theorem dX2_tryPlace_87 : decode cX2_tryPlace 87 = .ok (.iadd, 1) := by decide +kernel
theorem dX2_tryPlace_88 : decode cX2_tryPlace 88 = .ok (.istore 5, 2) := by decide +kernel
theorem dX2_tryPlace_90 : decode cX2_tryPlace 90 = .ok (.iinc 6 1, 3) := by decide +kernel
theorem dX2_tryPlace_93 : decode cX2_tryPlace 93 = .ok (.goto (-84), 3) := by decide +kernel
theorem dX2_tryPlace_96 : decode cX2_tryPlace 96 = .ok (.iload 5, 2) := by decide +kernel
theorem dX2_tryPlace_98 : decode cX2_tryPlace 98 = .ok (.ifCond .ne 7, 3) := by decide +kernel
theorem dX2_tryPlace_101 : decode cX2_tryPlace 101 = .ok (.iconst 0, 1) := by decide +kernel
theorem dX2_tryPlace_102 : decode cX2_tryPlace 102 = .ok (.goto 10, 3) := by decide +kernel
theorem dX2_tryPlace_105 : decode cX2_tryPlace 105 = .ok (.iload 4, 2) := by decide +kernel
theorem dX2_tryPlace_107 : decode cX2_tryPlace 107 = .ok (.iload 5, 2) := by decide +kernel
theorem dX2_tryPlace_109 : decode cX2_tryPlace 109 = .ok (.invokestatic 85, 3) := by decide +kernel
theorem dX2_tryPlace_112 : decode cX2_tryPlace 112 = .ok (.istore 6, 2) := by decide +kernel
theorem dX2_tryPlace_114 : decode cX2_tryPlace 114 = .ok (.aload_n 0, 1) := by decide +kernel
theorem dX2_tryPlace_115 : decode cX2_tryPlace 115 = .ok (.iload 6, 2) := by decide +kernel
theorem dX2_tryPlace_117 : decode cX2_tryPlace 117 = .ok (.iload_n 3, 1) := by decide +kernel
theorem dX2_tryPlace_118 : decode cX2_tryPlace 118 = .ok (.invokevirtual 88, 3) := by decide +kernel
theorem dX2_tryPlace_121 : decode cX2_tryPlace 121 = .ok (.lstore 7, 2) := by decide +kernel
theorem dX2_tryPlace_123 : decode cX2_tryPlace 123 = .ok (.lload 7, 2) := by decide +kernel
theorem dX2_tryPlace_125 : decode cX2_tryPlace 125 = .ok (.aload_n 0, 1) := by decide +kernel
theorem dX2_tryPlace_126 : decode cX2_tryPlace 126 = .ok (.getfield 60, 3) := by decide +kernel
theorem dX2_tryPlace_129 : decode cX2_tryPlace 129 = .ok (.lcmp, 1) := by decide +kernel
theorem dX2_tryPlace_130 : decode cX2_tryPlace 130 = .ok (.ifCond .ge 25, 3) := by decide +kernel
theorem dX2_tryPlace_133 : decode cX2_tryPlace 133 = .ok (.aload_n 0, 1) := by decide +kernel
theorem dX2_tryPlace_134 : decode cX2_tryPlace 134 = .ok (.iload_n 1, 1) := by decide +kernel
theorem dX2_tryPlace_135 : decode cX2_tryPlace 135 = .ok (.putfield 42, 3) := by decide +kernel
theorem dX2_tryPlace_138 : decode cX2_tryPlace 138 = .ok (.aload_n 0, 1) := by decide +kernel
theorem dX2_tryPlace_139 : decode cX2_tryPlace 139 = .ok (.iload_n 2, 1) := by decide +kernel
theorem dX2_tryPlace_140 : decode cX2_tryPlace 140 = .ok (.putfield 48, 3) := by decide +kernel
theorem dX2_tryPlace_143 : decode cX2_tryPlace 143 = .ok (.aload_n 0, 1) := by decide +kernel
theorem dX2_tryPlace_144 : decode cX2_tryPlace 144 = .ok (.iload 6, 2) := by decide +kernel
theorem dX2_tryPlace_146 : decode cX2_tryPlace 146 = .ok (.putfield 54, 3) := by decide +kernel
theorem dX2_tryPlace_149 : decode cX2_tryPlace 149 = .ok (.aload_n 0, 1) := by decide +kernel
theorem dX2_tryPlace_150 : decode cX2_tryPlace 150 = .ok (.lload 7, 2) := by decide +kernel
theorem dX2_tryPlace_152 : decode cX2_tryPlace 152 = .ok (.putfield 60, 3) := by decide +kernel
theorem dX2_tryPlace_155 : decode cX2_tryPlace 155 = .ok (.return_, 1) := by decide +kernel
theorem dX2_costBy_0 : decode cX2_costBy 0 = .ok (.lconst 0, 1) := by decide +kernel
theorem dX2_costBy_1 : decode cX2_costBy 1 = .ok (.lstore_n 3, 1) := by decide +kernel
theorem dX2_costBy_2 : decode cX2_costBy 2 = .ok (.iconst 0, 1) := by decide +kernel
theorem dX2_costBy_3 : decode cX2_costBy 3 = .ok (.istore 5, 2) := by decide +kernel
theorem dX2_costBy_5 : decode cX2_costBy 5 = .ok (.iload 5, 2) := by decide +kernel
theorem dX2_costBy_7 : decode cX2_costBy 7 = .ok (.aload_n 0, 1) := by decide +kernel
theorem dX2_costBy_8 : decode cX2_costBy 8 = .ok (.getfield 27, 3) := by decide +kernel
theorem dX2_costBy_11 : decode cX2_costBy 11 = .ok (.if_icmp .ge 44, 3) := by decide +kernel
theorem dX2_costBy_14 : decode cX2_costBy 14 = .ok (.iload 5, 2) := by decide +kernel
theorem dX2_costBy_16 : decode cX2_costBy 16 = .ok (.iload_n 2, 1) := by decide +kernel
theorem dX2_costBy_17 : decode cX2_costBy 17 = .ok (.if_icmp .eq 32, 3) := by decide +kernel
theorem dX2_costBy_20 : decode cX2_costBy 20 = .ok (.aload_n 0, 1) := by decide +kernel
theorem dX2_costBy_21 : decode cX2_costBy 21 = .ok (.getfield 24, 3) := by decide +kernel
theorem dX2_costBy_24 : decode cX2_costBy 24 = .ok (.iload 5, 2) := by decide +kernel
theorem dX2_costBy_26 : decode cX2_costBy 26 = .ok (.iaload, 1) := by decide +kernel
theorem dX2_costBy_27 : decode cX2_costBy 27 = .ok (.iload_n 1, 1) := by decide +kernel
theorem dX2_costBy_28 : decode cX2_costBy 28 = .ok (.isub, 1) := by decide +kernel
theorem dX2_costBy_29 : decode cX2_costBy 29 = .ok (.i2l, 1) := by decide +kernel
theorem dX2_costBy_30 : decode cX2_costBy 30 = .ok (.lstore 6, 2) := by decide +kernel
theorem dX2_costBy_32 : decode cX2_costBy 32 = .ok (.lload_n 3, 1) := by decide +kernel
theorem dX2_costBy_33 : decode cX2_costBy 33 = .ok (.aload_n 0, 1) := by decide +kernel
theorem dX2_costBy_34 : decode cX2_costBy 34 = .ok (.getfield 21, 3) := by decide +kernel
theorem dX2_costBy_37 : decode cX2_costBy 37 = .ok (.iload 5, 2) := by decide +kernel
theorem dX2_costBy_39 : decode cX2_costBy 39 = .ok (.iaload, 1) := by decide +kernel
theorem dX2_costBy_40 : decode cX2_costBy 40 = .ok (.i2l, 1) := by decide +kernel
theorem dX2_costBy_41 : decode cX2_costBy 41 = .ok (.lload 6, 2) := by decide +kernel
theorem dX2_costBy_43 : decode cX2_costBy 43 = .ok (.lmul, 1) := by decide +kernel
theorem dX2_costBy_44 : decode cX2_costBy 44 = .ok (.lload 6, 2) := by decide +kernel
theorem dX2_costBy_46 : decode cX2_costBy 46 = .ok (.lmul, 1) := by decide +kernel
theorem dX2_costBy_47 : decode cX2_costBy 47 = .ok (.ladd, 1) := by decide +kernel
theorem dX2_costBy_48 : decode cX2_costBy 48 = .ok (.lstore_n 3, 1) := by decide +kernel
theorem dX2_costBy_49 : decode cX2_costBy 49 = .ok (.iinc 5 1, 3) := by decide +kernel
theorem dX2_costBy_52 : decode cX2_costBy 52 = .ok (.goto (-47), 3) := by decide +kernel
theorem dX2_costBy_55 : decode cX2_costBy 55 = .ok (.lload_n 3, 1) := by decide +kernel
theorem dX2_costBy_56 : decode cX2_costBy 56 = .ok (.lreturn, 1) := by decide +kernel
theorem dX3_init_0 : decode cX3_init 0 = .ok (.aload_n 0, 1) := by decide +kernel
theorem dX3_init_1 : decode cX3_init 1 = .ok (.invokespecial 3, 3) := by decide +kernel
theorem dX3_init_4 : decode cX3_init 4 = .ok (.aload_n 0, 1) := by decide +kernel
theorem dX3_init_5 : decode cX3_init 5 = .ok (.iload_n 1, 1) := by decide +kernel
theorem dX3_init_6 : decode cX3_init 6 = .ok (.putfield 9, 3) := by decide +kernel
theorem dX3_init_9 : decode cX3_init 9 = .ok (.aload_n 0, 1) := by decide +kernel
theorem dX3_init_10 : decode cX3_init 10 = .ok (.iload_n 2, 1) := by decide +kernel
theorem dX3_init_11 : decode cX3_init 11 = .ok (.putfield 15, 3) := by decide +kernel
theorem dX3_init_14 : decode cX3_init 14 = .ok (.aload_n 0, 1) := by decide +kernel
theorem dX3_init_15 : decode cX3_init 15 = .ok (.iload_n 3, 1) := by decide +kernel
theorem dX3_init_16 : decode cX3_init 16 = .ok (.putfield 18, 3) := by decide +kernel
theorem dX3_init_19 : decode cX3_init 19 = .ok (.aload_n 0, 1) := by decide +kernel
theorem dX3_init_20 : decode cX3_init 20 = .ok (.iload 4, 2) := by decide +kernel
theorem dX3_init_22 : decode cX3_init 22 = .ok (.putfield 21, 3) := by decide +kernel
theorem dX3_init_25 : decode cX3_init 25 = .ok (.aload_n 0, 1) := by decide +kernel
theorem dX3_init_26 : decode cX3_init 26 = .ok (.iload 5, 2) := by decide +kernel
theorem dX3_init_28 : decode cX3_init 28 = .ok (.putfield 24, 3) := by decide +kernel
theorem dX3_init_31 : decode cX3_init 31 = .ok (.aload_n 0, 1) := by decide +kernel
theorem dX3_init_32 : decode cX3_init 32 = .ok (.iconst 1, 1) := by decide +kernel
theorem dX3_init_33 : decode cX3_init 33 = .ok (.putfield 27, 3) := by decide +kernel
theorem dX3_init_36 : decode cX3_init 36 = .ok (.aload_n 0, 1) := by decide +kernel
theorem dX3_init_37 : decode cX3_init 37 = .ok (.iconst (-1), 1) := by decide +kernel
theorem dX3_init_38 : decode cX3_init 38 = .ok (.putfield 31, 3) := by decide +kernel
theorem dX3_init_41 : decode cX3_init 41 = .ok (.aload_n 0, 1) := by decide +kernel
theorem dX3_init_42 : decode cX3_init 42 = .ok (.iconst (-1), 1) := by decide +kernel
theorem dX3_init_43 : decode cX3_init 43 = .ok (.putfield 34, 3) := by decide +kernel
theorem dX3_init_46 : decode cX3_init 46 = .ok (.return_, 1) := by decide +kernel
theorem dX3_moveClock_0 : decode cX3_moveClock 0 = .ok (.aload_n 0, 1) := by decide +kernel
theorem dX3_moveClock_1 : decode cX3_moveClock 1 = .ok (.aload_n 0, 1) := by decide +kernel
theorem dX3_moveClock_2 : decode cX3_moveClock 2 = .ok (.getfield 21, 3) := by decide +kernel
theorem dX3_moveClock_5 : decode cX3_moveClock 5 = .ok (.iload_n 1, 1) := by decide +kernel
theorem dX3_moveClock_6 : decode cX3_moveClock 6 = .ok (.iadd, 1) := by decide +kernel
theorem dX3_moveClock_7 : decode cX3_moveClock 7 = .ok (.sipush 999, 3) := by decide +kernel
theorem dX3_moveClock_10 : decode cX3_moveClock 10 = .ok (.invokestatic 37, 3) := by decide +kernel
theorem dX3_moveClock_13 : decode cX3_moveClock 13 = .ok (.putfield 21, 3) := by decide +kernel
theorem dX3_moveClock_16 : decode cX3_moveClock 16 = .ok (.return_, 1) := by decide +kernel
theorem dX3_passOne_0 : decode cX3_passOne 0 = .ok (.aload_n 0, 1) := by decide +kernel
theorem dX3_passOne_1 : decode cX3_passOne 1 = .ok (.aload_n 0, 1) := by decide +kernel
theorem dX3_passOne_2 : decode cX3_passOne 2 = .ok (.getfield 15, 3) := by decide +kernel
theorem dX3_passOne_5 : decode cX3_passOne 5 = .ok (.aload_n 0, 1) := by decide +kernel
theorem dX3_passOne_6 : decode cX3_passOne 6 = .ok (.getfield 18, 3) := by decide +kernel
theorem dX3_passOne_9 : decode cX3_passOne 9 = .ok (.iadd, 1) := by decide +kernel
theorem dX3_passOne_10 : decode cX3_passOne 10 = .ok (.bipush 48, 2) := by decide +kernel
theorem dX3_passOne_12 : decode cX3_passOne 12 = .ok (.invokestatic 41, 3) := by decide +kernel
theorem dX3_passOne_15 : decode cX3_passOne 15 = .ok (.putfield 15, 3) := by decide +kernel
theorem dX3_passOne_18 : decode cX3_passOne 18 = .ok (.aload_n 0, 1) := by decide +kernel
theorem dX3_passOne_19 : decode cX3_passOne 19 = .ok (.aload_n 0, 1) := by decide +kernel
theorem dX3_passOne_20 : decode cX3_passOne 20 = .ok (.getfield 24, 3) := by decide +kernel
theorem dX3_passOne_23 : decode cX3_passOne 23 = .ok (.invokevirtual 46, 3) := by decide +kernel
theorem dX3_passOne_26 : decode cX3_passOne 26 = .ok (.return_, 1) := by decide +kernel
theorem dX3_xIn_0 : decode cX3_xIn 0 = .ok (.aload_n 0, 1) := by decide +kernel
theorem dX3_xIn_1 : decode cX3_xIn 1 = .ok (.getfield 9, 3) := by decide +kernel
theorem dX3_xIn_4 : decode cX3_xIn 4 = .ok (.aload_n 0, 1) := by decide +kernel
theorem dX3_xIn_5 : decode cX3_xIn 5 = .ok (.getfield 15, 3) := by decide +kernel
theorem dX3_xIn_8 : decode cX3_xIn 8 = .ok (.iload_n 1, 1) := by decide +kernel
theorem dX3_xIn_9 : decode cX3_xIn 9 = .ok (.aload_n 0, 1) := by decide +kernel
theorem dX3_xIn_10 : decode cX3_xIn 10 = .ok (.getfield 18, 3) := by decide +kernel
theorem dX3_xIn_13 : decode cX3_xIn 13 = .ok (.imul, 1) := by decide +kernel
theorem dX3_xIn_14 : decode cX3_xIn 14 = .ok (.iadd, 1) := by decide +kernel
theorem dX3_xIn_15 : decode cX3_xIn 15 = .ok (.invokestatic 50, 3) := by decide +kernel
theorem dX3_xIn_18 : decode cX3_xIn 18 = .ok (.imul, 1) := by decide +kernel
theorem dX3_xIn_19 : decode cX3_xIn 19 = .ok (.bipush 12, 2) := by decide +kernel
theorem dX3_xIn_21 : decode cX3_xIn 21 = .ok (.idiv, 1) := by decide +kernel
theorem dX3_xIn_22 : decode cX3_xIn 22 = .ok (.ireturn, 1) := by decide +kernel
theorem dX3_yIn_0 : decode cX3_yIn 0 = .ok (.aload_n 0, 1) := by decide +kernel
theorem dX3_yIn_1 : decode cX3_yIn 1 = .ok (.getfield 9, 3) := by decide +kernel
theorem dX3_yIn_4 : decode cX3_yIn 4 = .ok (.aload_n 0, 1) := by decide +kernel
theorem dX3_yIn_5 : decode cX3_yIn 5 = .ok (.getfield 15, 3) := by decide +kernel
theorem dX3_yIn_8 : decode cX3_yIn 8 = .ok (.iload_n 1, 1) := by decide +kernel
theorem dX3_yIn_9 : decode cX3_yIn 9 = .ok (.aload_n 0, 1) := by decide +kernel
theorem dX3_yIn_10 : decode cX3_yIn 10 = .ok (.getfield 18, 3) := by decide +kernel
theorem dX3_yIn_13 : decode cX3_yIn 13 = .ok (.imul, 1) := by decide +kernel
theorem dX3_yIn_14 : decode cX3_yIn 14 = .ok (.iadd, 1) := by decide +kernel
theorem dX3_yIn_15 : decode cX3_yIn 15 = .ok (.bipush 12, 2) := by decide +kernel
theorem dX3_yIn_17 : decode cX3_yIn 17 = .ok (.iadd, 1) := by decide +kernel
theorem dX3_yIn_18 : decode cX3_yIn 18 = .ok (.invokestatic 50, 3) := by decide +kernel
theorem dX3_yIn_21 : decode cX3_yIn 21 = .ok (.imul, 1) := by decide +kernel
theorem dX3_yIn_22 : decode cX3_yIn 22 = .ok (.bipush 12, 2) := by decide +kernel
theorem dX3_yIn_24 : decode cX3_yIn 24 = .ok (.idiv, 1) := by decide +kernel
theorem dX3_yIn_25 : decode cX3_yIn 25 = .ok (.ireturn, 1) := by decide +kernel
theorem dX3_takeMessage_0 : decode cX3_takeMessage 0 = .ok (.aload_n 0, 1) := by decide +kernel
theorem dX3_takeMessage_1 : decode cX3_takeMessage 1 = .ok (.getfield 21, 3) := by decide +kernel
theorem dX3_takeMessage_4 : decode cX3_takeMessage 4 = .ok (.iload_n 2, 1) := by decide +kernel
theorem dX3_takeMessage_5 : decode cX3_takeMessage 5 = .ok (.iadd, 1) := by decide +kernel
theorem dX3_takeMessage_6 : decode cX3_takeMessage 6 = .ok (.istore_n 3, 1) := by decide +kernel
theorem dX3_takeMessage_7 : decode cX3_takeMessage 7 = .ok (.iload_n 1, 1) := by decide +kernel
theorem dX3_takeMessage_8 : decode cX3_takeMessage 8 = .ok (.aload_n 0, 1) := by decide +kernel
theorem dX3_takeMessage_9 : decode cX3_takeMessage 9 = .ok (.getfield 31, 3) := by decide +kernel
theorem dX3_takeMessage_12 : decode cX3_takeMessage 12 = .ok (.isub, 1) := by decide +kernel
theorem dX3_takeMessage_13 : decode cX3_takeMessage 13 = .ok (.istore 4, 2) := by decide +kernel
theorem dX3_takeMessage_15 : decode cX3_takeMessage 15 = .ok (.aload_n 0, 1) := by decide +kernel
theorem dX3_takeMessage_16 : decode cX3_takeMessage 16 = .ok (.getfield 54, 3) := by decide +kernel
theorem dX3_takeMessage_19 : decode cX3_takeMessage 19 = .ok (.ifCond .le 26, 3) := by decide +kernel
theorem dX3_takeMessage_22 : decode cX3_takeMessage 22 = .ok (.iload 4, 2) := by decide +kernel
theorem dX3_takeMessage_24 : decode cX3_takeMessage 24 = .ok (.ifCond .eq 21, 3) := by decide +kernel
theorem dX3_takeMessage_27 : decode cX3_takeMessage 27 = .ok (.aload_n 0, 1) := by decide +kernel
theorem dX3_takeMessage_28 : decode cX3_takeMessage 28 = .ok (.iload_n 3, 1) := by decide +kernel
theorem dX3_takeMessage_29 : decode cX3_takeMessage 29 = .ok (.aload_n 0, 1) := by decide +kernel
theorem dX3_takeMessage_30 : decode cX3_takeMessage 30 = .ok (.getfield 57, 3) := by decide +kernel
theorem dX3_takeMessage_33 : decode cX3_takeMessage 33 = .ok (.isub, 1) := by decide +kernel
theorem dX3_takeMessage_34 : decode cX3_takeMessage 34 = .ok (.iload 4, 2) := by decide +kernel
theorem dX3_takeMessage_36 : decode cX3_takeMessage 36 = .ok (.idiv, 1) := by decide +kernel
theorem dX3_takeMessage_37 : decode cX3_takeMessage 37 = .ok (.bipush 9, 2) := by decide +kernel
theorem dX3_takeMessage_39 : decode cX3_takeMessage 39 = .ok (.invokestatic 37, 3) := by decide +kernel
theorem dX3_takeMessage_42 : decode cX3_takeMessage 42 = .ok (.putfield 60, 3) := by decide +kernel
theorem dX3_takeMessage_45 : decode cX3_takeMessage 45 = .ok (.aload_n 0, 1) := by decide +kernel
theorem dX3_takeMessage_46 : decode cX3_takeMessage 46 = .ok (.dup, 1) := by decide +kernel
theorem dX3_takeMessage_47 : decode cX3_takeMessage 47 = .ok (.getfield 54, 3) := by decide +kernel
theorem dX3_takeMessage_50 : decode cX3_takeMessage 50 = .ok (.iconst 1, 1) := by decide +kernel
theorem dX3_takeMessage_51 : decode cX3_takeMessage 51 = .ok (.iadd, 1) := by decide +kernel
theorem dX3_takeMessage_52 : decode cX3_takeMessage 52 = .ok (.putfield 54, 3) := by decide +kernel
theorem dX3_takeMessage_55 : decode cX3_takeMessage 55 = .ok (.aload_n 0, 1) := by decide +kernel
theorem dX3_takeMessage_56 : decode cX3_takeMessage 56 = .ok (.iload_n 1, 1) := by decide +kernel
theorem dX3_takeMessage_57 : decode cX3_takeMessage 57 = .ok (.putfield 31, 3) := by decide +kernel
theorem dX3_takeMessage_60 : decode cX3_takeMessage 60 = .ok (.aload_n 0, 1) := by decide +kernel
theorem dX3_takeMessage_61 : decode cX3_takeMessage 61 = .ok (.aload_n 0, 1) := by decide +kernel
theorem dX3_takeMessage_62 : decode cX3_takeMessage 62 = .ok (.getfield 15, 3) := by decide +kernel
theorem dX3_takeMessage_65 : decode cX3_takeMessage 65 = .ok (.putfield 34, 3) := by decide +kernel
theorem dX3_takeMessage_68 : decode cX3_takeMessage 68 = .ok (.aload_n 0, 1) := by decide +kernel
theorem dX3_takeMessage_69 : decode cX3_takeMessage 69 = .ok (.iload_n 3, 1) := by decide +kernel
theorem dX3_takeMessage_70 : decode cX3_takeMessage 70 = .ok (.putfield 57, 3) := by decide +kernel
theorem dX3_takeMessage_73 : decode cX3_takeMessage 73 = .ok (.return_, 1) := by decide +kernel
theorem dX3_messageHolds_0 : decode cX3_messageHolds 0 = .ok (.aload_n 0, 1) := by decide +kernel
theorem dX3_messageHolds_1 : decode cX3_messageHolds 1 = .ok (.getfield 54, 3) := by decide +kernel
theorem dX3_messageHolds_4 : decode cX3_messageHolds 4 = .ok (.ifCond .le 22, 3) := by decide +kernel
theorem dX3_messageHolds_7 : decode cX3_messageHolds 7 = .ok (.iload_n 1, 1) := by decide +kernel
theorem dX3_messageHolds_8 : decode cX3_messageHolds 8 = .ok (.aload_n 0, 1) := by decide +kernel
theorem dX3_messageHolds_9 : decode cX3_messageHolds 9 = .ok (.getfield 31, 3) := by decide +kernel
theorem dX3_messageHolds_12 : decode cX3_messageHolds 12 = .ok (.isub, 1) := by decide +kernel
theorem dX3_messageHolds_13 : decode cX3_messageHolds 13 = .ok (.iconst 0, 1) := by decide +kernel
theorem dX3_messageHolds_14 : decode cX3_messageHolds 14 = .ok (.bipush 12, 2) := by decide +kernel
theorem dX3_messageHolds_16 : decode cX3_messageHolds 16 = .ok (.invokestatic 63, 3) := by decide +kernel
theorem dX3_messageHolds_19 : decode cX3_messageHolds 19 = .ok (.ifCond .ne 7, 3) := by decide +kernel
theorem dX3_messageHolds_22 : decode cX3_messageHolds 22 = .ok (.iconst 1, 1) := by decide +kernel
theorem dX3_messageHolds_23 : decode cX3_messageHolds 23 = .ok (.goto 4, 3) := by decide +kernel
theorem dX3_messageHolds_26 : decode cX3_messageHolds 26 = .ok (.iconst 0, 1) := by decide +kernel
theorem dX3_messageHolds_27 : decode cX3_messageHolds 27 = .ok (.ireturn, 1) := by decide +kernel
theorem dX3_toldX_0 : decode cX3_toldX 0 = .ok (.aload_n 0, 1) := by decide +kernel
theorem dX3_toldX_1 : decode cX3_toldX 1 = .ok (.getfield 9, 3) := by decide +kernel
theorem dX3_toldX_4 : decode cX3_toldX 4 = .ok (.aload_n 0, 1) := by decide +kernel
theorem dX3_toldX_5 : decode cX3_toldX 5 = .ok (.getfield 34, 3) := by decide +kernel
theorem dX3_toldX_8 : decode cX3_toldX 8 = .ok (.iload_n 1, 1) := by decide +kernel
theorem dX3_toldX_9 : decode cX3_toldX 9 = .ok (.aload_n 0, 1) := by decide +kernel
theorem dX3_toldX_10 : decode cX3_toldX 10 = .ok (.getfield 31, 3) := by decide +kernel
theorem dX3_toldX_13 : decode cX3_toldX 13 = .ok (.isub, 1) := by decide +kernel
theorem dX3_toldX_14 : decode cX3_toldX 14 = .ok (.aload_n 0, 1) := by decide +kernel
theorem dX3_toldX_15 : decode cX3_toldX 15 = .ok (.getfield 18, 3) := by decide +kernel
theorem dX3_toldX_18 : decode cX3_toldX 18 = .ok (.imul, 1) := by decide +kernel
theorem dX3_toldX_19 : decode cX3_toldX 19 = .ok (.iadd, 1) := by decide +kernel
theorem dX3_toldX_20 : decode cX3_toldX 20 = .ok (.invokestatic 50, 3) := by decide +kernel
theorem dX3_toldX_23 : decode cX3_toldX 23 = .ok (.imul, 1) := by decide +kernel
theorem dX3_toldX_24 : decode cX3_toldX 24 = .ok (.bipush 12, 2) := by decide +kernel
theorem dX3_toldX_26 : decode cX3_toldX 26 = .ok (.idiv, 1) := by decide +kernel
theorem dX3_toldX_27 : decode cX3_toldX 27 = .ok (.ireturn, 1) := by decide +kernel
theorem dX3_toldY_0 : decode cX3_toldY 0 = .ok (.aload_n 0, 1) := by decide +kernel
theorem dX3_toldY_1 : decode cX3_toldY 1 = .ok (.getfield 9, 3) := by decide +kernel
theorem dX3_toldY_4 : decode cX3_toldY 4 = .ok (.aload_n 0, 1) := by decide +kernel
theorem dX3_toldY_5 : decode cX3_toldY 5 = .ok (.getfield 34, 3) := by decide +kernel
theorem dX3_toldY_8 : decode cX3_toldY 8 = .ok (.iload_n 1, 1) := by decide +kernel
theorem dX3_toldY_9 : decode cX3_toldY 9 = .ok (.aload_n 0, 1) := by decide +kernel
theorem dX3_toldY_10 : decode cX3_toldY 10 = .ok (.getfield 31, 3) := by decide +kernel
theorem dX3_toldY_13 : decode cX3_toldY 13 = .ok (.isub, 1) := by decide +kernel
theorem dX3_toldY_14 : decode cX3_toldY 14 = .ok (.aload_n 0, 1) := by decide +kernel
theorem dX3_toldY_15 : decode cX3_toldY 15 = .ok (.getfield 18, 3) := by decide +kernel
theorem dX3_toldY_18 : decode cX3_toldY 18 = .ok (.imul, 1) := by decide +kernel
theorem dX3_toldY_19 : decode cX3_toldY 19 = .ok (.iadd, 1) := by decide +kernel
theorem dX3_toldY_20 : decode cX3_toldY 20 = .ok (.bipush 12, 2) := by decide +kernel
theorem dX3_toldY_22 : decode cX3_toldY 22 = .ok (.iadd, 1) := by decide +kernel
theorem dX3_toldY_23 : decode cX3_toldY 23 = .ok (.invokestatic 50, 3) := by decide +kernel
theorem dX3_toldY_26 : decode cX3_toldY 26 = .ok (.imul, 1) := by decide +kernel
theorem dX3_toldY_27 : decode cX3_toldY 27 = .ok (.bipush 12, 2) := by decide +kernel
theorem dX3_toldY_29 : decode cX3_toldY 29 = .ok (.idiv, 1) := by decide +kernel
theorem dX3_toldY_30 : decode cX3_toldY 30 = .ok (.ireturn, 1) := by decide +kernel
theorem dX3_toldClock_0 : decode cX3_toldClock 0 = .ok (.aload_n 0, 1) := by decide +kernel
theorem dX3_toldClock_1 : decode cX3_toldClock 1 = .ok (.getfield 57, 3) := by decide +kernel
theorem dX3_toldClock_4 : decode cX3_toldClock 4 = .ok (.iload_n 1, 1) := by decide +kernel
theorem dX3_toldClock_5 : decode cX3_toldClock 5 = .ok (.aload_n 0, 1) := by decide +kernel
theorem dX3_toldClock_6 : decode cX3_toldClock 6 = .ok (.getfield 31, 3) := by decide +kernel
theorem dX3_toldClock_9 : decode cX3_toldClock 9 = .ok (.isub, 1) := by decide +kernel
theorem dX3_toldClock_10 : decode cX3_toldClock 10 = .ok (.aload_n 0, 1) := by decide +kernel
theorem dX3_toldClock_11 : decode cX3_toldClock 11 = .ok (.getfield 60, 3) := by decide +kernel
theorem dX3_toldClock_14 : decode cX3_toldClock 14 = .ok (.imul, 1) := by decide +kernel
theorem dX3_toldClock_15 : decode cX3_toldClock 15 = .ok (.iadd, 1) := by decide +kernel
theorem dX3_toldClock_16 : decode cX3_toldClock 16 = .ok (.ireturn, 1) := by decide +kernel
theorem dX3_tell_0 : decode cX3_tell 0 = .ok (.iload_n 1, 1) := by decide +kernel
theorem dX3_tell_1 : decode cX3_tell 1 = .ok (.tableswitch 87 0 6 #[43, 48, 53, 58, 63, 68, 81], 43) := by decide +kernel
theorem dX3_tell_44 : decode cX3_tell 44 = .ok (.aload_n 0, 1) := by decide +kernel
theorem dX3_tell_45 : decode cX3_tell 45 = .ok (.getfield 9, 3) := by decide +kernel
theorem dX3_tell_48 : decode cX3_tell 48 = .ok (.ireturn, 1) := by decide +kernel
theorem dX3_tell_49 : decode cX3_tell 49 = .ok (.aload_n 0, 1) := by decide +kernel
theorem dX3_tell_50 : decode cX3_tell 50 = .ok (.getfield 15, 3) := by decide +kernel
theorem dX3_tell_53 : decode cX3_tell 53 = .ok (.ireturn, 1) := by decide +kernel
theorem dX3_tell_54 : decode cX3_tell 54 = .ok (.aload_n 0, 1) := by decide +kernel
theorem dX3_tell_55 : decode cX3_tell 55 = .ok (.getfield 18, 3) := by decide +kernel
theorem dX3_tell_58 : decode cX3_tell 58 = .ok (.ireturn, 1) := by decide +kernel
theorem dX3_tell_59 : decode cX3_tell 59 = .ok (.aload_n 0, 1) := by decide +kernel
theorem dX3_tell_60 : decode cX3_tell 60 = .ok (.getfield 21, 3) := by decide +kernel
theorem dX3_tell_63 : decode cX3_tell 63 = .ok (.ireturn, 1) := by decide +kernel
theorem dX3_tell_64 : decode cX3_tell 64 = .ok (.aload_n 0, 1) := by decide +kernel
theorem dX3_tell_65 : decode cX3_tell 65 = .ok (.getfield 24, 3) := by decide +kernel
theorem dX3_tell_68 : decode cX3_tell 68 = .ok (.ireturn, 1) := by decide +kernel
theorem dX3_tell_69 : decode cX3_tell 69 = .ok (.aload_n 0, 1) := by decide +kernel
theorem dX3_tell_70 : decode cX3_tell 70 = .ok (.getfield 27, 3) := by decide +kernel
theorem dX3_tell_73 : decode cX3_tell 73 = .ok (.ifCond .eq 7, 3) := by decide +kernel
theorem dX3_tell_76 : decode cX3_tell 76 = .ok (.iconst 1, 1) := by decide +kernel
theorem dX3_tell_77 : decode cX3_tell 77 = .ok (.goto 4, 3) := by decide +kernel
theorem dX3_tell_80 : decode cX3_tell 80 = .ok (.iconst 0, 1) := by decide +kernel
theorem dX3_tell_81 : decode cX3_tell 81 = .ok (.ireturn, 1) := by decide +kernel
theorem dX3_tell_82 : decode cX3_tell 82 = .ok (.aload_n 0, 1) := by decide +kernel
theorem dX3_tell_83 : decode cX3_tell 83 = .ok (.iconst 0, 1) := by decide +kernel
theorem dX3_tell_84 : decode cX3_tell 84 = .ok (.invokevirtual 67, 3) := by decide +kernel
theorem dX3_tell_87 : decode cX3_tell 87 = .ok (.ireturn, 1) := by decide +kernel
theorem dX3_tell_88 : decode cX3_tell 88 = .ok (.aload_n 0, 1) := by decide +kernel
theorem dX3_tell_89 : decode cX3_tell 89 = .ok (.iconst 0, 1) := by decide +kernel
theorem dX3_tell_90 : decode cX3_tell 90 = .ok (.invokevirtual 70, 3) := by decide +kernel
theorem dX3_tell_93 : decode cX3_tell 93 = .ok (.ireturn, 1) := by decide +kernel
theorem dX3_tellMessage_0 : decode cX3_tellMessage 0 = .ok (.iload_n 1, 1) := by decide +kernel
theorem dX3_tellMessage_1 : decode cX3_tellMessage 1 = .ok (.tableswitch 107 0 6 #[43, 48, 53, 58, 63, 68, 82], 43) := by decide +kernel
theorem dX3_tellMessage_44 : decode cX3_tellMessage 44 = .ok (.aload_n 0, 1) := by decide +kernel
theorem dX3_tellMessage_45 : decode cX3_tellMessage 45 = .ok (.getfield 54, 3) := by decide +kernel
theorem dX3_tellMessage_48 : decode cX3_tellMessage 48 = .ok (.ireturn, 1) := by decide +kernel
theorem dX3_tellMessage_49 : decode cX3_tellMessage 49 = .ok (.aload_n 0, 1) := by decide +kernel
theorem dX3_tellMessage_50 : decode cX3_tellMessage 50 = .ok (.getfield 31, 3) := by decide +kernel
theorem dX3_tellMessage_53 : decode cX3_tellMessage 53 = .ok (.ireturn, 1) := by decide +kernel
theorem dX3_tellMessage_54 : decode cX3_tellMessage 54 = .ok (.aload_n 0, 1) := by decide +kernel
theorem dX3_tellMessage_55 : decode cX3_tellMessage 55 = .ok (.getfield 34, 3) := by decide +kernel
theorem dX3_tellMessage_58 : decode cX3_tellMessage 58 = .ok (.ireturn, 1) := by decide +kernel
theorem dX3_tellMessage_59 : decode cX3_tellMessage 59 = .ok (.aload_n 0, 1) := by decide +kernel
theorem dX3_tellMessage_60 : decode cX3_tellMessage 60 = .ok (.getfield 57, 3) := by decide +kernel
theorem dX3_tellMessage_63 : decode cX3_tellMessage 63 = .ok (.ireturn, 1) := by decide +kernel
theorem dX3_tellMessage_64 : decode cX3_tellMessage 64 = .ok (.aload_n 0, 1) := by decide +kernel
theorem dX3_tellMessage_65 : decode cX3_tellMessage 65 = .ok (.getfield 60, 3) := by decide +kernel
theorem dX3_tellMessage_68 : decode cX3_tellMessage 68 = .ok (.ireturn, 1) := by decide +kernel
theorem dX3_tellMessage_69 : decode cX3_tellMessage 69 = .ok (.aload_n 0, 1) := by decide +kernel
theorem dX3_tellMessage_70 : decode cX3_tellMessage 70 = .ok (.iload_n 2, 1) := by decide +kernel
theorem dX3_tellMessage_71 : decode cX3_tellMessage 71 = .ok (.invokevirtual 73, 3) := by decide +kernel
theorem dX3_tellMessage_74 : decode cX3_tellMessage 74 = .ok (.ifCond .eq 7, 3) := by decide +kernel
theorem dX3_tellMessage_77 : decode cX3_tellMessage 77 = .ok (.iconst 1, 1) := by decide +kernel
theorem dX3_tellMessage_78 : decode cX3_tellMessage 78 = .ok (.goto 4, 3) := by decide +kernel
theorem dX3_tellMessage_81 : decode cX3_tellMessage 81 = .ok (.iconst 0, 1) := by decide +kernel
theorem dX3_tellMessage_82 : decode cX3_tellMessage 82 = .ok (.ireturn, 1) := by decide +kernel
theorem dX3_tellMessage_83 : decode cX3_tellMessage 83 = .ok (.aload_n 0, 1) := by decide +kernel
theorem dX3_tellMessage_84 : decode cX3_tellMessage 84 = .ok (.getfield 54, 3) := by decide +kernel
theorem dX3_tellMessage_87 : decode cX3_tellMessage 87 = .ok (.ifCond .ne 7, 3) := by decide +kernel
theorem dX3_tellMessage_90 : decode cX3_tellMessage 90 = .ok (.iconst 0, 1) := by decide +kernel
theorem dX3_tellMessage_91 : decode cX3_tellMessage 91 = .ok (.goto 16, 3) := by decide +kernel
theorem dX3_tellMessage_94 : decode cX3_tellMessage 94 = .ok (.aload_n 0, 1) := by decide +kernel
theorem dX3_tellMessage_95 : decode cX3_tellMessage 95 = .ok (.iload_n 2, 1) := by decide +kernel
theorem dX3_tellMessage_96 : decode cX3_tellMessage 96 = .ok (.invokevirtual 77, 3) := by decide +kernel
theorem dX3_tellMessage_99 : decode cX3_tellMessage 99 = .ok (.aload_n 0, 1) := by decide +kernel
theorem dX3_tellMessage_100 : decode cX3_tellMessage 100 = .ok (.getfield 21, 3) := by decide +kernel
theorem dX3_tellMessage_103 : decode cX3_tellMessage 103 = .ok (.isub, 1) := by decide +kernel
theorem dX3_tellMessage_104 : decode cX3_tellMessage 104 = .ok (.invokestatic 80, 3) := by decide +kernel
theorem dX3_tellMessage_107 : decode cX3_tellMessage 107 = .ok (.ireturn, 1) := by decide +kernel
theorem dX3_tellMessage_108 : decode cX3_tellMessage 108 = .ok (.aload_n 0, 1) := by decide +kernel
theorem dX3_tellMessage_109 : decode cX3_tellMessage 109 = .ok (.getfield 54, 3) := by decide +kernel
theorem dX3_tellMessage_112 : decode cX3_tellMessage 112 = .ok (.ifCond .ne 7, 3) := by decide +kernel
theorem dX3_tellMessage_115 : decode cX3_tellMessage 115 = .ok (.iconst 0, 1) := by decide +kernel
theorem dX3_tellMessage_116 : decode cX3_tellMessage 116 = .ok (.goto 26, 3) := by decide +kernel
theorem dX3_tellMessage_119 : decode cX3_tellMessage 119 = .ok (.aload_n 0, 1) := by decide +kernel
theorem dX3_tellMessage_120 : decode cX3_tellMessage 120 = .ok (.iload_n 2, 1) := by decide +kernel
theorem dX3_tellMessage_121 : decode cX3_tellMessage 121 = .ok (.invokevirtual 83, 3) := by decide +kernel
theorem dX3_tellMessage_124 : decode cX3_tellMessage 124 = .ok (.aload_n 0, 1) := by decide +kernel
theorem dX3_tellMessage_125 : decode cX3_tellMessage 125 = .ok (.iload_n 2, 1) := by decide +kernel
theorem dX3_tellMessage_126 : decode cX3_tellMessage 126 = .ok (.invokevirtual 86, 3) := by decide +kernel
theorem dX3_tellMessage_129 : decode cX3_tellMessage 129 = .ok (.aload_n 0, 1) := by decide +kernel
theorem dX3_tellMessage_130 : decode cX3_tellMessage 130 = .ok (.iconst 0, 1) := by decide +kernel
theorem dX3_tellMessage_131 : decode cX3_tellMessage 131 = .ok (.invokevirtual 67, 3) := by decide +kernel
theorem dX3_tellMessage_134 : decode cX3_tellMessage 134 = .ok (.aload_n 0, 1) := by decide +kernel
theorem dX3_tellMessage_135 : decode cX3_tellMessage 135 = .ok (.iconst 0, 1) := by decide +kernel
theorem dX3_tellMessage_136 : decode cX3_tellMessage 136 = .ok (.invokevirtual 70, 3) := by decide +kernel
theorem dX3_tellMessage_139 : decode cX3_tellMessage 139 = .ok (.invokestatic 89, 3) := by decide +kernel
theorem dX3_tellMessage_142 : decode cX3_tellMessage 142 = .ok (.ireturn, 1) := by decide +kernel
theorem dX4_init_0 : decode cX4_init 0 = .ok (.aload_n 0, 1) := by decide +kernel
theorem dX4_init_1 : decode cX4_init 1 = .ok (.invokespecial 1, 3) := by decide +kernel
theorem dX4_init_4 : decode cX4_init 4 = .ok (.aload_n 0, 1) := by decide +kernel
theorem dX4_init_5 : decode cX4_init 5 = .ok (.iload_n 1, 1) := by decide +kernel
theorem dX4_init_6 : decode cX4_init 6 = .ok (.putfield 7, 3) := by decide +kernel
theorem dX4_init_9 : decode cX4_init 9 = .ok (.aload_n 0, 1) := by decide +kernel
theorem dX4_init_10 : decode cX4_init 10 = .ok (.iload_n 2, 1) := by decide +kernel
theorem dX4_init_11 : decode cX4_init 11 = .ok (.putfield 13, 3) := by decide +kernel
theorem dX4_init_14 : decode cX4_init 14 = .ok (.return_, 1) := by decide +kernel
theorem dX4_canHear_0 : decode cX4_canHear 0 = .ok (.aload_n 1, 1) := by decide +kernel
theorem dX4_canHear_1 : decode cX4_canHear 1 = .ok (.iload_n 2, 1) := by decide +kernel
theorem dX4_canHear_2 : decode cX4_canHear 2 = .ok (.invokevirtual 16, 3) := by decide +kernel
theorem dX4_canHear_5 : decode cX4_canHear 5 = .ok (.istore_n 3, 1) := by decide +kernel
theorem dX4_canHear_6 : decode cX4_canHear 6 = .ok (.aload_n 1, 1) := by decide +kernel
theorem dX4_canHear_7 : decode cX4_canHear 7 = .ok (.getfield 22, 3) := by decide +kernel
theorem dX4_canHear_10 : decode cX4_canHear 10 = .ok (.ifCond .eq 32, 3) := by decide +kernel
theorem dX4_canHear_13 : decode cX4_canHear 13 = .ok (.iload_n 3, 1) := by decide +kernel
theorem dX4_canHear_14 : decode cX4_canHear 14 = .ok (.bipush 10, 2) := by decide +kernel
theorem dX4_canHear_16 : decode cX4_canHear 16 = .ok (.if_icmp .lt 26, 3) := by decide +kernel
theorem dX4_canHear_19 : decode cX4_canHear 19 = .ok (.aload_n 1, 1) := by decide +kernel
theorem dX4_canHear_20 : decode cX4_canHear 20 = .ok (.iload_n 2, 1) := by decide +kernel
theorem dX4_canHear_21 : decode cX4_canHear 21 = .ok (.invokevirtual 26, 3) := by decide +kernel
theorem dX4_canHear_24 : decode cX4_canHear 24 = .ok (.aload_n 0, 1) := by decide +kernel
theorem dX4_canHear_25 : decode cX4_canHear 25 = .ok (.getfield 7, 3) := by decide +kernel
theorem dX4_canHear_28 : decode cX4_canHear 28 = .ok (.isub, 1) := by decide +kernel
theorem dX4_canHear_29 : decode cX4_canHear 29 = .ok (.invokestatic 29, 3) := by decide +kernel
theorem dX4_canHear_32 : decode cX4_canHear 32 = .ok (.iconst 2, 1) := by decide +kernel
theorem dX4_canHear_33 : decode cX4_canHear 33 = .ok (.iload_n 3, 1) := by decide +kernel
theorem dX4_canHear_34 : decode cX4_canHear 34 = .ok (.imul, 1) := by decide +kernel
theorem dX4_canHear_35 : decode cX4_canHear 35 = .ok (.if_icmp .gt 7, 3) := by decide +kernel
theorem dX4_canHear_38 : decode cX4_canHear 38 = .ok (.iconst 1, 1) := by decide +kernel
theorem dX4_canHear_39 : decode cX4_canHear 39 = .ok (.goto 4, 3) := by decide +kernel
theorem dX4_canHear_42 : decode cX4_canHear 42 = .ok (.iconst 0, 1) := by decide +kernel
theorem dX4_canHear_43 : decode cX4_canHear 43 = .ok (.ireturn, 1) := by decide +kernel
theorem dX5_init_0 : decode cX5_init 0 = .ok (.aload_n 0, 1) := by decide +kernel
theorem dX5_init_1 : decode cX5_init 1 = .ok (.invokespecial 3, 3) := by decide +kernel
theorem dX5_init_4 : decode cX5_init 4 = .ok (.aload_n 0, 1) := by decide +kernel
theorem dX5_init_5 : decode cX5_init 5 = .ok (.iconst (-1), 1) := by decide +kernel
theorem dX5_init_6 : decode cX5_init 6 = .ok (.putfield 9, 3) := by decide +kernel
theorem dX5_init_9 : decode cX5_init 9 = .ok (.aload_n 0, 1) := by decide +kernel
theorem dX5_init_10 : decode cX5_init 10 = .ok (.bipush 99, 2) := by decide +kernel
theorem dX5_init_12 : decode cX5_init 12 = .ok (.putfield 15, 3) := by decide +kernel
theorem dX5_init_15 : decode cX5_init 15 = .ok (.aload_n 0, 1) := by decide +kernel
theorem dX5_init_16 : decode cX5_init 16 = .ok (.iconst (-1), 1) := by decide +kernel
theorem dX5_init_17 : decode cX5_init 17 = .ok (.putfield 18, 3) := by decide +kernel
theorem dX5_init_20 : decode cX5_init 20 = .ok (.return_, 1) := by decide +kernel
theorem dX5_hasObservedIn_0 : decode cX5_hasObservedIn 0 = .ok (.aload_n 0, 1) := by decide +kernel
theorem dX5_hasObservedIn_1 : decode cX5_hasObservedIn 1 = .ok (.getfield 21, 3) := by decide +kernel
theorem dX5_hasObservedIn_4 : decode cX5_hasObservedIn 4 = .ok (.ifCond .le 15, 3) := by decide +kernel
theorem dX5_hasObservedIn_7 : decode cX5_hasObservedIn 7 = .ok (.aload_n 0, 1) := by decide +kernel
theorem dX5_hasObservedIn_8 : decode cX5_hasObservedIn 8 = .ok (.getfield 9, 3) := by decide +kernel
theorem dX5_hasObservedIn_11 : decode cX5_hasObservedIn 11 = .ok (.iload_n 1, 1) := by decide +kernel
theorem dX5_hasObservedIn_12 : decode cX5_hasObservedIn 12 = .ok (.if_icmp .ne 7, 3) := by decide +kernel
theorem dX5_hasObservedIn_15 : decode cX5_hasObservedIn 15 = .ok (.iconst 1, 1) := by decide +kernel
theorem dX5_hasObservedIn_16 : decode cX5_hasObservedIn 16 = .ok (.goto 4, 3) := by decide +kernel
theorem dX5_hasObservedIn_19 : decode cX5_hasObservedIn 19 = .ok (.iconst 0, 1) := by decide +kernel
theorem dX5_hasObservedIn_20 : decode cX5_hasObservedIn 20 = .ok (.ireturn, 1) := by decide +kernel
theorem dX5_hasObservedSince_0 : decode cX5_hasObservedSince 0 = .ok (.aload_n 0, 1) := by decide +kernel
theorem dX5_hasObservedSince_1 : decode cX5_hasObservedSince 1 = .ok (.getfield 21, 3) := by decide +kernel
theorem dX5_hasObservedSince_4 : decode cX5_hasObservedSince 4 = .ok (.ifCond .le 15, 3) := by decide +kernel
theorem dX5_hasObservedSince_7 : decode cX5_hasObservedSince 7 = .ok (.aload_n 0, 1) := by decide +kernel
theorem dX5_hasObservedSince_8 : decode cX5_hasObservedSince 8 = .ok (.getfield 9, 3) := by decide +kernel
theorem dX5_hasObservedSince_11 : decode cX5_hasObservedSince 11 = .ok (.iload_n 1, 1) := by decide +kernel
theorem dX5_hasObservedSince_12 : decode cX5_hasObservedSince 12 = .ok (.if_icmp .lt 7, 3) := by decide +kernel
theorem dX5_hasObservedSince_15 : decode cX5_hasObservedSince 15 = .ok (.iconst 1, 1) := by decide +kernel
theorem dX5_hasObservedSince_16 : decode cX5_hasObservedSince 16 = .ok (.goto 4, 3) := by decide +kernel
theorem dX5_hasObservedSince_19 : decode cX5_hasObservedSince 19 = .ok (.iconst 0, 1) := by decide +kernel
theorem dX5_hasObservedSince_20 : decode cX5_hasObservedSince 20 = .ok (.ireturn, 1) := by decide +kernel
theorem dX5_leapsTo_0 : decode cX5_leapsTo 0 = .ok (.aload_n 0, 1) := by decide +kernel
theorem dX5_leapsTo_1 : decode cX5_leapsTo 1 = .ok (.iload_n 3, 1) := by decide +kernel
theorem dX5_leapsTo_2 : decode cX5_leapsTo 2 = .ok (.iconst 1, 1) := by decide +kernel
theorem dX5_leapsTo_3 : decode cX5_leapsTo 3 = .ok (.isub, 1) := by decide +kernel
theorem dX5_leapsTo_4 : decode cX5_leapsTo 4 = .ok (.invokevirtual 24, 3) := by decide +kernel
theorem dX5_leapsTo_7 : decode cX5_leapsTo 7 = .ok (.ifCond .eq 32, 3) := by decide +kernel
theorem dX5_leapsTo_10 : decode cX5_leapsTo 10 = .ok (.aload_n 0, 1) := by decide +kernel
theorem dX5_leapsTo_11 : decode cX5_leapsTo 11 = .ok (.getfield 28, 3) := by decide +kernel
theorem dX5_leapsTo_14 : decode cX5_leapsTo 14 = .ok (.iconst 3, 1) := by decide +kernel
theorem dX5_leapsTo_15 : decode cX5_leapsTo 15 = .ok (.if_icmp .lt 24, 3) := by decide +kernel
theorem dX5_leapsTo_18 : decode cX5_leapsTo 18 = .ok (.aload_n 0, 1) := by decide +kernel
theorem dX5_leapsTo_19 : decode cX5_leapsTo 19 = .ok (.getfield 31, 3) := by decide +kernel
theorem dX5_leapsTo_22 : decode cX5_leapsTo 22 = .ok (.aload_n 0, 1) := by decide +kernel
theorem dX5_leapsTo_23 : decode cX5_leapsTo 23 = .ok (.getfield 34, 3) := by decide +kernel
theorem dX5_leapsTo_26 : decode cX5_leapsTo 26 = .ok (.iload_n 1, 1) := by decide +kernel
theorem dX5_leapsTo_27 : decode cX5_leapsTo 27 = .ok (.iload_n 2, 1) := by decide +kernel
theorem dX5_leapsTo_28 : decode cX5_leapsTo 28 = .ok (.invokestatic 37, 3) := by decide +kernel
theorem dX5_leapsTo_31 : decode cX5_leapsTo 31 = .ok (.iconst 4, 1) := by decide +kernel
theorem dX5_leapsTo_32 : decode cX5_leapsTo 32 = .ok (.if_icmp .le 7, 3) := by decide +kernel
theorem dX5_leapsTo_35 : decode cX5_leapsTo 35 = .ok (.iconst 1, 1) := by decide +kernel
theorem dX5_leapsTo_36 : decode cX5_leapsTo 36 = .ok (.goto 4, 3) := by decide +kernel
theorem dX5_leapsTo_39 : decode cX5_leapsTo 39 = .ok (.iconst 0, 1) := by decide +kernel
theorem dX5_leapsTo_40 : decode cX5_leapsTo 40 = .ok (.ireturn, 1) := by decide +kernel
theorem dX5_keepAll_0 : decode cX5_keepAll 0 = .ok (.aload_n 0, 1) := by decide +kernel
theorem dX5_keepAll_1 : decode cX5_keepAll 1 = .ok (.dup, 1) := by decide +kernel
theorem dX5_keepAll_2 : decode cX5_keepAll 2 = .ok (.getfield 21, 3) := by decide +kernel
theorem dX5_keepAll_5 : decode cX5_keepAll 5 = .ok (.iconst 1, 1) := by decide +kernel
theorem dX5_keepAll_6 : decode cX5_keepAll 6 = .ok (.iadd, 1) := by decide +kernel
theorem dX5_keepAll_7 : decode cX5_keepAll 7 = .ok (.putfield 21, 3) := by decide +kernel
theorem dX5_keepAll_10 : decode cX5_keepAll 10 = .ok (.aload_n 0, 1) := by decide +kernel
theorem dX5_keepAll_11 : decode cX5_keepAll 11 = .ok (.iload_n 1, 1) := by decide +kernel
theorem dX5_keepAll_12 : decode cX5_keepAll 12 = .ok (.putfield 9, 3) := by decide +kernel
theorem dX5_keepAll_15 : decode cX5_keepAll 15 = .ok (.aload_n 0, 1) := by decide +kernel
theorem dX5_keepAll_16 : decode cX5_keepAll 16 = .ok (.aload_n 2, 1) := by decide +kernel
theorem dX5_keepAll_17 : decode cX5_keepAll 17 = .ok (.getfield 41, 3) := by decide +kernel
theorem dX5_keepAll_20 : decode cX5_keepAll 20 = .ok (.putfield 28, 3) := by decide +kernel
theorem dX5_keepAll_23 : decode cX5_keepAll 23 = .ok (.aload_n 0, 1) := by decide +kernel
theorem dX5_keepAll_24 : decode cX5_keepAll 24 = .ok (.aload_n 2, 1) := by decide +kernel
theorem dX5_keepAll_25 : decode cX5_keepAll 25 = .ok (.getfield 44, 3) := by decide +kernel
theorem dX5_keepAll_28 : decode cX5_keepAll 28 = .ok (.putfield 15, 3) := by decide +kernel
theorem dX5_keepAll_31 : decode cX5_keepAll 31 = .ok (.aload_n 0, 1) := by decide +kernel
theorem dX5_keepAll_32 : decode cX5_keepAll 32 = .ok (.iload_n 3, 1) := by decide +kernel
theorem dX5_keepAll_33 : decode cX5_keepAll 33 = .ok (.putfield 45, 3) := by decide +kernel
theorem dX5_keepAll_36 : decode cX5_keepAll 36 = .ok (.aload_n 0, 1) := by decide +kernel
theorem dX5_keepAll_37 : decode cX5_keepAll 37 = .ok (.getfield 45, 3) := by decide +kernel
theorem dX5_keepAll_40 : decode cX5_keepAll 40 = .ok (.ifCond .le 8, 3) := by decide +kernel
theorem dX5_keepAll_43 : decode cX5_keepAll 43 = .ok (.aload_n 0, 1) := by decide +kernel
theorem dX5_keepAll_44 : decode cX5_keepAll 44 = .ok (.iload_n 1, 1) := by decide +kernel
theorem dX5_keepAll_45 : decode cX5_keepAll 45 = .ok (.putfield 18, 3) := by decide +kernel
theorem dX5_keepAll_48 : decode cX5_keepAll 48 = .ok (.aload_n 2, 1) := by decide +kernel
theorem dX5_keepAll_49 : decode cX5_keepAll 49 = .ok (.invokevirtual 48, 3) := by decide +kernel
theorem dX5_keepAll_52 : decode cX5_keepAll 52 = .ok (.ifCond .eq 12, 3) := by decide +kernel
theorem dX5_keepAll_55 : decode cX5_keepAll 55 = .ok (.aload_n 0, 1) := by decide +kernel
theorem dX5_keepAll_56 : decode cX5_keepAll 56 = .ok (.aload_n 2, 1) := by decide +kernel
theorem dX5_keepAll_57 : decode cX5_keepAll 57 = .ok (.iload 4, 2) := by decide +kernel
theorem dX5_keepAll_59 : decode cX5_keepAll 59 = .ok (.iload 5, 2) := by decide +kernel
theorem dX5_keepAll_61 : decode cX5_keepAll 61 = .ok (.invokevirtual 52, 3) := by decide +kernel
theorem dX5_keepAll_64 : decode cX5_keepAll 64 = .ok (.return_, 1) := by decide +kernel
theorem dX5_keepSolution_0 : decode cX5_keepSolution 0 = .ok (.aload_n 0, 1) := by decide +kernel
theorem dX5_keepSolution_1 : decode cX5_keepSolution 1 = .ok (.aload_n 1, 1) := by decide +kernel
theorem dX5_keepSolution_2 : decode cX5_keepSolution 2 = .ok (.getfield 56, 3) := by decide +kernel
theorem dX5_keepSolution_5 : decode cX5_keepSolution 5 = .ok (.putfield 31, 3) := by decide +kernel
theorem dX5_keepSolution_8 : decode cX5_keepSolution 8 = .ok (.aload_n 0, 1) := by decide +kernel
theorem dX5_keepSolution_9 : decode cX5_keepSolution 9 = .ok (.aload_n 1, 1) := by decide +kernel
theorem dX5_keepSolution_10 : decode cX5_keepSolution 10 = .ok (.getfield 57, 3) := by decide +kernel
theorem dX5_keepSolution_13 : decode cX5_keepSolution 13 = .ok (.putfield 34, 3) := by decide +kernel
theorem dX5_keepSolution_16 : decode cX5_keepSolution 16 = .ok (.aload_n 0, 1) := by decide +kernel
theorem dX5_keepSolution_17 : decode cX5_keepSolution 17 = .ok (.aload_n 1, 1) := by decide +kernel
theorem dX5_keepSolution_18 : decode cX5_keepSolution 18 = .ok (.getfield 58, 3) := by decide +kernel
theorem dX5_keepSolution_21 : decode cX5_keepSolution 21 = .ok (.putfield 61, 3) := by decide +kernel
theorem dX5_keepSolution_24 : decode cX5_keepSolution 24 = .ok (.aload_n 0, 1) := by decide +kernel
theorem dX5_keepSolution_25 : decode cX5_keepSolution 25 = .ok (.aload_n 1, 1) := by decide +kernel
theorem dX5_keepSolution_26 : decode cX5_keepSolution 26 = .ok (.getfield 62, 3) := by decide +kernel
theorem dX5_keepSolution_29 : decode cX5_keepSolution 29 = .ok (.l2i, 1) := by decide +kernel
theorem dX5_keepSolution_30 : decode cX5_keepSolution 30 = .ok (.putfield 66, 3) := by decide +kernel
theorem dX5_keepSolution_33 : decode cX5_keepSolution 33 = .ok (.aload_n 0, 1) := by decide +kernel
theorem dX5_keepSolution_34 : decode cX5_keepSolution 34 = .ok (.dup, 1) := by decide +kernel
theorem dX5_keepSolution_35 : decode cX5_keepSolution 35 = .ok (.getfield 68, 3) := by decide +kernel
theorem dX5_keepSolution_38 : decode cX5_keepSolution 38 = .ok (.iconst 1, 1) := by decide +kernel
theorem dX5_keepSolution_39 : decode cX5_keepSolution 39 = .ok (.iadd, 1) := by decide +kernel
theorem dX5_keepSolution_40 : decode cX5_keepSolution 40 = .ok (.putfield 68, 3) := by decide +kernel
theorem dX5_keepSolution_43 : decode cX5_keepSolution 43 = .ok (.aload_n 0, 1) := by decide +kernel
theorem dX5_keepSolution_44 : decode cX5_keepSolution 44 = .ok (.iload_n 2, 1) := by decide +kernel
theorem dX5_keepSolution_45 : decode cX5_keepSolution 45 = .ok (.iload_n 3, 1) := by decide +kernel
theorem dX5_keepSolution_46 : decode cX5_keepSolution 46 = .ok (.invokevirtual 71, 3) := by decide +kernel
theorem dX5_keepSolution_49 : decode cX5_keepSolution 49 = .ok (.istore 4, 2) := by decide +kernel
theorem dX5_keepSolution_51 : decode cX5_keepSolution 51 = .ok (.aload_n 0, 1) := by decide +kernel
theorem dX5_keepSolution_52 : decode cX5_keepSolution 52 = .ok (.dup, 1) := by decide +kernel
theorem dX5_keepSolution_53 : decode cX5_keepSolution 53 = .ok (.getfield 75, 3) := by decide +kernel
theorem dX5_keepSolution_56 : decode cX5_keepSolution 56 = .ok (.iload 4, 2) := by decide +kernel
theorem dX5_keepSolution_58 : decode cX5_keepSolution 58 = .ok (.iadd, 1) := by decide +kernel
theorem dX5_keepSolution_59 : decode cX5_keepSolution 59 = .ok (.putfield 75, 3) := by decide +kernel
theorem dX5_keepSolution_62 : decode cX5_keepSolution 62 = .ok (.aload_n 0, 1) := by decide +kernel
theorem dX5_keepSolution_63 : decode cX5_keepSolution 63 = .ok (.getfield 45, 3) := by decide +kernel
theorem dX5_keepSolution_66 : decode cX5_keepSolution 66 = .ok (.ifCond .ne 22, 3) := by decide +kernel
theorem dX5_keepSolution_69 : decode cX5_keepSolution 69 = .ok (.iload 4, 2) := by decide +kernel
theorem dX5_keepSolution_71 : decode cX5_keepSolution 71 = .ok (.aload_n 0, 1) := by decide +kernel
theorem dX5_keepSolution_72 : decode cX5_keepSolution 72 = .ok (.getfield 15, 3) := by decide +kernel
theorem dX5_keepSolution_75 : decode cX5_keepSolution 75 = .ok (.if_icmp .le 13, 3) := by decide +kernel
theorem dX5_keepSolution_78 : decode cX5_keepSolution 78 = .ok (.aload_n 0, 1) := by decide +kernel
theorem dX5_keepSolution_79 : decode cX5_keepSolution 79 = .ok (.dup, 1) := by decide +kernel
theorem dX5_keepSolution_80 : decode cX5_keepSolution 80 = .ok (.getfield 78, 3) := by decide +kernel
theorem dX5_keepSolution_83 : decode cX5_keepSolution 83 = .ok (.iconst 1, 1) := by decide +kernel
theorem dX5_keepSolution_84 : decode cX5_keepSolution 84 = .ok (.iadd, 1) := by decide +kernel
theorem dX5_keepSolution_85 : decode cX5_keepSolution 85 = .ok (.putfield 78, 3) := by decide +kernel
theorem dX5_keepSolution_88 : decode cX5_keepSolution 88 = .ok (.return_, 1) := by decide +kernel
theorem dX5_errorAt_0 : decode cX5_errorAt 0 = .ok (.aload_n 0, 1) := by decide +kernel
theorem dX5_errorAt_1 : decode cX5_errorAt 1 = .ok (.getfield 68, 3) := by decide +kernel
theorem dX5_errorAt_4 : decode cX5_errorAt 4 = .ok (.ifCond .ne 7, 3) := by decide +kernel
theorem dX5_errorAt_7 : decode cX5_errorAt 7 = .ok (.iconst 0, 1) := by decide +kernel
theorem dX5_errorAt_8 : decode cX5_errorAt 8 = .ok (.goto 16, 3) := by decide +kernel
theorem dX5_errorAt_11 : decode cX5_errorAt 11 = .ok (.aload_n 0, 1) := by decide +kernel
theorem dX5_errorAt_12 : decode cX5_errorAt 12 = .ok (.getfield 31, 3) := by decide +kernel
theorem dX5_errorAt_15 : decode cX5_errorAt 15 = .ok (.aload_n 0, 1) := by decide +kernel
theorem dX5_errorAt_16 : decode cX5_errorAt 16 = .ok (.getfield 34, 3) := by decide +kernel
theorem dX5_errorAt_19 : decode cX5_errorAt 19 = .ok (.iload_n 1, 1) := by decide +kernel
theorem dX5_errorAt_20 : decode cX5_errorAt 20 = .ok (.iload_n 2, 1) := by decide +kernel
theorem dX5_errorAt_21 : decode cX5_errorAt 21 = .ok (.invokestatic 37, 3) := by decide +kernel
theorem dX5_errorAt_24 : decode cX5_errorAt 24 = .ok (.ireturn, 1) := by decide +kernel
theorem dX5_meanOfErrors_0 : decode cX5_meanOfErrors 0 = .ok (.aload_n 0, 1) := by decide +kernel
theorem dX5_meanOfErrors_1 : decode cX5_meanOfErrors 1 = .ok (.getfield 68, 3) := by decide +kernel
theorem dX5_meanOfErrors_4 : decode cX5_meanOfErrors 4 = .ok (.ifCond .ne 7, 3) := by decide +kernel
theorem dX5_meanOfErrors_7 : decode cX5_meanOfErrors 7 = .ok (.dconst 0, 1) := by decide +kernel
theorem dX5_meanOfErrors_8 : decode cX5_meanOfErrors 8 = .ok (.goto 14, 3) := by decide +kernel
theorem dX5_meanOfErrors_11 : decode cX5_meanOfErrors 11 = .ok (.aload_n 0, 1) := by decide +kernel
theorem dX5_meanOfErrors_12 : decode cX5_meanOfErrors 12 = .ok (.getfield 75, 3) := by decide +kernel
theorem dX5_meanOfErrors_15 : decode cX5_meanOfErrors 15 = .ok (.i2d, 1) := by decide +kernel
theorem dX5_meanOfErrors_16 : decode cX5_meanOfErrors 16 = .ok (.aload_n 0, 1) := by decide +kernel
theorem dX5_meanOfErrors_17 : decode cX5_meanOfErrors 17 = .ok (.getfield 68, 3) := by decide +kernel
theorem dX5_meanOfErrors_20 : decode cX5_meanOfErrors 20 = .ok (.i2d, 1) := by decide +kernel
theorem dX5_meanOfErrors_21 : decode cX5_meanOfErrors 21 = .ok (.ddiv, 1) := by decide +kernel
theorem dX5_meanOfErrors_22 : decode cX5_meanOfErrors 22 = .ok (.dreturn, 1) := by decide +kernel
theorem dX5_tell_0 : decode cX5_tell 0 = .ok (.iload_n 1, 1) := by decide +kernel
theorem dX5_tell_1 : decode cX5_tell 1 = .ok (.tableswitch 96 3 11 #[51, 56, 61, 66, 71, 76, 81, 86, 91], 51) := by decide +kernel
theorem dX5_tell_52 : decode cX5_tell 52 = .ok (.aload_n 0, 1) := by decide +kernel
theorem dX5_tell_53 : decode cX5_tell 53 = .ok (.getfield 9, 3) := by decide +kernel
theorem dX5_tell_56 : decode cX5_tell 56 = .ok (.ireturn, 1) := by decide +kernel
theorem dX5_tell_57 : decode cX5_tell 57 = .ok (.aload_n 0, 1) := by decide +kernel
theorem dX5_tell_58 : decode cX5_tell 58 = .ok (.getfield 28, 3) := by decide +kernel
theorem dX5_tell_61 : decode cX5_tell 61 = .ok (.ireturn, 1) := by decide +kernel
theorem dX5_tell_62 : decode cX5_tell 62 = .ok (.aload_n 0, 1) := by decide +kernel
theorem dX5_tell_63 : decode cX5_tell 63 = .ok (.getfield 31, 3) := by decide +kernel
theorem dX5_tell_66 : decode cX5_tell 66 = .ok (.ireturn, 1) := by decide +kernel
theorem dX5_tell_67 : decode cX5_tell 67 = .ok (.aload_n 0, 1) := by decide +kernel
theorem dX5_tell_68 : decode cX5_tell 68 = .ok (.getfield 34, 3) := by decide +kernel
theorem dX5_tell_71 : decode cX5_tell 71 = .ok (.ireturn, 1) := by decide +kernel
theorem dX5_tell_72 : decode cX5_tell 72 = .ok (.aload_n 0, 1) := by decide +kernel
theorem dX5_tell_73 : decode cX5_tell 73 = .ok (.getfield 61, 3) := by decide +kernel
theorem dX5_tell_76 : decode cX5_tell 76 = .ok (.ireturn, 1) := by decide +kernel
theorem dX5_tell_77 : decode cX5_tell 77 = .ok (.aload_n 0, 1) := by decide +kernel
theorem dX5_tell_78 : decode cX5_tell 78 = .ok (.getfield 66, 3) := by decide +kernel
theorem dX5_tell_81 : decode cX5_tell 81 = .ok (.ireturn, 1) := by decide +kernel
theorem dX5_tell_82 : decode cX5_tell 82 = .ok (.aload_n 0, 1) := by decide +kernel
theorem dX5_tell_83 : decode cX5_tell 83 = .ok (.getfield 15, 3) := by decide +kernel
theorem dX5_tell_86 : decode cX5_tell 86 = .ok (.ireturn, 1) := by decide +kernel
theorem dX5_tell_87 : decode cX5_tell 87 = .ok (.aload_n 0, 1) := by decide +kernel
theorem dX5_tell_88 : decode cX5_tell 88 = .ok (.getfield 45, 3) := by decide +kernel
theorem dX5_tell_91 : decode cX5_tell 91 = .ok (.ireturn, 1) := by decide +kernel
theorem dX5_tell_92 : decode cX5_tell 92 = .ok (.aload_n 0, 1) := by decide +kernel
theorem dX5_tell_93 : decode cX5_tell 93 = .ok (.getfield 78, 3) := by decide +kernel
theorem dX5_tell_96 : decode cX5_tell 96 = .ok (.ireturn, 1) := by decide +kernel
theorem dX5_tell_97 : decode cX5_tell 97 = .ok (.aload_n 0, 1) := by decide +kernel
theorem dX5_tell_98 : decode cX5_tell 98 = .ok (.getfield 18, 3) := by decide +kernel
theorem dX5_tell_101 : decode cX5_tell 101 = .ok (.ireturn, 1) := by decide +kernel
theorem dJ6_bitCount_0f7a4_0 : decode cJ6_bitCount_0f7a4 0 = .ok (.iload_n 0, 1) := by decide +kernel
theorem dJ6_bitCount_0f7a4_1 : decode cJ6_bitCount_0f7a4 1 = .ok (.iload_n 0, 1) := by decide +kernel
theorem dJ6_bitCount_0f7a4_2 : decode cJ6_bitCount_0f7a4 2 = .ok (.iconst 1, 1) := by decide +kernel
theorem dJ6_bitCount_0f7a4_3 : decode cJ6_bitCount_0f7a4 3 = .ok (.iushr, 1) := by decide +kernel
theorem dJ6_bitCount_0f7a4_4 : decode cJ6_bitCount_0f7a4 4 = .ok (.ldc_w 265, 3) := by decide +kernel
theorem dJ6_bitCount_0f7a4_7 : decode cJ6_bitCount_0f7a4 7 = .ok (.iand, 1) := by decide +kernel
theorem dJ6_bitCount_0f7a4_8 : decode cJ6_bitCount_0f7a4 8 = .ok (.isub, 1) := by decide +kernel
theorem dJ6_bitCount_0f7a4_9 : decode cJ6_bitCount_0f7a4 9 = .ok (.istore_n 0, 1) := by decide +kernel
theorem dJ6_bitCount_0f7a4_10 : decode cJ6_bitCount_0f7a4 10 = .ok (.iload_n 0, 1) := by decide +kernel
theorem dJ6_bitCount_0f7a4_11 : decode cJ6_bitCount_0f7a4 11 = .ok (.ldc_w 266, 3) := by decide +kernel
theorem dJ6_bitCount_0f7a4_14 : decode cJ6_bitCount_0f7a4 14 = .ok (.iand, 1) := by decide +kernel
theorem dJ6_bitCount_0f7a4_15 : decode cJ6_bitCount_0f7a4 15 = .ok (.iload_n 0, 1) := by decide +kernel
theorem dJ6_bitCount_0f7a4_16 : decode cJ6_bitCount_0f7a4 16 = .ok (.iconst 2, 1) := by decide +kernel
theorem dJ6_bitCount_0f7a4_17 : decode cJ6_bitCount_0f7a4 17 = .ok (.iushr, 1) := by decide +kernel
theorem dJ6_bitCount_0f7a4_18 : decode cJ6_bitCount_0f7a4 18 = .ok (.ldc_w 266, 3) := by decide +kernel
theorem dJ6_bitCount_0f7a4_21 : decode cJ6_bitCount_0f7a4 21 = .ok (.iand, 1) := by decide +kernel
theorem dJ6_bitCount_0f7a4_22 : decode cJ6_bitCount_0f7a4 22 = .ok (.iadd, 1) := by decide +kernel
theorem dJ6_bitCount_0f7a4_23 : decode cJ6_bitCount_0f7a4 23 = .ok (.istore_n 0, 1) := by decide +kernel
theorem dJ6_bitCount_0f7a4_24 : decode cJ6_bitCount_0f7a4 24 = .ok (.iload_n 0, 1) := by decide +kernel
theorem dJ6_bitCount_0f7a4_25 : decode cJ6_bitCount_0f7a4 25 = .ok (.iload_n 0, 1) := by decide +kernel
theorem dJ6_bitCount_0f7a4_26 : decode cJ6_bitCount_0f7a4 26 = .ok (.iconst 4, 1) := by decide +kernel
theorem dJ6_bitCount_0f7a4_27 : decode cJ6_bitCount_0f7a4 27 = .ok (.iushr, 1) := by decide +kernel
theorem dJ6_bitCount_0f7a4_28 : decode cJ6_bitCount_0f7a4 28 = .ok (.iadd, 1) := by decide +kernel
theorem dJ6_bitCount_0f7a4_29 : decode cJ6_bitCount_0f7a4 29 = .ok (.ldc_w 267, 3) := by decide +kernel
theorem dJ6_bitCount_0f7a4_32 : decode cJ6_bitCount_0f7a4 32 = .ok (.iand, 1) := by decide +kernel
theorem dJ6_bitCount_0f7a4_33 : decode cJ6_bitCount_0f7a4 33 = .ok (.istore_n 0, 1) := by decide +kernel
theorem dJ6_bitCount_0f7a4_34 : decode cJ6_bitCount_0f7a4 34 = .ok (.iload_n 0, 1) := by decide +kernel
theorem dJ6_bitCount_0f7a4_35 : decode cJ6_bitCount_0f7a4 35 = .ok (.iload_n 0, 1) := by decide +kernel
theorem dJ6_bitCount_0f7a4_36 : decode cJ6_bitCount_0f7a4 36 = .ok (.bipush 8, 2) := by decide +kernel
theorem dJ6_bitCount_0f7a4_38 : decode cJ6_bitCount_0f7a4 38 = .ok (.iushr, 1) := by decide +kernel
theorem dJ6_bitCount_0f7a4_39 : decode cJ6_bitCount_0f7a4 39 = .ok (.iadd, 1) := by decide +kernel
theorem dJ6_bitCount_0f7a4_40 : decode cJ6_bitCount_0f7a4 40 = .ok (.istore_n 0, 1) := by decide +kernel
theorem dJ6_bitCount_0f7a4_41 : decode cJ6_bitCount_0f7a4 41 = .ok (.iload_n 0, 1) := by decide +kernel
theorem dJ6_bitCount_0f7a4_42 : decode cJ6_bitCount_0f7a4 42 = .ok (.iload_n 0, 1) := by decide +kernel
theorem dJ6_bitCount_0f7a4_43 : decode cJ6_bitCount_0f7a4 43 = .ok (.bipush 16, 2) := by decide +kernel
theorem dJ6_bitCount_0f7a4_45 : decode cJ6_bitCount_0f7a4 45 = .ok (.iushr, 1) := by decide +kernel
theorem dJ6_bitCount_0f7a4_46 : decode cJ6_bitCount_0f7a4 46 = .ok (.iadd, 1) := by decide +kernel
theorem dJ6_bitCount_0f7a4_47 : decode cJ6_bitCount_0f7a4 47 = .ok (.istore_n 0, 1) := by decide +kernel
theorem dJ6_bitCount_0f7a4_48 : decode cJ6_bitCount_0f7a4 48 = .ok (.iload_n 0, 1) := by decide +kernel
theorem dJ6_bitCount_0f7a4_49 : decode cJ6_bitCount_0f7a4 49 = .ok (.bipush 63, 2) := by decide +kernel
theorem dJ6_bitCount_0f7a4_51 : decode cJ6_bitCount_0f7a4 51 = .ok (.iand, 1) := by decide +kernel
theorem dJ6_bitCount_0f7a4_52 : decode cJ6_bitCount_0f7a4 52 = .ok (.ireturn, 1) := by decide +kernel
theorem dJ9_floorDiv_7cf53_0 : decode cJ9_floorDiv_7cf53 0 = .ok (.iload_n 0, 1) := by decide +kernel
theorem dJ9_floorDiv_7cf53_1 : decode cJ9_floorDiv_7cf53 1 = .ok (.iload_n 1, 1) := by decide +kernel
theorem dJ9_floorDiv_7cf53_2 : decode cJ9_floorDiv_7cf53 2 = .ok (.idiv, 1) := by decide +kernel
theorem dJ9_floorDiv_7cf53_3 : decode cJ9_floorDiv_7cf53 3 = .ok (.istore_n 2, 1) := by decide +kernel
theorem dJ9_floorDiv_7cf53_4 : decode cJ9_floorDiv_7cf53 4 = .ok (.iload_n 0, 1) := by decide +kernel
theorem dJ9_floorDiv_7cf53_5 : decode cJ9_floorDiv_7cf53 5 = .ok (.iload_n 1, 1) := by decide +kernel
theorem dJ9_floorDiv_7cf53_6 : decode cJ9_floorDiv_7cf53 6 = .ok (.ixor, 1) := by decide +kernel
theorem dJ9_floorDiv_7cf53_7 : decode cJ9_floorDiv_7cf53 7 = .ok (.ifCond .ge 14, 3) := by decide +kernel
theorem dJ9_floorDiv_7cf53_10 : decode cJ9_floorDiv_7cf53 10 = .ok (.iload_n 2, 1) := by decide +kernel
theorem dJ9_floorDiv_7cf53_11 : decode cJ9_floorDiv_7cf53 11 = .ok (.iload_n 1, 1) := by decide +kernel
theorem dJ9_floorDiv_7cf53_12 : decode cJ9_floorDiv_7cf53 12 = .ok (.imul, 1) := by decide +kernel
theorem dJ9_floorDiv_7cf53_13 : decode cJ9_floorDiv_7cf53 13 = .ok (.iload_n 0, 1) := by decide +kernel
theorem dJ9_floorDiv_7cf53_14 : decode cJ9_floorDiv_7cf53 14 = .ok (.if_icmp .eq 7, 3) := by decide +kernel
theorem dJ9_floorDiv_7cf53_17 : decode cJ9_floorDiv_7cf53 17 = .ok (.iload_n 2, 1) := by decide +kernel
theorem dJ9_floorDiv_7cf53_18 : decode cJ9_floorDiv_7cf53 18 = .ok (.iconst 1, 1) := by decide +kernel
theorem dJ9_floorDiv_7cf53_19 : decode cJ9_floorDiv_7cf53 19 = .ok (.isub, 1) := by decide +kernel
theorem dJ9_floorDiv_7cf53_20 : decode cJ9_floorDiv_7cf53 20 = .ok (.ireturn, 1) := by decide +kernel
theorem dJ9_floorDiv_7cf53_21 : decode cJ9_floorDiv_7cf53 21 = .ok (.iload_n 2, 1) := by decide +kernel
theorem dJ9_floorDiv_7cf53_22 : decode cJ9_floorDiv_7cf53 22 = .ok (.ireturn, 1) := by decide +kernel
theorem dJ9_floorMod_7cf53_0 : decode cJ9_floorMod_7cf53 0 = .ok (.iload_n 0, 1) := by decide +kernel
theorem dJ9_floorMod_7cf53_1 : decode cJ9_floorMod_7cf53 1 = .ok (.iload_n 1, 1) := by decide +kernel
theorem dJ9_floorMod_7cf53_2 : decode cJ9_floorMod_7cf53 2 = .ok (.irem, 1) := by decide +kernel
theorem dJ9_floorMod_7cf53_3 : decode cJ9_floorMod_7cf53 3 = .ok (.istore_n 2, 1) := by decide +kernel
theorem dJ9_floorMod_7cf53_4 : decode cJ9_floorMod_7cf53 4 = .ok (.iload_n 0, 1) := by decide +kernel
theorem dJ9_floorMod_7cf53_5 : decode cJ9_floorMod_7cf53 5 = .ok (.iload_n 1, 1) := by decide +kernel
theorem dJ9_floorMod_7cf53_6 : decode cJ9_floorMod_7cf53 6 = .ok (.ixor, 1) := by decide +kernel
theorem dJ9_floorMod_7cf53_7 : decode cJ9_floorMod_7cf53 7 = .ok (.ifCond .ge 11, 3) := by decide +kernel
theorem dJ9_floorMod_7cf53_10 : decode cJ9_floorMod_7cf53 10 = .ok (.iload_n 2, 1) := by decide +kernel
theorem dJ9_floorMod_7cf53_11 : decode cJ9_floorMod_7cf53 11 = .ok (.ifCond .eq 7, 3) := by decide +kernel
theorem dJ9_floorMod_7cf53_14 : decode cJ9_floorMod_7cf53 14 = .ok (.iload_n 2, 1) := by decide +kernel
theorem dJ9_floorMod_7cf53_15 : decode cJ9_floorMod_7cf53 15 = .ok (.iload_n 1, 1) := by decide +kernel
theorem dJ9_floorMod_7cf53_16 : decode cJ9_floorMod_7cf53 16 = .ok (.iadd, 1) := by decide +kernel
theorem dJ9_floorMod_7cf53_17 : decode cJ9_floorMod_7cf53 17 = .ok (.ireturn, 1) := by decide +kernel
theorem dJ9_floorMod_7cf53_18 : decode cJ9_floorMod_7cf53 18 = .ok (.iload_n 2, 1) := by decide +kernel
theorem dJ9_floorMod_7cf53_19 : decode cJ9_floorMod_7cf53 19 = .ok (.ireturn, 1) := by decide +kernel
theorem dJ9_abs_0f7a4_0 : decode cJ9_abs_0f7a4 0 = .ok (.iload_n 0, 1) := by decide +kernel
theorem dJ9_abs_0f7a4_1 : decode cJ9_abs_0f7a4 1 = .ok (.ifCond .ge 8, 3) := by decide +kernel
theorem dJ9_abs_0f7a4_4 : decode cJ9_abs_0f7a4 4 = .ok (.iload_n 0, 1) := by decide +kernel
theorem dJ9_abs_0f7a4_5 : decode cJ9_abs_0f7a4 5 = .ok (.ineg, 1) := by decide +kernel
theorem dJ9_abs_0f7a4_6 : decode cJ9_abs_0f7a4 6 = .ok (.goto 4, 3) := by decide +kernel
theorem dJ9_abs_0f7a4_9 : decode cJ9_abs_0f7a4 9 = .ok (.iload_n 0, 1) := by decide +kernel
theorem dJ9_abs_0f7a4_10 : decode cJ9_abs_0f7a4 10 = .ok (.ireturn, 1) := by decide +kernel
theorem dJ9_max_7cf53_0 : decode cJ9_max_7cf53 0 = .ok (.iload_n 0, 1) := by decide +kernel
theorem dJ9_max_7cf53_1 : decode cJ9_max_7cf53 1 = .ok (.iload_n 1, 1) := by decide +kernel
theorem dJ9_max_7cf53_2 : decode cJ9_max_7cf53 2 = .ok (.if_icmp .lt 7, 3) := by decide +kernel
theorem dJ9_max_7cf53_5 : decode cJ9_max_7cf53 5 = .ok (.iload_n 0, 1) := by decide +kernel
theorem dJ9_max_7cf53_6 : decode cJ9_max_7cf53 6 = .ok (.goto 4, 3) := by decide +kernel
theorem dJ9_max_7cf53_9 : decode cJ9_max_7cf53 9 = .ok (.iload_n 1, 1) := by decide +kernel
theorem dJ9_max_7cf53_10 : decode cJ9_max_7cf53 10 = .ok (.ireturn, 1) := by decide +kernel
theorem dJ9_min_7cf53_0 : decode cJ9_min_7cf53 0 = .ok (.iload_n 0, 1) := by decide +kernel
theorem dJ9_min_7cf53_1 : decode cJ9_min_7cf53 1 = .ok (.iload_n 1, 1) := by decide +kernel
theorem dJ9_min_7cf53_2 : decode cJ9_min_7cf53 2 = .ok (.if_icmp .gt 7, 3) := by decide +kernel
theorem dJ9_min_7cf53_5 : decode cJ9_min_7cf53 5 = .ok (.iload_n 0, 1) := by decide +kernel
theorem dJ9_min_7cf53_6 : decode cJ9_min_7cf53 6 = .ok (.goto 4, 3) := by decide +kernel
theorem dJ9_min_7cf53_9 : decode cJ9_min_7cf53 9 = .ok (.iload_n 1, 1) := by decide +kernel
theorem dJ9_min_7cf53_10 : decode cJ9_min_7cf53 10 = .ok (.ireturn, 1) := by decide +kernel
end
section
theorem zz_t : True := trivial
end
