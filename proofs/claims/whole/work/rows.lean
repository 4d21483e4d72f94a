section
-- ===== PART A: goes FIRST, ahead of the names: the tables' words, and 'selects' of the private methods out of them =====
/-- a private method of a class that the tables say can be made, by its rows of tables_1 -/
def lw_okq (q : MethodName × Nat) : Prop := (q.1.cls ≠ "java/lang/invoke/MethodHandle" ∧ q.1.cls ≠ "java/lang/invoke/VarHandle") ∧ Cond.instantiable q.1.cls q.2 ∈ tables_1 ∧ Cond.privateMethod q.1 ∈ tables_1 ∧ Cond.instanceMethod q.1 ∈ tables_1
theorem lw_p0 : lw_okq (⟨"Pseudorange", "countOf", "(I)I"⟩, 8) := ⟨⟨by decide +kernel, by decide +kernel⟩, List.mem_of_getElem? (i := 18) (by decide +kernel), List.mem_of_getElem? (i := 127) (by decide +kernel), List.mem_of_getElem? (i := 128) (by decide +kernel)⟩
theorem lw_p1 : lw_okq (⟨"Pseudorange", "sumOfStars", "(I)I"⟩, 8) := ⟨⟨by decide +kernel, by decide +kernel⟩, List.mem_of_getElem? (i := 18) (by decide +kernel), List.mem_of_getElem? (i := 131) (by decide +kernel), List.mem_of_getElem? (i := 132) (by decide +kernel)⟩
theorem lw_p2 : lw_okq (⟨"Pseudorange$Star", "messageHolds", "(I)Z"⟩, 11) := ⟨⟨by decide +kernel, by decide +kernel⟩, List.mem_of_getElem? (i := 137) (by decide +kernel), List.mem_of_getElem? (i := 135) (by decide +kernel), List.mem_of_getElem? (i := 136) (by decide +kernel)⟩
theorem lw_p3 : lw_okq (⟨"Pseudorange", "sumOfReceivers", "(I)I"⟩, 8) := ⟨⟨by decide +kernel, by decide +kernel⟩, List.mem_of_getElem? (i := 18) (by decide +kernel), List.mem_of_getElem? (i := 143) (by decide +kernel), List.mem_of_getElem? (i := 144) (by decide +kernel)⟩
theorem lw_p4 : lw_okq (⟨"Pseudorange", "digestStar", "(JLPseudorange$Star;)J"⟩, 8) := ⟨⟨by decide +kernel, by decide +kernel⟩, List.mem_of_getElem? (i := 18) (by decide +kernel), List.mem_of_getElem? (i := 147) (by decide +kernel), List.mem_of_getElem? (i := 148) (by decide +kernel)⟩
theorem lw_p5 : lw_okq (⟨"Pseudorange$Star", "tell", "(I)I"⟩, 11) := ⟨⟨by decide +kernel, by decide +kernel⟩, List.mem_of_getElem? (i := 137) (by decide +kernel), List.mem_of_getElem? (i := 151) (by decide +kernel), List.mem_of_getElem? (i := 152) (by decide +kernel)⟩
theorem lw_p6 : lw_okq (⟨"Pseudorange$Star", "xIn", "(I)I"⟩, 11) := ⟨⟨by decide +kernel, by decide +kernel⟩, List.mem_of_getElem? (i := 137) (by decide +kernel), List.mem_of_getElem? (i := 155) (by decide +kernel), List.mem_of_getElem? (i := 156) (by decide +kernel)⟩
theorem lw_p7 : lw_okq (⟨"Pseudorange$Star", "yIn", "(I)I"⟩, 11) := ⟨⟨by decide +kernel, by decide +kernel⟩, List.mem_of_getElem? (i := 137) (by decide +kernel), List.mem_of_getElem? (i := 162) (by decide +kernel), List.mem_of_getElem? (i := 163) (by decide +kernel)⟩
theorem lw_p8 : lw_okq (⟨"Pseudorange$Star", "tellMessage", "(II)I"⟩, 11) := ⟨⟨by decide +kernel, by decide +kernel⟩, List.mem_of_getElem? (i := 137) (by decide +kernel), List.mem_of_getElem? (i := 166) (by decide +kernel), List.mem_of_getElem? (i := 167) (by decide +kernel)⟩
theorem lw_p9 : lw_okq (⟨"Pseudorange$Star", "toldClock", "(I)I"⟩, 11) := ⟨⟨by decide +kernel, by decide +kernel⟩, List.mem_of_getElem? (i := 137) (by decide +kernel), List.mem_of_getElem? (i := 171) (by decide +kernel), List.mem_of_getElem? (i := 172) (by decide +kernel)⟩
theorem lw_p10 : lw_okq (⟨"Pseudorange$Star", "toldX", "(I)I"⟩, 11) := ⟨⟨by decide +kernel, by decide +kernel⟩, List.mem_of_getElem? (i := 137) (by decide +kernel), List.mem_of_getElem? (i := 178) (by decide +kernel), List.mem_of_getElem? (i := 179) (by decide +kernel)⟩
theorem lw_p11 : lw_okq (⟨"Pseudorange$Star", "toldY", "(I)I"⟩, 11) := ⟨⟨by decide +kernel, by decide +kernel⟩, List.mem_of_getElem? (i := 137) (by decide +kernel), List.mem_of_getElem? (i := 182) (by decide +kernel), List.mem_of_getElem? (i := 183) (by decide +kernel)⟩
theorem lw_p12 : lw_okq (⟨"Pseudorange$Station", "canHear", "(LPseudorange$Star;I)Z"⟩, 2) := ⟨⟨by decide +kernel, by decide +kernel⟩, List.mem_of_getElem? (i := 198) (by decide +kernel), List.mem_of_getElem? (i := 196) (by decide +kernel), List.mem_of_getElem? (i := 197) (by decide +kernel)⟩
theorem lw_p13 : lw_okq (⟨"Pseudorange", "digestReceiver", "(JLPseudorange$Receiver;)J"⟩, 8) := ⟨⟨by decide +kernel, by decide +kernel⟩, List.mem_of_getElem? (i := 18) (by decide +kernel), List.mem_of_getElem? (i := 204) (by decide +kernel), List.mem_of_getElem? (i := 205) (by decide +kernel)⟩
theorem lw_p14 : lw_okq (⟨"Pseudorange", "tellReceiver", "(LPseudorange$Receiver;I)I"⟩, 8) := ⟨⟨by decide +kernel, by decide +kernel⟩, List.mem_of_getElem? (i := 18) (by decide +kernel), List.mem_of_getElem? (i := 208) (by decide +kernel), List.mem_of_getElem? (i := 209) (by decide +kernel)⟩
theorem lw_p15 : lw_okq (⟨"Pseudorange", "setSeen", "(LPseudorange$Receiver;I)I"⟩, 8) := ⟨⟨by decide +kernel, by decide +kernel⟩, List.mem_of_getElem? (i := 18) (by decide +kernel), List.mem_of_getElem? (i := 212) (by decide +kernel), List.mem_of_getElem? (i := 213) (by decide +kernel)⟩
def lw_privs_1 : List (MethodName × Nat) := [(⟨"Pseudorange", "countOf", "(I)I"⟩, 8), (⟨"Pseudorange", "sumOfStars", "(I)I"⟩, 8), (⟨"Pseudorange$Star", "messageHolds", "(I)Z"⟩, 11), (⟨"Pseudorange", "sumOfReceivers", "(I)I"⟩, 8), (⟨"Pseudorange", "digestStar", "(JLPseudorange$Star;)J"⟩, 8), (⟨"Pseudorange$Star", "tell", "(I)I"⟩, 11), (⟨"Pseudorange$Star", "xIn", "(I)I"⟩, 11), (⟨"Pseudorange$Star", "yIn", "(I)I"⟩, 11), (⟨"Pseudorange$Star", "tellMessage", "(II)I"⟩, 11), (⟨"Pseudorange$Star", "toldClock", "(I)I"⟩, 11), (⟨"Pseudorange$Star", "toldX", "(I)I"⟩, 11), (⟨"Pseudorange$Star", "toldY", "(I)I"⟩, 11), (⟨"Pseudorange$Station", "canHear", "(LPseudorange$Star;I)Z"⟩, 2), (⟨"Pseudorange", "digestReceiver", "(JLPseudorange$Receiver;)J"⟩, 8), (⟨"Pseudorange", "tellReceiver", "(LPseudorange$Receiver;I)I"⟩, 8), (⟨"Pseudorange", "setSeen", "(LPseudorange$Receiver;I)I"⟩, 8)]
theorem lw_r1 : ∀ q ∈ lw_privs_1, lw_okq q := List.forall_mem_cons.mpr ⟨lw_p0, List.forall_mem_cons.mpr ⟨lw_p1, List.forall_mem_cons.mpr ⟨lw_p2, List.forall_mem_cons.mpr ⟨lw_p3, List.forall_mem_cons.mpr ⟨lw_p4, List.forall_mem_cons.mpr ⟨lw_p5, List.forall_mem_cons.mpr ⟨lw_p6, List.forall_mem_cons.mpr ⟨lw_p7, List.forall_mem_cons.mpr ⟨lw_p8, List.forall_mem_cons.mpr ⟨lw_p9, List.forall_mem_cons.mpr ⟨lw_p10, List.forall_mem_cons.mpr ⟨lw_p11, List.forall_mem_cons.mpr ⟨lw_p12, List.forall_mem_cons.mpr ⟨lw_p13, List.forall_mem_cons.mpr ⟨lw_p14, List.forall_mem_cons.mpr ⟨lw_p15, fun _ h => absurd h List.not_mem_nil⟩⟩⟩⟩⟩⟩⟩⟩⟩⟩⟩⟩⟩⟩⟩⟩
theorem lw_p16 : lw_okq (⟨"Pseudorange$Receiver", "canSee", "(LPseudorange$Star;I)Z"⟩, 13) := ⟨⟨by decide +kernel, by decide +kernel⟩, List.mem_of_getElem? (i := 218) (by decide +kernel), List.mem_of_getElem? (i := 216) (by decide +kernel), List.mem_of_getElem? (i := 217) (by decide +kernel)⟩
theorem lw_p17 : lw_okq (⟨"Pseudorange$Track", "errorAt", "(II)I"⟩, 13) := ⟨⟨by decide +kernel, by decide +kernel⟩, List.mem_of_getElem? (i := 231) (by decide +kernel), List.mem_of_getElem? (i := 229) (by decide +kernel), List.mem_of_getElem? (i := 230) (by decide +kernel)⟩
theorem lw_p18 : lw_okq (⟨"Pseudorange$Track", "tell", "(I)I"⟩, 13) := ⟨⟨by decide +kernel, by decide +kernel⟩, List.mem_of_getElem? (i := 231) (by decide +kernel), List.mem_of_getElem? (i := 235) (by decide +kernel), List.mem_of_getElem? (i := 236) (by decide +kernel)⟩
theorem lw_p19 : lw_okq (⟨"Pseudorange$Sight", "tell", "(I)I"⟩, 11) := ⟨⟨by decide +kernel, by decide +kernel⟩, List.mem_of_getElem? (i := 241) (by decide +kernel), List.mem_of_getElem? (i := 239) (by decide +kernel), List.mem_of_getElem? (i := 240) (by decide +kernel)⟩
theorem lw_p20 : lw_okq (⟨"Pseudorange$Sight", "tellSeen", "(I)I"⟩, 11) := ⟨⟨by decide +kernel, by decide +kernel⟩, List.mem_of_getElem? (i := 241) (by decide +kernel), List.mem_of_getElem? (i := 244) (by decide +kernel), List.mem_of_getElem? (i := 245) (by decide +kernel)⟩
theorem lw_p21 : lw_okq (⟨"Pseudorange", "supposedAlarm", "(LPseudorange$Receiver;)I"⟩, 8) := ⟨⟨by decide +kernel, by decide +kernel⟩, List.mem_of_getElem? (i := 18) (by decide +kernel), List.mem_of_getElem? (i := 248) (by decide +kernel), List.mem_of_getElem? (i := 249) (by decide +kernel)⟩
theorem lw_p22 : lw_okq (⟨"Pseudorange", "gatherSupposed", "(LPseudorange$Receiver;I)V"⟩, 8) := ⟨⟨by decide +kernel, by decide +kernel⟩, List.mem_of_getElem? (i := 18) (by decide +kernel), List.mem_of_getElem? (i := 252) (by decide +kernel), List.mem_of_getElem? (i := 253) (by decide +kernel)⟩
theorem lw_p23 : lw_okq (⟨"Pseudorange$Solver", "clear", "()V"⟩, 15) := ⟨⟨by decide +kernel, by decide +kernel⟩, List.mem_of_getElem? (i := 32) (by decide +kernel), List.mem_of_getElem? (i := 256) (by decide +kernel), List.mem_of_getElem? (i := 257) (by decide +kernel)⟩
theorem lw_p24 : lw_okq (⟨"Pseudorange", "codeOf", "(LPseudorange$Receiver;I)I"⟩, 8) := ⟨⟨by decide +kernel, by decide +kernel⟩, List.mem_of_getElem? (i := 18) (by decide +kernel), List.mem_of_getElem? (i := 260) (by decide +kernel), List.mem_of_getElem? (i := 261) (by decide +kernel)⟩
theorem lw_p25 : lw_okq (⟨"Pseudorange$Receiver", "trueCount", "(LPseudorange$Star;)I"⟩, 13) := ⟨⟨by decide +kernel, by decide +kernel⟩, List.mem_of_getElem? (i := 218) (by decide +kernel), List.mem_of_getElem? (i := 267) (by decide +kernel), List.mem_of_getElem? (i := 268) (by decide +kernel)⟩
theorem lw_p26 : lw_okq (⟨"Pseudorange$Receiver", "airDelay", "(LPseudorange$Star;)I"⟩, 13) := ⟨⟨by decide +kernel, by decide +kernel⟩, List.mem_of_getElem? (i := 218) (by decide +kernel), List.mem_of_getElem? (i := 272) (by decide +kernel), List.mem_of_getElem? (i := 273) (by decide +kernel)⟩
theorem lw_p27 : lw_okq (⟨"Pseudorange", "correctionOf", "(LPseudorange$Receiver;I)I"⟩, 8) := ⟨⟨by decide +kernel, by decide +kernel⟩, List.mem_of_getElem? (i := 18) (by decide +kernel), List.mem_of_getElem? (i := 277) (by decide +kernel), List.mem_of_getElem? (i := 278) (by decide +kernel)⟩
theorem lw_p28 : lw_okq (⟨"Pseudorange", "isNoReceiver", "(I)Z"⟩, 8) := ⟨⟨by decide +kernel, by decide +kernel⟩, List.mem_of_getElem? (i := 18) (by decide +kernel), List.mem_of_getElem? (i := 281) (by decide +kernel), List.mem_of_getElem? (i := 282) (by decide +kernel)⟩
theorem lw_p29 : lw_okq (⟨"Pseudorange$Track", "hasObservedSince", "(I)Z"⟩, 13) := ⟨⟨by decide +kernel, by decide +kernel⟩, List.mem_of_getElem? (i := 231) (by decide +kernel), List.mem_of_getElem? (i := 286) (by decide +kernel), List.mem_of_getElem? (i := 287) (by decide +kernel)⟩
theorem lw_p30 : lw_okq (⟨"Pseudorange", "use", "(LPseudorange$Star;IZ)V"⟩, 8) := ⟨⟨by decide +kernel, by decide +kernel⟩, List.mem_of_getElem? (i := 18) (by decide +kernel), List.mem_of_getElem? (i := 290) (by decide +kernel), List.mem_of_getElem? (i := 291) (by decide +kernel)⟩
theorem lw_p31 : lw_okq (⟨"Pseudorange$Solver", "use", "(IIII)V"⟩, 15) := ⟨⟨by decide +kernel, by decide +kernel⟩, List.mem_of_getElem? (i := 32) (by decide +kernel), List.mem_of_getElem? (i := 297) (by decide +kernel), List.mem_of_getElem? (i := 298) (by decide +kernel)⟩
def lw_privs_2 : List (MethodName × Nat) := [(⟨"Pseudorange$Receiver", "canSee", "(LPseudorange$Star;I)Z"⟩, 13), (⟨"Pseudorange$Track", "errorAt", "(II)I"⟩, 13), (⟨"Pseudorange$Track", "tell", "(I)I"⟩, 13), (⟨"Pseudorange$Sight", "tell", "(I)I"⟩, 11), (⟨"Pseudorange$Sight", "tellSeen", "(I)I"⟩, 11), (⟨"Pseudorange", "supposedAlarm", "(LPseudorange$Receiver;)I"⟩, 8), (⟨"Pseudorange", "gatherSupposed", "(LPseudorange$Receiver;I)V"⟩, 8), (⟨"Pseudorange$Solver", "clear", "()V"⟩, 15), (⟨"Pseudorange", "codeOf", "(LPseudorange$Receiver;I)I"⟩, 8), (⟨"Pseudorange$Receiver", "trueCount", "(LPseudorange$Star;)I"⟩, 13), (⟨"Pseudorange$Receiver", "airDelay", "(LPseudorange$Star;)I"⟩, 13), (⟨"Pseudorange", "correctionOf", "(LPseudorange$Receiver;I)I"⟩, 8), (⟨"Pseudorange", "isNoReceiver", "(I)Z"⟩, 8), (⟨"Pseudorange$Track", "hasObservedSince", "(I)Z"⟩, 13), (⟨"Pseudorange", "use", "(LPseudorange$Star;IZ)V"⟩, 8), (⟨"Pseudorange$Solver", "use", "(IIII)V"⟩, 15)]
theorem lw_r2 : ∀ q ∈ lw_privs_2, lw_okq q := List.forall_mem_cons.mpr ⟨lw_p16, List.forall_mem_cons.mpr ⟨lw_p17, List.forall_mem_cons.mpr ⟨lw_p18, List.forall_mem_cons.mpr ⟨lw_p19, List.forall_mem_cons.mpr ⟨lw_p20, List.forall_mem_cons.mpr ⟨lw_p21, List.forall_mem_cons.mpr ⟨lw_p22, List.forall_mem_cons.mpr ⟨lw_p23, List.forall_mem_cons.mpr ⟨lw_p24, List.forall_mem_cons.mpr ⟨lw_p25, List.forall_mem_cons.mpr ⟨lw_p26, List.forall_mem_cons.mpr ⟨lw_p27, List.forall_mem_cons.mpr ⟨lw_p28, List.forall_mem_cons.mpr ⟨lw_p29, List.forall_mem_cons.mpr ⟨lw_p30, List.forall_mem_cons.mpr ⟨lw_p31, fun _ h => absurd h List.not_mem_nil⟩⟩⟩⟩⟩⟩⟩⟩⟩⟩⟩⟩⟩⟩⟩⟩
theorem lw_p32 : lw_okq (⟨"Pseudorange$Solver", "solve", "()V"⟩, 15) := ⟨⟨by decide +kernel, by decide +kernel⟩, List.mem_of_getElem? (i := 32) (by decide +kernel), List.mem_of_getElem? (i := 301) (by decide +kernel), List.mem_of_getElem? (i := 302) (by decide +kernel)⟩
theorem lw_p33 : lw_okq (⟨"Pseudorange$Solver", "hasSolution", "()Z"⟩, 15) := ⟨⟨by decide +kernel, by decide +kernel⟩, List.mem_of_getElem? (i := 32) (by decide +kernel), List.mem_of_getElem? (i := 305) (by decide +kernel), List.mem_of_getElem? (i := 306) (by decide +kernel)⟩
theorem lw_p34 : lw_okq (⟨"Pseudorange$Solver", "search", "(I)V"⟩, 15) := ⟨⟨by decide +kernel, by decide +kernel⟩, List.mem_of_getElem? (i := 32) (by decide +kernel), List.mem_of_getElem? (i := 309) (by decide +kernel), List.mem_of_getElem? (i := 310) (by decide +kernel)⟩
theorem lw_p35 : lw_okq (⟨"Pseudorange$Solver", "tryPlace", "(III)V"⟩, 15) := ⟨⟨by decide +kernel, by decide +kernel⟩, List.mem_of_getElem? (i := 32) (by decide +kernel), List.mem_of_getElem? (i := 314) (by decide +kernel), List.mem_of_getElem? (i := 315) (by decide +kernel)⟩
theorem lw_p36 : lw_okq (⟨"Pseudorange$Solver", "costBy", "(II)J"⟩, 15) := ⟨⟨by decide +kernel, by decide +kernel⟩, List.mem_of_getElem? (i := 32) (by decide +kernel), List.mem_of_getElem? (i := 322) (by decide +kernel), List.mem_of_getElem? (i := 323) (by decide +kernel)⟩
theorem lw_p37 : lw_okq (⟨"Pseudorange", "alarmOf", "(LPseudorange$Receiver;Z)I"⟩, 8) := ⟨⟨by decide +kernel, by decide +kernel⟩, List.mem_of_getElem? (i := 18) (by decide +kernel), List.mem_of_getElem? (i := 327) (by decide +kernel), List.mem_of_getElem? (i := 328) (by decide +kernel)⟩
theorem lw_p38 : lw_okq (⟨"Pseudorange$Track", "leapsTo", "(III)Z"⟩, 13) := ⟨⟨by decide +kernel, by decide +kernel⟩, List.mem_of_getElem? (i := 231) (by decide +kernel), List.mem_of_getElem? (i := 331) (by decide +kernel), List.mem_of_getElem? (i := 332) (by decide +kernel)⟩
theorem lw_p39 : lw_okq (⟨"Pseudorange$Track", "hasObservedIn", "(I)Z"⟩, 13) := ⟨⟨by decide +kernel, by decide +kernel⟩, List.mem_of_getElem? (i := 231) (by decide +kernel), List.mem_of_getElem? (i := 335) (by decide +kernel), List.mem_of_getElem? (i := 336) (by decide +kernel)⟩
theorem lw_p40 : lw_okq (⟨"java/lang/Throwable", "fillInStackTrace", "(I)Ljava/lang/Throwable;"⟩, 6) := ⟨⟨by decide +kernel, by decide +kernel⟩, List.mem_of_getElem? (i := 386) (by decide +kernel), List.mem_of_getElem? (i := 384) (by decide +kernel), List.mem_of_getElem? (i := 385) (by decide +kernel)⟩
theorem lw_p41 : lw_okq (⟨"Pseudorange", "isNoStar", "(I)Z"⟩, 8) := ⟨⟨by decide +kernel, by decide +kernel⟩, List.mem_of_getElem? (i := 18) (by decide +kernel), List.mem_of_getElem? (i := 487) (by decide +kernel), List.mem_of_getElem? (i := 488) (by decide +kernel)⟩
theorem lw_p42 : lw_okq (⟨"Pseudorange$Star", "moveClock", "(I)V"⟩, 11) := ⟨⟨by decide +kernel, by decide +kernel⟩, List.mem_of_getElem? (i := 137) (by decide +kernel), List.mem_of_getElem? (i := 515) (by decide +kernel), List.mem_of_getElem? (i := 516) (by decide +kernel)⟩
theorem lw_p43 : lw_okq (⟨"Pseudorange", "isNoStation", "(I)Z"⟩, 8) := ⟨⟨by decide +kernel, by decide +kernel⟩, List.mem_of_getElem? (i := 18) (by decide +kernel), List.mem_of_getElem? (i := 560) (by decide +kernel), List.mem_of_getElem? (i := 561) (by decide +kernel)⟩
theorem lw_p44 : lw_okq (⟨"Pseudorange$Star", "takeMessage", "(II)V"⟩, 11) := ⟨⟨by decide +kernel, by decide +kernel⟩, List.mem_of_getElem? (i := 137) (by decide +kernel), List.mem_of_getElem? (i := 566) (by decide +kernel), List.mem_of_getElem? (i := 567) (by decide +kernel)⟩
theorem lw_p45 : lw_okq (⟨"Pseudorange", "passOne", "()V"⟩, 8) := ⟨⟨by decide +kernel, by decide +kernel⟩, List.mem_of_getElem? (i := 18) (by decide +kernel), List.mem_of_getElem? (i := 789) (by decide +kernel), List.mem_of_getElem? (i := 790) (by decide +kernel)⟩
theorem lw_p46 : lw_okq (⟨"Pseudorange$Star", "passOne", "()V"⟩, 11) := ⟨⟨by decide +kernel, by decide +kernel⟩, List.mem_of_getElem? (i := 137) (by decide +kernel), List.mem_of_getElem? (i := 793) (by decide +kernel), List.mem_of_getElem? (i := 794) (by decide +kernel)⟩
theorem lw_p47 : lw_okq (⟨"Pseudorange", "measure", "(LPseudorange$Receiver;)V"⟩, 8) := ⟨⟨by decide +kernel, by decide +kernel⟩, List.mem_of_getElem? (i := 18) (by decide +kernel), List.mem_of_getElem? (i := 808) (by decide +kernel), List.mem_of_getElem? (i := 809) (by decide +kernel)⟩
def lw_privs_3 : List (MethodName × Nat) := [(⟨"Pseudorange$Solver", "solve", "()V"⟩, 15), (⟨"Pseudorange$Solver", "hasSolution", "()Z"⟩, 15), (⟨"Pseudorange$Solver", "search", "(I)V"⟩, 15), (⟨"Pseudorange$Solver", "tryPlace", "(III)V"⟩, 15), (⟨"Pseudorange$Solver", "costBy", "(II)J"⟩, 15), (⟨"Pseudorange", "alarmOf", "(LPseudorange$Receiver;Z)I"⟩, 8), (⟨"Pseudorange$Track", "leapsTo", "(III)Z"⟩, 13), (⟨"Pseudorange$Track", "hasObservedIn", "(I)Z"⟩, 13), (⟨"java/lang/Throwable", "fillInStackTrace", "(I)Ljava/lang/Throwable;"⟩, 6), (⟨"Pseudorange", "isNoStar", "(I)Z"⟩, 8), (⟨"Pseudorange$Star", "moveClock", "(I)V"⟩, 11), (⟨"Pseudorange", "isNoStation", "(I)Z"⟩, 8), (⟨"Pseudorange$Star", "takeMessage", "(II)V"⟩, 11), (⟨"Pseudorange", "passOne", "()V"⟩, 8), (⟨"Pseudorange$Star", "passOne", "()V"⟩, 11), (⟨"Pseudorange", "measure", "(LPseudorange$Receiver;)V"⟩, 8)]
theorem lw_r3 : ∀ q ∈ lw_privs_3, lw_okq q := List.forall_mem_cons.mpr ⟨lw_p32, List.forall_mem_cons.mpr ⟨lw_p33, List.forall_mem_cons.mpr ⟨lw_p34, List.forall_mem_cons.mpr ⟨lw_p35, List.forall_mem_cons.mpr ⟨lw_p36, List.forall_mem_cons.mpr ⟨lw_p37, List.forall_mem_cons.mpr ⟨lw_p38, List.forall_mem_cons.mpr ⟨lw_p39, List.forall_mem_cons.mpr ⟨lw_p40, List.forall_mem_cons.mpr ⟨lw_p41, List.forall_mem_cons.mpr ⟨lw_p42, List.forall_mem_cons.mpr ⟨lw_p43, List.forall_mem_cons.mpr ⟨lw_p44, List.forall_mem_cons.mpr ⟨lw_p45, List.forall_mem_cons.mpr ⟨lw_p46, List.forall_mem_cons.mpr ⟨lw_p47, fun _ h => absurd h List.not_mem_nil⟩⟩⟩⟩⟩⟩⟩⟩⟩⟩⟩⟩⟩⟩⟩⟩
theorem lw_p48 : lw_okq (⟨"Pseudorange$Sight", "take", "(IIZ)V"⟩, 11) := ⟨⟨by decide +kernel, by decide +kernel⟩, List.mem_of_getElem? (i := 241) (by decide +kernel), List.mem_of_getElem? (i := 812) (by decide +kernel), List.mem_of_getElem? (i := 813) (by decide +kernel)⟩
theorem lw_p49 : lw_okq (⟨"Pseudorange$Sight", "forget", "()V"⟩, 11) := ⟨⟨by decide +kernel, by decide +kernel⟩, List.mem_of_getElem? (i := 241) (by decide +kernel), List.mem_of_getElem? (i := 816) (by decide +kernel), List.mem_of_getElem? (i := 817) (by decide +kernel)⟩
theorem lw_p50 : lw_okq (⟨"Pseudorange$Sight", "lose", "()V"⟩, 11) := ⟨⟨by decide +kernel, by decide +kernel⟩, List.mem_of_getElem? (i := 241) (by decide +kernel), List.mem_of_getElem? (i := 822) (by decide +kernel), List.mem_of_getElem? (i := 823) (by decide +kernel)⟩
theorem lw_p51 : lw_okq (⟨"Pseudorange", "gatherMeasured", "(LPseudorange$Receiver;)V"⟩, 8) := ⟨⟨by decide +kernel, by decide +kernel⟩, List.mem_of_getElem? (i := 18) (by decide +kernel), List.mem_of_getElem? (i := 826) (by decide +kernel), List.mem_of_getElem? (i := 827) (by decide +kernel)⟩
theorem lw_p52 : lw_okq (⟨"Pseudorange$Sight", "measured", "()I"⟩, 11) := ⟨⟨by decide +kernel, by decide +kernel⟩, List.mem_of_getElem? (i := 241) (by decide +kernel), List.mem_of_getElem? (i := 830) (by decide +kernel), List.mem_of_getElem? (i := 831) (by decide +kernel)⟩
theorem lw_p53 : lw_okq (⟨"Pseudorange", "offerCorrections", "(LPseudorange$Receiver;)V"⟩, 8) := ⟨⟨by decide +kernel, by decide +kernel⟩, List.mem_of_getElem? (i := 18) (by decide +kernel), List.mem_of_getElem? (i := 834) (by decide +kernel), List.mem_of_getElem? (i := 835) (by decide +kernel)⟩
theorem lw_p54 : lw_okq (⟨"Pseudorange", "tooFar", "(LPseudorange$Receiver;LPseudorange$Star;I)I"⟩, 8) := ⟨⟨by decide +kernel, by decide +kernel⟩, List.mem_of_getElem? (i := 18) (by decide +kernel), List.mem_of_getElem? (i := 838) (by decide +kernel), List.mem_of_getElem? (i := 839) (by decide +kernel)⟩
theorem lw_p55 : lw_okq (⟨"Pseudorange$Track", "keepAll", "(ILPseudorange$Solver;III)V"⟩, 13) := ⟨⟨by decide +kernel, by decide +kernel⟩, List.mem_of_getElem? (i := 231) (by decide +kernel), List.mem_of_getElem? (i := 843) (by decide +kernel), List.mem_of_getElem? (i := 844) (by decide +kernel)⟩
theorem lw_p56 : lw_okq (⟨"Pseudorange$Track", "keepSolution", "(LPseudorange$Solver;II)V"⟩, 13) := ⟨⟨by decide +kernel, by decide +kernel⟩, List.mem_of_getElem? (i := 231) (by decide +kernel), List.mem_of_getElem? (i := 848) (by decide +kernel), List.mem_of_getElem? (i := 849) (by decide +kernel)⟩
theorem lw_p57 : lw_okq (⟨"Pseudorange$Track", "meanOfErrors", "()D"⟩, 13) := ⟨⟨by decide +kernel, by decide +kernel⟩, List.mem_of_getElem? (i := 231) (by decide +kernel), List.mem_of_getElem? (i := 897) (by decide +kernel), List.mem_of_getElem? (i := 898) (by decide +kernel)⟩
theorem lw_p58 : lw_okq (⟨"PseudorangeModel", "refuse", "(I)I"⟩, 20) := ⟨⟨by decide +kernel, by decide +kernel⟩, List.mem_of_getElem? (i := 931) (by decide +kernel), List.mem_of_getElem? (i := 1013) (by decide +kernel), List.mem_of_getElem? (i := 1014) (by decide +kernel)⟩
theorem lw_p59 : lw_okq (⟨"PseudorangeModel", "isStar", "(I)Z"⟩, 20) := ⟨⟨by decide +kernel, by decide +kernel⟩, List.mem_of_getElem? (i := 931) (by decide +kernel), List.mem_of_getElem? (i := 1021) (by decide +kernel), List.mem_of_getElem? (i := 1022) (by decide +kernel)⟩
theorem lw_p60 : lw_okq (⟨"PseudorangeModel", "isStation", "(I)Z"⟩, 20) := ⟨⟨by decide +kernel, by decide +kernel⟩, List.mem_of_getElem? (i := 931) (by decide +kernel), List.mem_of_getElem? (i := 1047) (by decide +kernel), List.mem_of_getElem? (i := 1048) (by decide +kernel)⟩
theorem lw_p61 : lw_okq (⟨"PseudorangeModel", "isHeard", "(III)Z"⟩, 20) := ⟨⟨by decide +kernel, by decide +kernel⟩, List.mem_of_getElem? (i := 931) (by decide +kernel), List.mem_of_getElem? (i := 1051) (by decide +kernel), List.mem_of_getElem? (i := 1052) (by decide +kernel)⟩
theorem lw_p62 : lw_okq (⟨"PseudorangeModel", "phaseIn", "(II)I"⟩, 20) := ⟨⟨by decide +kernel, by decide +kernel⟩, List.mem_of_getElem? (i := 931) (by decide +kernel), List.mem_of_getElem? (i := 1055) (by decide +kernel), List.mem_of_getElem? (i := 1056) (by decide +kernel)⟩
theorem lw_p63 : lw_okq (⟨"PseudorangeModel", "yAt", "(II)I"⟩, 20) := ⟨⟨by decide +kernel, by decide +kernel⟩, List.mem_of_getElem? (i := 931) (by decide +kernel), List.mem_of_getElem? (i := 1059) (by decide +kernel), List.mem_of_getElem? (i := 1060) (by decide +kernel)⟩
def lw_privs_4 : List (MethodName × Nat) := [(⟨"Pseudorange$Sight", "take", "(IIZ)V"⟩, 11), (⟨"Pseudorange$Sight", "forget", "()V"⟩, 11), (⟨"Pseudorange$Sight", "lose", "()V"⟩, 11), (⟨"Pseudorange", "gatherMeasured", "(LPseudorange$Receiver;)V"⟩, 8), (⟨"Pseudorange$Sight", "measured", "()I"⟩, 11), (⟨"Pseudorange", "offerCorrections", "(LPseudorange$Receiver;)V"⟩, 8), (⟨"Pseudorange", "tooFar", "(LPseudorange$Receiver;LPseudorange$Star;I)I"⟩, 8), (⟨"Pseudorange$Track", "keepAll", "(ILPseudorange$Solver;III)V"⟩, 13), (⟨"Pseudorange$Track", "keepSolution", "(LPseudorange$Solver;II)V"⟩, 13), (⟨"Pseudorange$Track", "meanOfErrors", "()D"⟩, 13), (⟨"PseudorangeModel", "refuse", "(I)I"⟩, 20), (⟨"PseudorangeModel", "isStar", "(I)Z"⟩, 20), (⟨"PseudorangeModel", "isStation", "(I)Z"⟩, 20), (⟨"PseudorangeModel", "isHeard", "(III)Z"⟩, 20), (⟨"PseudorangeModel", "phaseIn", "(II)I"⟩, 20), (⟨"PseudorangeModel", "yAt", "(II)I"⟩, 20)]
theorem lw_r4 : ∀ q ∈ lw_privs_4, lw_okq q := List.forall_mem_cons.mpr ⟨lw_p48, List.forall_mem_cons.mpr ⟨lw_p49, List.forall_mem_cons.mpr ⟨lw_p50, List.forall_mem_cons.mpr ⟨lw_p51, List.forall_mem_cons.mpr ⟨lw_p52, List.forall_mem_cons.mpr ⟨lw_p53, List.forall_mem_cons.mpr ⟨lw_p54, List.forall_mem_cons.mpr ⟨lw_p55, List.forall_mem_cons.mpr ⟨lw_p56, List.forall_mem_cons.mpr ⟨lw_p57, List.forall_mem_cons.mpr ⟨lw_p58, List.forall_mem_cons.mpr ⟨lw_p59, List.forall_mem_cons.mpr ⟨lw_p60, List.forall_mem_cons.mpr ⟨lw_p61, List.forall_mem_cons.mpr ⟨lw_p62, List.forall_mem_cons.mpr ⟨lw_p63, fun _ h => absurd h List.not_mem_nil⟩⟩⟩⟩⟩⟩⟩⟩⟩⟩⟩⟩⟩⟩⟩⟩
theorem lw_p64 : lw_okq (⟨"PseudorangeModel", "xAt", "(II)I"⟩, 20) := ⟨⟨by decide +kernel, by decide +kernel⟩, List.mem_of_getElem? (i := 931) (by decide +kernel), List.mem_of_getElem? (i := 1066) (by decide +kernel), List.mem_of_getElem? (i := 1067) (by decide +kernel)⟩
theorem lw_p65 : lw_okq (⟨"PseudorangeModel", "since", "(I)I"⟩, 20) := ⟨⟨by decide +kernel, by decide +kernel⟩, List.mem_of_getElem? (i := 931) (by decide +kernel), List.mem_of_getElem? (i := 1071) (by decide +kernel), List.mem_of_getElem? (i := 1072) (by decide +kernel)⟩
theorem lw_p66 : lw_okq (⟨"PseudorangeModel", "isReceiver", "(I)Z"⟩, 20) := ⟨⟨by decide +kernel, by decide +kernel⟩, List.mem_of_getElem? (i := 931) (by decide +kernel), List.mem_of_getElem? (i := 1086) (by decide +kernel), List.mem_of_getElem? (i := 1087) (by decide +kernel)⟩
theorem lw_p67 : lw_okq (⟨"PseudorangeModel", "setSeen", "(II)I"⟩, 20) := ⟨⟨by decide +kernel, by decide +kernel⟩, List.mem_of_getElem? (i := 931) (by decide +kernel), List.mem_of_getElem? (i := 1097) (by decide +kernel), List.mem_of_getElem? (i := 1098) (by decide +kernel)⟩
theorem lw_p68 : lw_okq (⟨"PseudorangeModel", "sees", "(III)Z"⟩, 20) := ⟨⟨by decide +kernel, by decide +kernel⟩, List.mem_of_getElem? (i := 931) (by decide +kernel), List.mem_of_getElem? (i := 1101) (by decide +kernel), List.mem_of_getElem? (i := 1102) (by decide +kernel)⟩
theorem lw_p69 : lw_okq (⟨"PseudorangeModel", "change", "(III)I"⟩, 20) := ⟨⟨by decide +kernel, by decide +kernel⟩, List.mem_of_getElem? (i := 931) (by decide +kernel), List.mem_of_getElem? (i := 1110) (by decide +kernel), List.mem_of_getElem? (i := 1111) (by decide +kernel)⟩
theorem lw_p70 : lw_okq (⟨"PseudorangeModel", "see", "(IIZ)V"⟩, 20) := ⟨⟨by decide +kernel, by decide +kernel⟩, List.mem_of_getElem? (i := 931) (by decide +kernel), List.mem_of_getElem? (i := 1134) (by decide +kernel), List.mem_of_getElem? (i := 1135) (by decide +kernel)⟩
theorem lw_p71 : lw_okq (⟨"PseudorangeModel", "codeOf", "(II)I"⟩, 20) := ⟨⟨by decide +kernel, by decide +kernel⟩, List.mem_of_getElem? (i := 931) (by decide +kernel), List.mem_of_getElem? (i := 1138) (by decide +kernel), List.mem_of_getElem? (i := 1139) (by decide +kernel)⟩
theorem lw_p72 : lw_okq (⟨"PseudorangeModel", "trueOf", "(II)I"⟩, 20) := ⟨⟨by decide +kernel, by decide +kernel⟩, List.mem_of_getElem? (i := 931) (by decide +kernel), List.mem_of_getElem? (i := 1142) (by decide +kernel), List.mem_of_getElem? (i := 1143) (by decide +kernel)⟩
theorem lw_p73 : lw_okq (⟨"PseudorangeModel", "lay", "(IZI)I"⟩, 20) := ⟨⟨by decide +kernel, by decide +kernel⟩, List.mem_of_getElem? (i := 931) (by decide +kernel), List.mem_of_getElem? (i := 1147) (by decide +kernel), List.mem_of_getElem? (i := 1148) (by decide +kernel)⟩
theorem lw_p74 : lw_okq (⟨"PseudorangeModel", "holds", "(I)Z"⟩, 20) := ⟨⟨by decide +kernel, by decide +kernel⟩, List.mem_of_getElem? (i := 931) (by decide +kernel), List.mem_of_getElem? (i := 1151) (by decide +kernel), List.mem_of_getElem? (i := 1152) (by decide +kernel)⟩
theorem lw_p75 : lw_okq (⟨"PseudorangeModel", "toldPhase", "(I)I"⟩, 20) := ⟨⟨by decide +kernel, by decide +kernel⟩, List.mem_of_getElem? (i := 931) (by decide +kernel), List.mem_of_getElem? (i := 1155) (by decide +kernel), List.mem_of_getElem? (i := 1156) (by decide +kernel)⟩
theorem lw_p76 : lw_okq (⟨"PseudorangeModel", "toldOffset", "(I)I"⟩, 20) := ⟨⟨by decide +kernel, by decide +kernel⟩, List.mem_of_getElem? (i := 931) (by decide +kernel), List.mem_of_getElem? (i := 1159) (by decide +kernel), List.mem_of_getElem? (i := 1160) (by decide +kernel)⟩
theorem lw_p77 : lw_okq (⟨"PseudorangeModel", "correction", "(II)I"⟩, 20) := ⟨⟨by decide +kernel, by decide +kernel⟩, List.mem_of_getElem? (i := 931) (by decide +kernel), List.mem_of_getElem? (i := 1163) (by decide +kernel), List.mem_of_getElem? (i := 1164) (by decide +kernel)⟩
theorem lw_p78 : lw_okq (⟨"PseudorangeModel", "place", "(IIZII)V"⟩, 20) := ⟨⟨by decide +kernel, by decide +kernel⟩, List.mem_of_getElem? (i := 931) (by decide +kernel), List.mem_of_getElem? (i := 1167) (by decide +kernel), List.mem_of_getElem? (i := 1168) (by decide +kernel)⟩
theorem lw_p79 : lw_okq (⟨"PseudorangeModel", "solve", "()V"⟩, 20) := ⟨⟨by decide +kernel, by decide +kernel⟩, List.mem_of_getElem? (i := 931) (by decide +kernel), List.mem_of_getElem? (i := 1171) (by decide +kernel), List.mem_of_getElem? (i := 1172) (by decide +kernel)⟩
def lw_privs_5 : List (MethodName × Nat) := [(⟨"PseudorangeModel", "xAt", "(II)I"⟩, 20), (⟨"PseudorangeModel", "since", "(I)I"⟩, 20), (⟨"PseudorangeModel", "isReceiver", "(I)Z"⟩, 20), (⟨"PseudorangeModel", "setSeen", "(II)I"⟩, 20), (⟨"PseudorangeModel", "sees", "(III)Z"⟩, 20), (⟨"PseudorangeModel", "change", "(III)I"⟩, 20), (⟨"PseudorangeModel", "see", "(IIZ)V"⟩, 20), (⟨"PseudorangeModel", "codeOf", "(II)I"⟩, 20), (⟨"PseudorangeModel", "trueOf", "(II)I"⟩, 20), (⟨"PseudorangeModel", "lay", "(IZI)I"⟩, 20), (⟨"PseudorangeModel", "holds", "(I)Z"⟩, 20), (⟨"PseudorangeModel", "toldPhase", "(I)I"⟩, 20), (⟨"PseudorangeModel", "toldOffset", "(I)I"⟩, 20), (⟨"PseudorangeModel", "correction", "(II)I"⟩, 20), (⟨"PseudorangeModel", "place", "(IIZII)V"⟩, 20), (⟨"PseudorangeModel", "solve", "()V"⟩, 20)]
theorem lw_r5 : ∀ q ∈ lw_privs_5, lw_okq q := List.forall_mem_cons.mpr ⟨lw_p64, List.forall_mem_cons.mpr ⟨lw_p65, List.forall_mem_cons.mpr ⟨lw_p66, List.forall_mem_cons.mpr ⟨lw_p67, List.forall_mem_cons.mpr ⟨lw_p68, List.forall_mem_cons.mpr ⟨lw_p69, List.forall_mem_cons.mpr ⟨lw_p70, List.forall_mem_cons.mpr ⟨lw_p71, List.forall_mem_cons.mpr ⟨lw_p72, List.forall_mem_cons.mpr ⟨lw_p73, List.forall_mem_cons.mpr ⟨lw_p74, List.forall_mem_cons.mpr ⟨lw_p75, List.forall_mem_cons.mpr ⟨lw_p76, List.forall_mem_cons.mpr ⟨lw_p77, List.forall_mem_cons.mpr ⟨lw_p78, List.forall_mem_cons.mpr ⟨lw_p79, fun _ h => absurd h List.not_mem_nil⟩⟩⟩⟩⟩⟩⟩⟩⟩⟩⟩⟩⟩⟩⟩⟩
theorem lw_p80 : lw_okq (⟨"PseudorangeModel", "look", "(II)V"⟩, 20) := ⟨⟨by decide +kernel, by decide +kernel⟩, List.mem_of_getElem? (i := 931) (by decide +kernel), List.mem_of_getElem? (i := 1176) (by decide +kernel), List.mem_of_getElem? (i := 1177) (by decide +kernel)⟩
theorem lw_p81 : lw_okq (⟨"PseudorangeModel", "over", "(III)I"⟩, 20) := ⟨⟨by decide +kernel, by decide +kernel⟩, List.mem_of_getElem? (i := 931) (by decide +kernel), List.mem_of_getElem? (i := 1180) (by decide +kernel), List.mem_of_getElem? (i := 1181) (by decide +kernel)⟩
theorem lw_p82 : lw_okq (⟨"PseudorangeModel", "level", "(I)I"⟩, 20) := ⟨⟨by decide +kernel, by decide +kernel⟩, List.mem_of_getElem? (i := 931) (by decide +kernel), List.mem_of_getElem? (i := 1184) (by decide +kernel), List.mem_of_getElem? (i := 1185) (by decide +kernel)⟩
theorem lw_p83 : lw_okq (⟨"PseudorangeModel", "alarm", "(III)I"⟩, 20) := ⟨⟨by decide +kernel, by decide +kernel⟩, List.mem_of_getElem? (i := 931) (by decide +kernel), List.mem_of_getElem? (i := 1188) (by decide +kernel), List.mem_of_getElem? (i := 1189) (by decide +kernel)⟩
theorem lw_p84 : lw_okq (⟨"PseudorangeModel", "ofStarNow", "(II)I"⟩, 20) := ⟨⟨by decide +kernel, by decide +kernel⟩, List.mem_of_getElem? (i := 931) (by decide +kernel), List.mem_of_getElem? (i := 1197) (by decide +kernel), List.mem_of_getElem? (i := 1198) (by decide +kernel)⟩
theorem lw_p85 : lw_okq (⟨"PseudorangeModel", "messageNow", "(II)I"⟩, 20) := ⟨⟨by decide +kernel, by decide +kernel⟩, List.mem_of_getElem? (i := 931) (by decide +kernel), List.mem_of_getElem? (i := 1205) (by decide +kernel), List.mem_of_getElem? (i := 1206) (by decide +kernel)⟩
theorem lw_p86 : lw_okq (⟨"PseudorangeModel", "seenNow", "(III)I"⟩, 20) := ⟨⟨by decide +kernel, by decide +kernel⟩, List.mem_of_getElem? (i := 931) (by decide +kernel), List.mem_of_getElem? (i := 1213) (by decide +kernel), List.mem_of_getElem? (i := 1214) (by decide +kernel)⟩
theorem lw_p87 : lw_okq (⟨"PseudorangeModel", "ofReceiverNow", "(II)I"⟩, 20) := ⟨⟨by decide +kernel, by decide +kernel⟩, List.mem_of_getElem? (i := 931) (by decide +kernel), List.mem_of_getElem? (i := 1221) (by decide +kernel), List.mem_of_getElem? (i := 1222) (by decide +kernel)⟩
theorem lw_p88 : lw_okq (⟨"PseudorangeModel", "manyNow", "(I)I"⟩, 20) := ⟨⟨by decide +kernel, by decide +kernel⟩, List.mem_of_getElem? (i := 931) (by decide +kernel), List.mem_of_getElem? (i := 1229) (by decide +kernel), List.mem_of_getElem? (i := 1230) (by decide +kernel)⟩
theorem lw_p89 : lw_okq (⟨"PseudorangeModel", "heardNow", "(II)I"⟩, 20) := ⟨⟨by decide +kernel, by decide +kernel⟩, List.mem_of_getElem? (i := 931) (by decide +kernel), List.mem_of_getElem? (i := 1245) (by decide +kernel), List.mem_of_getElem? (i := 1246) (by decide +kernel)⟩
theorem lw_p90 : lw_okq (⟨"PseudorangeModel", "alarmNow", "(I)I"⟩, 20) := ⟨⟨by decide +kernel, by decide +kernel⟩, List.mem_of_getElem? (i := 931) (by decide +kernel), List.mem_of_getElem? (i := 1257) (by decide +kernel), List.mem_of_getElem? (i := 1258) (by decide +kernel)⟩
theorem lw_p91 : lw_okq (⟨"PseudorangeModel", "add", "(I)V"⟩, 20) := ⟨⟨by decide +kernel, by decide +kernel⟩, List.mem_of_getElem? (i := 931) (by decide +kernel), List.mem_of_getElem? (i := 1266) (by decide +kernel), List.mem_of_getElem? (i := 1267) (by decide +kernel)⟩
def lw_privs_6 : List (MethodName × Nat) := [(⟨"PseudorangeModel", "look", "(II)V"⟩, 20), (⟨"PseudorangeModel", "over", "(III)I"⟩, 20), (⟨"PseudorangeModel", "level", "(I)I"⟩, 20), (⟨"PseudorangeModel", "alarm", "(III)I"⟩, 20), (⟨"PseudorangeModel", "ofStarNow", "(II)I"⟩, 20), (⟨"PseudorangeModel", "messageNow", "(II)I"⟩, 20), (⟨"PseudorangeModel", "seenNow", "(III)I"⟩, 20), (⟨"PseudorangeModel", "ofReceiverNow", "(II)I"⟩, 20), (⟨"PseudorangeModel", "manyNow", "(I)I"⟩, 20), (⟨"PseudorangeModel", "heardNow", "(II)I"⟩, 20), (⟨"PseudorangeModel", "alarmNow", "(I)I"⟩, 20), (⟨"PseudorangeModel", "add", "(I)V"⟩, 20)]
theorem lw_r6 : ∀ q ∈ lw_privs_6, lw_okq q := List.forall_mem_cons.mpr ⟨lw_p80, List.forall_mem_cons.mpr ⟨lw_p81, List.forall_mem_cons.mpr ⟨lw_p82, List.forall_mem_cons.mpr ⟨lw_p83, List.forall_mem_cons.mpr ⟨lw_p84, List.forall_mem_cons.mpr ⟨lw_p85, List.forall_mem_cons.mpr ⟨lw_p86, List.forall_mem_cons.mpr ⟨lw_p87, List.forall_mem_cons.mpr ⟨lw_p88, List.forall_mem_cons.mpr ⟨lw_p89, List.forall_mem_cons.mpr ⟨lw_p90, List.forall_mem_cons.mpr ⟨lw_p91, fun _ h => absurd h List.not_mem_nil⟩⟩⟩⟩⟩⟩⟩⟩⟩⟩⟩⟩
def lw_privs : List (MethodName × Nat) := lw_privs_1 ++ (lw_privs_2 ++ (lw_privs_3 ++ (lw_privs_4 ++ (lw_privs_5 ++ (lw_privs_6)))))
def lw_tbl : List Cond := k2_sels lw_privs ++ tables_1
theorem lw_privs_ok : ∀ q ∈ lw_privs, lw_okq q := by
  show ∀ q ∈ lw_privs_1 ++ (lw_privs_2 ++ (lw_privs_3 ++ (lw_privs_4 ++ (lw_privs_5 ++ (lw_privs_6))))), lw_okq q
  exact List.forall_mem_append.mpr ⟨lw_r1, List.forall_mem_append.mpr ⟨lw_r2, List.forall_mem_append.mpr ⟨lw_r3, List.forall_mem_append.mpr ⟨lw_r4, List.forall_mem_append.mpr ⟨lw_r5, lw_r6⟩⟩⟩⟩⟩
/-- the streams that the claim lets the run draw from -/
abbrev lw_cs : List Choice := [Jvm.Choice.named "NaN.bits"]
theorem lw_bits : nanBits ∈ lw_cs := by first | decide | exact List.mem_cons_self | simp [lw_cs, nanBits]
end
section
/-! ===== BEGIN words of one list among another's, by their places ===== -/
theorem goodIn_r {big : List Cond} (ws : List Cond) (ps : List Nat) (hp : ws = ps.filterMap (fun i => big[i]?)) (h : ws.all goodWord = true) : GoodIn big ws := by
  intro w hw
  have h1 := List.all_eq_true.mp h w hw
  rw [hp] at hw
  obtain ⟨i, -, hi⟩ := List.mem_filterMap.mp hw
  have hm : w ∈ big := by first | exact List.mem_of_getElem? hi | exact List.getElem?_mem hi
  exact ⟨hm, good_of_word h1⟩
theorem goodIn_app {big a b : List Cond} (ha : GoodIn big a) (hb : GoodIn big b) : GoodIn big (a ++ b) := fun w h => (List.mem_append.mp h).elim (ha w) (hb w)
theorem goodIn_ca {big a b : List Cond} {c : Cond} (ha : GoodIn big (c :: a)) (hb : GoodIn big b) : GoodIn big (c :: (a ++ b)) := fun w h => (List.mem_cons.mp h).elim (fun e => ha w (List.mem_cons.mpr (Or.inl e))) (fun h => (List.mem_append.mp h).elim (fun h => ha w (List.mem_cons.mpr (Or.inr h))) (hb w))
theorem goodIn_sub {big ws : List Cond} (hm : ∀ w ∈ ws, w ∈ big) (h : ws.all goodWord = true) : GoodIn big ws := fun w hw => ⟨hm w hw, good_of_word (List.all_eq_true.mp h w hw)⟩
/-! ===== END ===== -/


/-! ===== BEGIN exceptions that leave a method, and their catching by the caller (launches without stack traces) ===== -/
section VXA
/-! The laws vx_back, vx_callV, vx_callS, vx_callSW, vx_throw0, vx_throwS follow proofs of the library, with one case more: JvmDerived/Free/Laws.lean (Back.of_free), Shelf42/LK1.lean (callV, callS), Shelf/KitTraced.lean (throwNew0V, throwNewS). -/
/-- where a method has thrown q: the class by its name, the cell, what was written, the world -/
def vx_T (XC : String → State → State → Prop) (st : State) (q : Addr) (t : State) (mc ms : Nat) (free : Addr → Prop) : Prop :=
  ∃ (E : String) (ce : Cell) (L : List Loc), XC E st t ∧ t.heap[q]? = some ce ∧ ce.vm = .none ∧ st.vm.findClass E = some ce.cls ∧ st.WarmedH t.vm ∧ st.sameButNew ({ t with vm := st.vm } : State) L mc ms ∧ ∀ z ∈ L, free z.base
def vx_Q (Qc : Array Value → State → Outcome → State → Prop) (XC : String → State → State → Prop) (mc ms : Nat) (free : Addr → Prop) : Array Value → State → Outcome → State → Prop := fun a st o t =>
  (Qc a st o t ∧ ∃ L, FrameEnd st o t L mc ms ∧ ∀ q ∈ L, free q.base) ∨ ∃ q, o = .threw q ∧ vx_T XC st q t mc ms free
/-- a callee that returns or throws -/
def vx_Met (l : Launch) (y : MethodName) (ws : List Cond) (rm : Room) (Pc : Array Value → State → Prop) (Qc : Array Value → State → Outcome → State → Prop) (XC : String → State → State → Prop) (mc ms : Nat) (free : Addr → Prop) : Prop :=
  MetFree l y (headSpec ws rm) Pc (fun _ _ _ _ _ => True) (vx_Q Qc XC mc ms free)
def vx_Post (XC : String → State → State → Prop) (mc ms : Nat) (free : Addr → Prop) : Pt → Array Value → Addr → Pt → Prop := fun A a q B =>
  ∃ (g : JFrame) (mk : MethodId) (t : State) (L : List Loc) (E : String) (ce : Cell), B.U.heap = t.heap ∧ B.U.vm = t.vm ∧ XC E (A.U.calling g mk a) t ∧ t.heap[q]? = some ce ∧ ce.vm = .none ∧ A.U.vm.findClass E = some ce.cls ∧ B.locs = A.locs ++ L ∧ (∀ z ∈ L, free z.base) ∧ B.cells = A.cells + mc ∧ B.slots = A.slots + ms
def vx_Back (l : Launch) (R : Room) (p : Program) (e : Env) (below : List Frame) (s : State) (sargs : Array Value) (y : MethodName) (len W9 : Nat)
    (Pre : Pt → Array Value → Prop) (Post : Pt → Array Value → Option Value → Pt → Prop) (PostX : Pt → Array Value → Addr → Pt → Prop) : Prop :=
  ∀ (m : MethodId) (meth : Method) (c : Code) (A : Pt) (g : JFrame) (ig : Instr) (mk : MethodId) (a : Array Value),
    Stand p l e R s m sargs below meth c A.U A.locs A.cells A.slots → g.method = m → g.locals.size = c.maxLocals → decode c.code g.pc = .ok (ig, len) →
    2 * g.monitorRoom + (g.stack.map fun v => v.category).sum ≤ W9 → A.U.methodNamed? y = some mk → Pre A a →
    (∃ (v : Option Value) (B : Pt), Stand p l e R s m sargs below meth c B.U B.locs B.cells B.slots ∧ Post A a v B ∧
      Steps p.tables e below (doInvoke e (A.U.setTop g) [] mk a).1 (B.U.setTop { g with pc := g.pc + len, stack := v.toList ++ g.stack })) ∨
    (∃ (q : Addr) (B : Pt), Stand p l e R s m sargs below meth c B.U B.locs B.cells B.slots ∧ PostX A a q B ∧
      Steps p.tables e below (doInvoke e (A.U.setTop g) [] mk a).1 ((B.U.setTop g).pushFrame (.throwing q)))
section Payer
variable {l : Launch} {R : Room} {p : Program} {e : Env} {below : List Frame} {s : State} {sargs : Array Value} {y : MethodName} {len W9 : Nat}
theorem vx_back {ws : List Cond} {rm : Room} {Pc : Array Value → State → Prop} {Qc : Array Value → State → Outcome → State → Prop} {XC : String → State → State → Prop} {mc ms : Nat} {free : Addr → Prop} {bytes : ByteArray} {maxL : Nat} {ret : Option FieldType}
    (hM : vx_Met l y ws rm Pc Qc XC mc ms free) (hblind : FrameBlind Pc) (hrc : rm.cells = mc) (hrs : rm.slots = ms)
    (hframes : rm.frames + 1 ≤ R.frames) (hlocals : W9 + (maxL + 11) + rm.locals ≤ R.locals)
    (hws : ∀ w ∈ ws, ∀ a' U, s.WarmedH U.vm → w.before a' U = true) (hcode : Cond.code y bytes maxL ret ∈ ws) (hinit : ∀ a' U, s.WarmedH U.vm → (Cond.initialized y.cls).before a' U = true) :
    vx_Back l R p e below s sargs y len W9 (PreOf R mc ms Pc) (PostOf Qc mc ms free) (vx_Post XC mc ms free) := by
  intro m meth c A g ig mk a X hg hsize hdg hW hn hp
  have h1 : (headSpec ws rm).pre.before a A.U = true := atoms_intro fun w hw => hws w hw _ _ X.warmed
  have h2 : (Cond.code y bytes maxL ret).before a A.U = true := hws _ hcode _ _ X.warmed
  have h3 : (Cond.initialized y.cls).before a A.U = true := hinit _ _ X.warmed
  have h4 : A.cells + (headSpec ws rm).room.cells ≤ R.cells := by rw [show (headSpec ws rm).room.cells = mc from hrc]; exact hp.1
  have h5 : A.slots + (headSpec ws rm).room.slots ≤ R.slots := by rw [show (headSpec ws rm).room.slots = ms from hrs]; exact hp.2.1
  have hPc : Pc a (A.U.calling g mk a) := hblind _ _ _ _ hp.2.2
  obtain ⟨U, Ls, c0, s0⟩ := A
  dsimp only [Pt.U, Pt.locs, Pt.cells, Pt.slots] at h1 h2 h3 h4 h5 X hn hPc ⊢
  obtain ⟨methY, cY, hmY, hcY, -, hlY, -, -, -, -⟩ := Cond.code_spec hn h2
  obtain ⟨kY, hkY, -⟩ := className_of_methodNamed hn
  have hinitY : kY.init = .initialized := Cond.initialized_spec (findClass_of_methodNamed hn) hkY h3
  have h : At U g.method c below := by rw [hg]; exact X.here
  have hlocals9 : W9 + (maxL + 11) + (headSpec ws rm).room.locals ≤ R.locals := hlocals
  have happ : (headSpec ws rm).appliesLoose y e.platform (U.calling g mk a) = true :=
    Spec.appliesLoose_calling (g := g) h hdg hn hkY hinitY
      (X.room_calling (g := g) (R' := (headSpec ws rm).room) hsize hmY hcY hframes (by rw [hlY]; omega) h4 h5) h1
  obtain ⟨mid, hmid⟩ := h.above
  have hfr : (U.setTop g).frames = (.java g :: mid) ++ below := by rw [State.frames_setTop' g h.top, hmid]; rfl
  obtain ⟨o, s₂, hsteps, -, hend, hq⟩ := Steps.callFree hM p X.admits X.cas X.clock (acts := []) hfr happ hPc trivial
  have hq' : vx_Q Qc XC mc ms free a (U.calling g mk a) o s₂ := hq
  rw [State.frames_setTop' g h.top] at hend
  obtain ⟨g₀, hg0⟩ := Option.isSome_iff_exists.mp h.top
  obtain ⟨r, hr⟩ := State.topJava?_eq_some.mp hg0
  have hr' : (({ U with heap := s₂.heap, slotsUsed := s₂.slotsUsed } : State).setVm s₂.vm).frames = .java g₀ :: r := hr
  rcases hq' with ⟨hqc, L, hfe, hL⟩ | ⟨q, rfl, E, ce, L, hx, hce, hcv, hcl, hW₂, hsm, hL⟩
  · obtain ⟨⟨v, rfl⟩, hW₂, e2, q2, q3, q4, q5, q6⟩ := id hfe
    have e3 : s₂ = ({ (U.calling g mk a).setFrames s₂.frames with heap := s₂.heap, slotsUsed := s₂.slotsUsed } : State).setVm s₂.vm := by
      have : s₂ = ({ s₂ with vm := (U.calling g mk a).vm } : State).setVm s₂.vm := rfl
      rw [e2] at this
      exact this
    obtain ⟨c₂, i₂, len₂, hc₂, hd₂, hf₂⟩ := hend
    have hW' : U.WarmedH s₂.vm := hW₂
    have hcc : c₂ = c := by
      have h1 : s₂.code? g.method = U.code? g.method := by
        rw [State.code?_eq, State.code?_eq, hW'.alike.method?]
      exact Option.some.inj (hc₂.symm.trans (h1.trans h.code))
    subst hcc
    have hlen : len₂ = len := by rw [hdg] at hd₂; cases hd₂; rfl
    subst hlen
    have hs₂ : s₂ = (({ U with heap := s₂.heap, slotsUsed := s₂.slotsUsed } : State).setVm s₂.vm).setTop { g with pc := g.pc + len₂, stack := v.toList ++ g.stack } := by
      refine e3.trans ?_
      rw [hf₂, State.calling_eq h.top, State.setFrames_setFrames, State.setTop_of_frames _ hr', hr]
      rfl
    have hsame : U.sameButNew ({ U with heap := s₂.heap, slotsUsed := s₂.slotsUsed } : State) L mc ms := by
      refine ⟨?_, q2, q3, q4, q5, q6⟩
      obtain ⟨t, ht, -⟩ := State.frames_cons hr
      show ({ U with heap := s₂.heap, slotsUsed := s₂.slotsUsed } : State) = { U.setFrames U.frames with heap := s₂.heap, slotsUsed := s₂.slotsUsed }
      rw [State.setFrames_self ht]
    subst hg
    refine Or.inl ⟨v, ⟨(({ U with heap := s₂.heap, slotsUsed := s₂.slotsUsed } : State).setVm s₂.vm), Ls ++ L, c0 + mc, s0 + ms⟩,
      ⟨X.admits, X.cas, X.clock, X.frames, X.room, X.hears, X.method, X.code, (X.here.setHeapUsed s₂.heap s₂.slotsUsed).setVm hW'.alike, X.tail, State.WarmedH.trans X.warmed hW', X.limits, X.bytes, X.same.trans (hsame.setVm s.vm)⟩,
      ⟨g, mk, s₂, L, rfl, rfl, hqc, rfl, hL, rfl, rfl⟩, ?_⟩
    show Steps p.tables e below _ ((({ U with heap := s₂.heap, slotsUsed := s₂.slotsUsed } : State).setVm s₂.vm).setTop { g with pc := g.pc + len₂, stack := v.toList ++ g.stack })
    rw [← hs₂]
    exact hsteps
  · obtain ⟨e2, q2, q3, q4, q5, q6⟩ := id hsm
    have e3 : s₂ = ({ (U.calling g mk a).setFrames s₂.frames with heap := s₂.heap, slotsUsed := s₂.slotsUsed } : State).setVm s₂.vm := by
      have : s₂ = ({ s₂ with vm := (U.calling g mk a).vm } : State).setVm s₂.vm := rfl
      rw [e2] at this
      exact this
    have hf₂ : s₂.frames = .throwing q :: .java g :: U.frames.tail := hend
    have hW' : U.WarmedH s₂.vm := hW₂
    have hs₂ : s₂ = ((({ U with heap := s₂.heap, slotsUsed := s₂.slotsUsed } : State).setVm s₂.vm).setTop g).pushFrame (.throwing q) := by
      refine e3.trans ?_
      rw [hf₂, State.calling_eq h.top, State.setFrames_setFrames, State.pushFrame, State.frames_setTop _ hr', State.setTop_of_frames _ hr', State.setFrames_setFrames, hr]
      rfl
    have hsame : U.sameButNew ({ U with heap := s₂.heap, slotsUsed := s₂.slotsUsed } : State) L mc ms := by
      refine ⟨?_, q2, q3, q4, q5, q6⟩
      obtain ⟨t, ht, -⟩ := State.frames_cons hr
      show ({ U with heap := s₂.heap, slotsUsed := s₂.slotsUsed } : State) = { U.setFrames U.frames with heap := s₂.heap, slotsUsed := s₂.slotsUsed }
      rw [State.setFrames_self ht]
    subst hg
    refine Or.inr ⟨q, ⟨(({ U with heap := s₂.heap, slotsUsed := s₂.slotsUsed } : State).setVm s₂.vm), Ls ++ L, c0 + mc, s0 + ms⟩,
      ⟨X.admits, X.cas, X.clock, X.frames, X.room, X.hears, X.method, X.code, (X.here.setHeapUsed s₂.heap s₂.slotsUsed).setVm hW'.alike, X.tail, State.WarmedH.trans X.warmed hW', X.limits, X.bytes, X.same.trans (hsame.setVm s.vm)⟩,
      ⟨g, mk, s₂, L, E, ce, rfl, rfl, hx, hce, hcv, hcl, rfl, hL, rfl, rfl⟩, ?_⟩
    show Steps p.tables e below _ (((({ U with heap := s₂.heap, slotsUsed := s₂.slotsUsed } : State).setVm s₂.vm).setTop g).pushFrame (.throwing q))
    rw [← hs₂]
    exact hsteps
end Payer
section Calls
variable {p : Program} {l : Launch} {e : Env} {R : Room} {s : State} {m : MethodId} {args : Array Value} {below : List Frame} {meth : Method} {c : Code} {T : State} {locs : List Loc} {cells slots : Nat}
theorem vx_callV (X : Stand p l e R s m args below meth c T locs cells slots) (hexec : p.tables.exec = Jvm.exec) {own C : String} {index : Nat} {y : MethodName} {bytes : ByteArray} {maxL : Nat} {ret : Option FieldType}
    (hown : s.vm.findClass own = some m.cls) (hlink : (Cond.methodLink own index y).before args s = true) (hinst : (Cond.instanceMethod y).before args s = true) (hsel : (Cond.selects C y y).before args s = true)
    (hcode : (Cond.code y bytes maxL ret).before args s = true) (hy : y.cls ≠ "java/lang/invoke/MethodHandle" ∧ y.cls ≠ "java/lang/invoke/VarHandle")
    {W9 : Nat} {Pre : Pt → Array Value → Prop} {Post : Pt → Array Value → Option Value → Pt → Prop} {PostX : Pt → Array Value → Addr → Pt → Prop} (hK : vx_Back l R p e below s args y 3 W9 Pre Post PostX)
    {b : Addr} {cellB : Cell} (hcell : T.heap[b]? = some cellB) (hobj : cellB.vm.isStatics = false) (hcls : s.vm.findClass C = some cellB.cls)
    {g : JFrame} (hg : g.method = m) (hsize : g.locals.size = c.maxLocals) {argsL rest : List Value} (hlen : ∀ sig, parseMethodDescriptor y.desc = some sig → argsL.length = sig.parameters.length)
    (hstack : g.stack = argsL.reverse ++ .ref b :: rest) (hW : 2 * g.monitorRoom + (rest.map fun v => v.category).sum ≤ W9) (hdg : decode c.code g.pc = .ok (.invokevirtual index, 3))
    (hpre : ∀ vm₁, s.WarmedH vm₁ → Pre ⟨T.setVm vm₁, locs, cells, slots⟩ (Value.ref b :: argsL).toArray) :
    (∃ (v : Option Value) (vm₁ : Vm) (B : Pt), s.WarmedH vm₁ ∧ Stand p l e R s m args below meth c B.U B.locs B.cells B.slots ∧ Post ⟨T.setVm vm₁, locs, cells, slots⟩ (Value.ref b :: argsL).toArray v B ∧
      ∀ target, Steps p.tables e below (B.U.setTop { g with pc := g.pc + 3, stack := v.toList ++ rest }) target → Steps p.tables e below (T.setTop g) target) ∨
    (∃ (q : Addr) (vm₁ : Vm) (B : Pt), s.WarmedH vm₁ ∧ Stand p l e R s m args below meth c B.U B.locs B.cells B.slots ∧ PostX ⟨T.setVm vm₁, locs, cells, slots⟩ (Value.ref b :: argsL).toArray q B ∧
      Steps p.tables e below (T.setTop g) ((B.U.setTop { g with stack := rest }).pushFrame (.throwing q))) := by
  obtain ⟨mk, methM, hnamed, hmethM, hstM, habM⟩ := Cond.instanceMethod_spec hinst
  obtain ⟨methM', cM, hmethM', -, -, -, -, -, -, hsigM⟩ := Cond.code_spec hnamed hcode
  cases hmethM.symm.trans hmethM'
  obtain ⟨c2, r2, m2, q1, q2, q3, q4, kP, hkP, hkPi⟩ := Cond.selects_spec hsel
  cases hcls.symm.trans q1
  cases (State.methodFound?_of_named hnamed hy).symm.trans q2
  cases hnamed.symm.trans q3
  have hselP : selectMethod e.platform s.vm cellB.cls mk = .method mk := by rw [Launch.admits_selectMethod X.admits]; exact q4
  obtain ⟨vm₁, X₁, hstep₁⟩ := X.invokevirtual hexec hown hlink hnamed hmethM hstM hkP hkPi hy (a := b) (cell := cellB) hcell
    (fun z h => by rw [h] at hobj; cases hobj) hselP hmethM habM hkP hkPi (g := g) hg (argsL := argsL) (rest := rest) (hlen _ hsigM) hstack hdg
  rcases hK m meth c ⟨T.setVm vm₁, locs, cells, slots⟩ { g with stack := rest } (.invokevirtual index) mk (Value.ref b :: argsL).toArray X₁ hg hsize hdg hW (X₁.named hnamed) (hpre vm₁ X₁.warmed) with ⟨v, B, X', hpost, hsteps⟩ | ⟨q, B, X', hpost, hsteps⟩
  · exact Or.inl ⟨v, vm₁, B, X₁.warmed, X', hpost, fun target h => hstep₁ _ fun acts => by rw [doInvoke_state]; exact hsteps.trans h⟩
  · exact Or.inr ⟨q, vm₁, B, X₁.warmed, X', hpost, hstep₁ _ fun acts => by rw [doInvoke_state]; exact hsteps⟩
theorem vx_callS (X : Stand p l e R s m args below meth c T locs cells slots) (hexec : p.tables.exec = Jvm.exec) {own : String} {index : Nat} {y : MethodName} {bytes : ByteArray} {maxL : Nat} {ret : Option FieldType}
    (hown : s.vm.findClass own = some m.cls) (hlink : (Cond.methodLink own index y).before args s = true) (hstat : (Cond.static y).before args s = true) (hinit : (Cond.initialized y.cls).before args s = true)
    (hcode : (Cond.code y bytes maxL ret).before args s = true) (hy : y.cls ≠ "java/lang/invoke/MethodHandle" ∧ y.cls ≠ "java/lang/invoke/VarHandle")
    {W9 : Nat} {Pre : Pt → Array Value → Prop} {Post : Pt → Array Value → Option Value → Pt → Prop} {PostX : Pt → Array Value → Addr → Pt → Prop} (hK : vx_Back l R p e below s args y 3 W9 Pre Post PostX)
    {g : JFrame} (hg : g.method = m) (hsize : g.locals.size = c.maxLocals) {argsL rest : List Value} (hlen : ∀ sig, parseMethodDescriptor y.desc = some sig → argsL.length = sig.parameters.length)
    (hstack : g.stack = argsL.reverse ++ rest) (hW : 2 * g.monitorRoom + (rest.map fun v => v.category).sum ≤ W9) (hdg : decode c.code g.pc = .ok (.invokestatic index, 3))
    (hpre : ∀ vm₁, s.WarmedH vm₁ → Pre ⟨T.setVm vm₁, locs, cells, slots⟩ argsL.toArray) :
    (∃ (v : Option Value) (vm₁ : Vm) (B : Pt), s.WarmedH vm₁ ∧ Stand p l e R s m args below meth c B.U B.locs B.cells B.slots ∧ Post ⟨T.setVm vm₁, locs, cells, slots⟩ argsL.toArray v B ∧
      ∀ target, Steps p.tables e below (B.U.setTop { g with pc := g.pc + 3, stack := v.toList ++ rest }) target → Steps p.tables e below (T.setTop g) target) ∨
    (∃ (q : Addr) (vm₁ : Vm) (B : Pt), s.WarmedH vm₁ ∧ Stand p l e R s m args below meth c B.U B.locs B.cells B.slots ∧ PostX ⟨T.setVm vm₁, locs, cells, slots⟩ argsL.toArray q B ∧
      Steps p.tables e below (T.setTop g) ((B.U.setTop { g with stack := rest }).pushFrame (.throwing q))) := by
  obtain ⟨mk, hnamed⟩ := Cond.code_named hcode
  obtain ⟨methM, cM, hmethM, -, -, -, -, -, -, hsigM⟩ := Cond.code_spec hnamed hcode
  have hstatic : methM.isStatic = true := Cond.static_spec hnamed hmethM hstat
  obtain ⟨kP, hkP, -⟩ := className_of_methodNamed hnamed
  have hinitP : kP.init = .initialized := Cond.initialized_spec (findClass_of_methodNamed hnamed) hkP hinit
  obtain ⟨vm₁, X₁, hstep₁⟩ := X.invokestatic hexec hown hlink hnamed hmethM hstatic hkP hinitP hy (g := g) hg (argsL := argsL) (rest := rest) (hlen _ hsigM) hstack hdg
  rcases hK m meth c ⟨T.setVm vm₁, locs, cells, slots⟩ { g with stack := rest } (.invokestatic index) mk argsL.toArray X₁ hg hsize hdg hW (X₁.named hnamed) (hpre vm₁ X₁.warmed) with ⟨v, B, X', hpost, hsteps⟩ | ⟨q, B, X', hpost, hsteps⟩
  · exact Or.inl ⟨v, vm₁, B, X₁.warmed, X', hpost, fun target h => hstep₁ _ fun acts => by rw [doInvoke_state]; exact hsteps.trans h⟩
  · exact Or.inr ⟨q, vm₁, B, X₁.warmed, X', hpost, hstep₁ _ fun acts => by rw [doInvoke_state]; exact hsteps⟩
end Calls
theorem vx_cls {s : State} {T : State} {vm₁ : Vm} {E : String} {k : ClassId} (hW : s.WarmedH vm₁) (h : (T.setVm vm₁).vm.findClass E = some k) : s.vm.findClass E = some k := by
  have h1 : vm₁.findClass E = some k := h
  rw [hW.alike.findClass] at h1
  exact h1
/-- the method's frame g, with q thrown over it -/
def vx_W (p : Program) (l : Launch) (e : Env) (R : Room) (s : State) (m : MethodId) (args : Array Value) (below : List Frame) (meth : Method) (c : Code) (H : Heap) (locs : List Loc) (cells slots : Nat) (Q : State → Prop) (g : JFrame) (q : Addr) : Prop :=
  ∀ T : State, T.heap = H → Stand p l e R s m args below meth c T locs cells slots → ∃ t, Steps p.tables e below ((T.setTop g).pushFrame (.throwing q)) t ∧ Q t
def vx_Run (p : Program) (l : Launch) (e : Env) (R : Room) (s : State) (m : MethodId) (args : Array Value) (below : List Frame) (meth : Method) (c : Code) (H : Heap) (locs : List Loc) (cells slots mc ms : Nat) (g : JFrame) (rest : List Value) (Qa : State → Outcome → State → Prop) (XC : String → State → State → Prop) (free : Addr → Prop) : Prop :=
  ∀ T : State, T.heap = H → Stand p l e R s m args below meth c T locs cells slots →
    (∃ (v : Option Value) (st₀ t T' : State) (L : List Loc), st₀.heap = H ∧ Stand p l e R s m args below meth c T' (locs ++ L) (cells + mc) (slots + ms) ∧ (∀ q ∈ L, free q.base) ∧ T'.heap = t.heap ∧ T'.vm = t.vm ∧ Qa st₀ (.returned v) t ∧
      Goes p e below T g T' { g with pc := g.pc + 3, stack := v.toList ++ rest }) ∨
    (∃ (q : Addr) (st₀ t T' : State) (L : List Loc) (E : String) (ce : Cell), st₀.heap = H ∧ Stand p l e R s m args below meth c T' (locs ++ L) (cells + mc) (slots + ms) ∧ (∀ z ∈ L, free z.base) ∧ T'.heap = t.heap ∧ T'.vm = t.vm ∧ XC E st₀ t ∧ t.heap[q]? = some ce ∧ ce.vm = .none ∧ s.vm.findClass E = some ce.cls ∧
      Steps p.tables e below (T.setTop g) ((T'.setTop { g with stack := rest }).pushFrame (.throwing q)))
def vx_X {S : Type} (px : S → Prop) (B : String → S → State → Prop) (A : Nat → Prop) : String → State → State → Prop := fun E st t => ∃ u : S, px u ∧ B E u t ∧ va_F A st t
section Runs
variable {p : Program} {l : Launch} {e : Env} {R : Room} {s : State} {m : MethodId} {args : Array Value} {below : List Frame} {meth : Method} {c : Code} {H : Heap} {locs : List Loc} {cells slots : Nat}
variable {y : MethodName} {bytes cc : ByteArray} {maxL nL mc ms n index : Nat} {ret : Option FieldType} {ws : List Cond} {rm : Room} {Pc : Array Value → State → Prop} {Qc : Array Value → State → Outcome → State → Prop} {XC : String → State → State → Prop} {free : Addr → Prop} {Ts : List Cond} {own C : String} {b : Addr} {As rest : List Value} {g : JFrame}
theorem vx_callBack (cb : CallB R s args own index y bytes maxL ret ws rm mc ms n) (hM : vx_Met l y ws rm Pc Qc XC mc ms free) (hbl : FrameBlind Pc) : vx_Back l R p e below s args y 3 8 (PreOf R mc ms Pc) (PostOf Qc mc ms free) (vx_Post XC mc ms free) := by
  obtain ⟨hrc, hrs, hfr, hlo, hws, hcw, -, hini, -⟩ := cb
  exact vx_back (bytes := bytes) (maxL := maxL) (ret := ret) hM hbl hrc hrs hfr hlo hws hcw (fun a' U hW => word_at hW (Or.inl (by first | rfl | simp [Cond.onTables, Cond.keeps, Cond.steady])) hini)
theorem vx_runV (S : CallFix p m c cc nL s args Ts own) (hM : vx_Met l y ws rm Pc Qc XC mc ms free) (cw : CallW R s args own C index y bytes maxL ret ws rm mc ms n) (hp : PreV s H C b Pc As)
    (hg : g.method = m) (hn : As.length = n) (hsize : g.locals.size = nL) (hstack : g.stack = As.reverse ++ .ref b :: rest) (hW : 2 * g.monitorRoom + (rest.map fun v => v.category).sum ≤ 8) (hdg : decode cc g.pc = .ok (.invokevirtual index, 3)) (hf : cells + mc ≤ R.cells ∧ slots + ms ≤ R.slots) :
    vx_Run p l e R s m args below meth c H locs cells slots mc ms g rest (Qc (Value.ref b :: As).toArray) XC free := by
  have hK : vx_Back l R p e below s args y 3 8 (PreOf R mc ms Pc) (PostOf Qc mc ms free) (vx_Post XC mc ms free) := vx_callBack cw.1 hM hp.1
  obtain ⟨⟨-, -, -, -, -, -, hcode, -, hy, hlen, hl⟩, hin, hse⟩ := cw
  obtain ⟨hx, hb, hml, ho, -⟩ := S
  obtain ⟨-, ⟨cellB, hcB, hoB, hclB⟩, hPc⟩ := hp
  intro T hT X
  rcases vx_callV X hx (C := C) (bytes := bytes) (maxL := maxL) (ret := ret) ho hl hin hse hcode hy hK (by rw [hT]; exact hcB) hoB hclB hg (hsize.trans hml.symm) (argsL := As) (rest := rest) (fun sig h => hn.trans (hlen sig h)) hstack hW (by rw [hb]; exact hdg)
    (fun vm₁ hW₁ => ⟨hf.1, hf.2, hPc (T.setVm vm₁) hT hW₁⟩) with ⟨v, vm₁, ⟨U', l2, c2, s2⟩, hW₁, X', ⟨g', mk, t, L, e1, e2, hq, h1, hL, h2, h3⟩, st⟩ | ⟨q, vm₁, ⟨U', l2, c2, s2⟩, hW₁, X', ⟨g', mk, t, L, E, ce, e1, e2, hq, hce, hcv, hcl, h1, hL, h2, h3⟩, st⟩
  · dsimp only [Pt.U, Pt.locs, Pt.cells, Pt.slots] at X' e1 e2 h1 h2 h3 st
    subst h1; subst h2; subst h3
    exact Or.inl ⟨v, (T.setVm vm₁).calling g' mk (Value.ref b :: As).toArray, t, U', L, hT, X', hL, e1, e2, hq, st⟩
  · dsimp only [Pt.U, Pt.locs, Pt.cells, Pt.slots] at X' e1 e2 h1 h2 h3 st hcl
    subst h1; subst h2; subst h3
    exact Or.inr ⟨q, (T.setVm vm₁).calling g' mk (Value.ref b :: As).toArray, t, U', L, E, ce, hT, X', hL, e1, e2, hq, hce, hcv, vx_cls hW₁ hcl, st⟩
theorem vx_runS (S : CallFix p m c cc nL s args Ts own) (hM : vx_Met l y ws rm Pc Qc XC mc ms free) (cw : CallB R s args own index y bytes maxL ret ws rm mc ms n ∧ (Cond.static y).before args s = true) (hp : PreS s H Pc As)
    (hg : g.method = m) (hn : As.length = n) (hsize : g.locals.size = nL) (hstack : g.stack = As.reverse ++ rest) (hW : 2 * g.monitorRoom + (rest.map fun v => v.category).sum ≤ 8) (hdg : decode cc g.pc = .ok (.invokestatic index, 3)) (hf : cells + mc ≤ R.cells ∧ slots + ms ≤ R.slots) :
    vx_Run p l e R s m args below meth c H locs cells slots mc ms g rest (Qc As.toArray) XC free := by
  have hK : vx_Back l R p e below s args y 3 8 (PreOf R mc ms Pc) (PostOf Qc mc ms free) (vx_Post XC mc ms free) := vx_callBack cw.1 hM hp.1
  obtain ⟨⟨-, -, -, -, -, -, hcode, hini, hy, hlen, hl⟩, hstt⟩ := cw
  obtain ⟨hx, hb, hml, ho, -⟩ := S
  intro T hT X
  rcases vx_callS X hx (bytes := bytes) (maxL := maxL) (ret := ret) ho hl hstt hini hcode hy hK hg (hsize.trans hml.symm) (argsL := As) (rest := rest) (fun sig h => hn.trans (hlen sig h)) hstack hW (by rw [hb]; exact hdg)
    (fun vm₁ hW₁ => ⟨hf.1, hf.2, hp.2 (T.setVm vm₁) hT hW₁⟩) with ⟨v, vm₁, ⟨U', l2, c2, s2⟩, hW₁, X', ⟨g', mk, t, L, e1, e2, hq, h1, hL, h2, h3⟩, st⟩ | ⟨q, vm₁, ⟨U', l2, c2, s2⟩, hW₁, X', ⟨g', mk, t, L, E, ce, e1, e2, hq, hce, hcv, hcl, h1, hL, h2, h3⟩, st⟩
  · dsimp only [Pt.U, Pt.locs, Pt.cells, Pt.slots] at X' e1 e2 h1 h2 h3 st
    subst h1; subst h2; subst h3
    exact Or.inl ⟨v, (T.setVm vm₁).calling g' mk As.toArray, t, U', L, hT, X', hL, e1, e2, hq, st⟩
  · dsimp only [Pt.U, Pt.locs, Pt.cells, Pt.slots] at X' e1 e2 h1 h2 h3 st hcl
    subst h1; subst h2; subst h3
    exact Or.inr ⟨q, (T.setVm vm₁).calling g' mk As.toArray, t, U', L, E, ce, hT, X', hL, e1, e2, hq, hce, hcv, vx_cls hW₁ hcl, st⟩
end Runs
section Rows
variable {p : Program} {l : Launch} {e : Env} {R : Room} {s : State} {m : MethodId} {args : Array Value} {below : List Frame} {meth : Method} {c : Code} {H : Heap} {locs : List Loc} {cells slots : Nat} {Q : State → Prop}
variable {mc ms : Nat} {free : Addr → Prop} {A0 A1 : Nat → Prop} {H0 : Heap} {a : Array Value} {pc : Nat} {ls : Array Slot} {st0 rest : List Value}
theorem vx_keep {st₀ t T' : State} {L : List Loc} (h0 : st₀.heap = H) (e1 : T'.heap = t.heap) (hS : va_S A0 H0 H locs) (hA : ∀ q, q < H.size → A1 q → A0 q) (hf : ∀ q, free q → A0 q) (hL : ∀ q ∈ L, free q.base) (hF : va_F A1 st₀ t) :
    H.size ≤ T'.heap.size ∧ (∀ q : Nat, q < H.size → ¬ A1 q → T'.heap[q]? = H[q]?) ∧ va_S A0 H0 T'.heap (locs ++ L) := by
  obtain ⟨hz, hk⟩ := hF
  rw [h0] at hz hk
  exact ⟨by rw [e1]; exact hz, fun q h1 h2 => by rw [e1]; exact hk q h1 h2,
    ⟨Nat.le_trans hS.1 (by rw [e1]; exact hz), fun q h1 h2 => by rw [e1, hk q (Nat.lt_of_lt_of_le h1 hS.1) (fun z => h2 (hA q (Nat.lt_of_lt_of_le h1 hS.1) z))]; exact hS.2.1 q h1 h2, fun q hq => by
      rcases List.mem_append.mp hq with h | h
      · exact hS.2.2 q h
      · exact hf _ (hL q h)⟩⟩
theorem vx_calli {S SX : Type} {post : Int32 → S → Prop} {px : SX → Prop} {B : S → State → Prop} {BX : String → SX → State → Prop} {AX : Nat → Prop} (hr : vx_Run p l e R s m args below meth c H locs cells slots mc ms (F0 m pc ls st0) rest (va_Qi post B A1 a) (vx_X px BX AX) free) (hS : va_S A0 H0 H locs) (hA : ∀ q, q < H.size → A1 q → A0 q) (hf : ∀ q, free q → A0 q) (hAX : ∀ q, q < H.size → AX q → A0 q)
    (kx : ∀ (E : String) (ce : Cell) (q9 : Addr) (u : SX) (t : State) (H1 : Heap) (locs1 : List Loc), t.heap = H1 → s.vm.Alike t.vm → px u → BX E u t → H.size ≤ H1.size → (∀ q : Nat, q < H.size → ¬ AX q → H1[q]? = H[q]?) → va_S A0 H0 H1 locs1 → H1[q9]? = some ce → ce.vm = .none → s.vm.findClass E = some ce.cls → vx_W p l e R s m args below meth c H1 locs1 (cells + mc) (slots + ms) Q (F0 m pc ls rest) q9)
    (kk : ∀ (r : Int32) (u : S) (t : State) (H1 : Heap) (locs1 : List Loc), t.heap = H1 → s.vm.Alike t.vm → post r u → B u t → H.size ≤ H1.size → (∀ q : Nat, q < H.size → ¬ A1 q → H1[q]? = H[q]?) → va_S A0 H0 H1 locs1 → W p l e R s m args below meth c H1 locs1 (cells + mc) (slots + ms) Q (F0 m (pc + 3) ls (.int r :: rest))) : W p l e R s m args below meth c H locs cells slots Q (F0 m pc ls st0) := by
  intro T hT X
  rcases hr T hT X with ⟨v, st₀, t, T', L, h0, X', hL, e1, e2, ⟨⟨r, u, hv, hp, hb⟩, hF⟩, st⟩ | ⟨q, st₀, t, T', L, E, ce, h0, X', hL, e1, e2, ⟨u, hp, hb, hF⟩, hce, hcv, hcl, st⟩
  · cases hv
    obtain ⟨k1, k2, k3⟩ := vx_keep h0 e1 hS hA hf hL hF
    obtain ⟨t2, a1, b1⟩ := kk r u t T'.heap (locs ++ L) e1.symm (by rw [← e2]; exact X'.warmed.alike) hp hb k1 k2 k3 T' rfl X'
    exact ⟨t2, st t2 a1, b1⟩
  · obtain ⟨k1, k2, k3⟩ := vx_keep h0 e1 hS hAX hf hL hF
    obtain ⟨t2, a1, b1⟩ := kx E ce q u t T'.heap (locs ++ L) e1.symm (by rw [← e2]; exact X'.warmed.alike) hp hb k1 k2 k3 (by rw [e1]; exact hce) hcv hcl T' rfl X'
    exact ⟨t2, st.trans a1, b1⟩
theorem vx_calll {S SX : Type} {post : Int64 → S → Prop} {px : SX → Prop} {B : S → State → Prop} {BX : String → SX → State → Prop} {AX : Nat → Prop} (hr : vx_Run p l e R s m args below meth c H locs cells slots mc ms (F0 m pc ls st0) rest (va_Ql post B A1 a) (vx_X px BX AX) free) (hS : va_S A0 H0 H locs) (hA : ∀ q, q < H.size → A1 q → A0 q) (hf : ∀ q, free q → A0 q) (hAX : ∀ q, q < H.size → AX q → A0 q)
    (kx : ∀ (E : String) (ce : Cell) (q9 : Addr) (u : SX) (t : State) (H1 : Heap) (locs1 : List Loc), t.heap = H1 → s.vm.Alike t.vm → px u → BX E u t → H.size ≤ H1.size → (∀ q : Nat, q < H.size → ¬ AX q → H1[q]? = H[q]?) → va_S A0 H0 H1 locs1 → H1[q9]? = some ce → ce.vm = .none → s.vm.findClass E = some ce.cls → vx_W p l e R s m args below meth c H1 locs1 (cells + mc) (slots + ms) Q (F0 m pc ls rest) q9)
    (kk : ∀ (r : Int64) (u : S) (t : State) (H1 : Heap) (locs1 : List Loc), t.heap = H1 → s.vm.Alike t.vm → post r u → B u t → H.size ≤ H1.size → (∀ q : Nat, q < H.size → ¬ A1 q → H1[q]? = H[q]?) → va_S A0 H0 H1 locs1 → W p l e R s m args below meth c H1 locs1 (cells + mc) (slots + ms) Q (F0 m (pc + 3) ls (.long r :: rest))) : W p l e R s m args below meth c H locs cells slots Q (F0 m pc ls st0) := by
  intro T hT X
  rcases hr T hT X with ⟨v, st₀, t, T', L, h0, X', hL, e1, e2, ⟨⟨r, u, hv, hp, hb⟩, hF⟩, st⟩ | ⟨q, st₀, t, T', L, E, ce, h0, X', hL, e1, e2, ⟨u, hp, hb, hF⟩, hce, hcv, hcl, st⟩
  · cases hv
    obtain ⟨k1, k2, k3⟩ := vx_keep h0 e1 hS hA hf hL hF
    obtain ⟨t2, a1, b1⟩ := kk r u t T'.heap (locs ++ L) e1.symm (by rw [← e2]; exact X'.warmed.alike) hp hb k1 k2 k3 T' rfl X'
    exact ⟨t2, st t2 a1, b1⟩
  · obtain ⟨k1, k2, k3⟩ := vx_keep h0 e1 hS hAX hf hL hF
    obtain ⟨t2, a1, b1⟩ := kx E ce q u t T'.heap (locs ++ L) e1.symm (by rw [← e2]; exact X'.warmed.alike) hp hb k1 k2 k3 (by rw [e1]; exact hce) hcv hcl T' rfl X'
    exact ⟨t2, st.trans a1, b1⟩
theorem vx_callf {S SX : Type} {post : UInt32 → S → Prop} {px : SX → Prop} {B : S → State → Prop} {BX : String → SX → State → Prop} {AX : Nat → Prop} (hr : vx_Run p l e R s m args below meth c H locs cells slots mc ms (F0 m pc ls st0) rest (va_Qf post B A1 a) (vx_X px BX AX) free) (hS : va_S A0 H0 H locs) (hA : ∀ q, q < H.size → A1 q → A0 q) (hf : ∀ q, free q → A0 q) (hAX : ∀ q, q < H.size → AX q → A0 q)
    (kx : ∀ (E : String) (ce : Cell) (q9 : Addr) (u : SX) (t : State) (H1 : Heap) (locs1 : List Loc), t.heap = H1 → s.vm.Alike t.vm → px u → BX E u t → H.size ≤ H1.size → (∀ q : Nat, q < H.size → ¬ AX q → H1[q]? = H[q]?) → va_S A0 H0 H1 locs1 → H1[q9]? = some ce → ce.vm = .none → s.vm.findClass E = some ce.cls → vx_W p l e R s m args below meth c H1 locs1 (cells + mc) (slots + ms) Q (F0 m pc ls rest) q9)
    (kk : ∀ (r : UInt32) (u : S) (t : State) (H1 : Heap) (locs1 : List Loc), t.heap = H1 → s.vm.Alike t.vm → post r u → B u t → H.size ≤ H1.size → (∀ q : Nat, q < H.size → ¬ A1 q → H1[q]? = H[q]?) → va_S A0 H0 H1 locs1 → W p l e R s m args below meth c H1 locs1 (cells + mc) (slots + ms) Q (F0 m (pc + 3) ls (.float r :: rest))) : W p l e R s m args below meth c H locs cells slots Q (F0 m pc ls st0) := by
  intro T hT X
  rcases hr T hT X with ⟨v, st₀, t, T', L, h0, X', hL, e1, e2, ⟨⟨r, u, hv, hp, hb⟩, hF⟩, st⟩ | ⟨q, st₀, t, T', L, E, ce, h0, X', hL, e1, e2, ⟨u, hp, hb, hF⟩, hce, hcv, hcl, st⟩
  · cases hv
    obtain ⟨k1, k2, k3⟩ := vx_keep h0 e1 hS hA hf hL hF
    obtain ⟨t2, a1, b1⟩ := kk r u t T'.heap (locs ++ L) e1.symm (by rw [← e2]; exact X'.warmed.alike) hp hb k1 k2 k3 T' rfl X'
    exact ⟨t2, st t2 a1, b1⟩
  · obtain ⟨k1, k2, k3⟩ := vx_keep h0 e1 hS hAX hf hL hF
    obtain ⟨t2, a1, b1⟩ := kx E ce q u t T'.heap (locs ++ L) e1.symm (by rw [← e2]; exact X'.warmed.alike) hp hb k1 k2 k3 (by rw [e1]; exact hce) hcv hcl T' rfl X'
    exact ⟨t2, st.trans a1, b1⟩
theorem vx_calld {S SX : Type} {post : UInt64 → S → Prop} {px : SX → Prop} {B : S → State → Prop} {BX : String → SX → State → Prop} {AX : Nat → Prop} (hr : vx_Run p l e R s m args below meth c H locs cells slots mc ms (F0 m pc ls st0) rest (va_Qd post B A1 a) (vx_X px BX AX) free) (hS : va_S A0 H0 H locs) (hA : ∀ q, q < H.size → A1 q → A0 q) (hf : ∀ q, free q → A0 q) (hAX : ∀ q, q < H.size → AX q → A0 q)
    (kx : ∀ (E : String) (ce : Cell) (q9 : Addr) (u : SX) (t : State) (H1 : Heap) (locs1 : List Loc), t.heap = H1 → s.vm.Alike t.vm → px u → BX E u t → H.size ≤ H1.size → (∀ q : Nat, q < H.size → ¬ AX q → H1[q]? = H[q]?) → va_S A0 H0 H1 locs1 → H1[q9]? = some ce → ce.vm = .none → s.vm.findClass E = some ce.cls → vx_W p l e R s m args below meth c H1 locs1 (cells + mc) (slots + ms) Q (F0 m pc ls rest) q9)
    (kk : ∀ (r : UInt64) (u : S) (t : State) (H1 : Heap) (locs1 : List Loc), t.heap = H1 → s.vm.Alike t.vm → post r u → B u t → H.size ≤ H1.size → (∀ q : Nat, q < H.size → ¬ A1 q → H1[q]? = H[q]?) → va_S A0 H0 H1 locs1 → W p l e R s m args below meth c H1 locs1 (cells + mc) (slots + ms) Q (F0 m (pc + 3) ls (.double r :: rest))) : W p l e R s m args below meth c H locs cells slots Q (F0 m pc ls st0) := by
  intro T hT X
  rcases hr T hT X with ⟨v, st₀, t, T', L, h0, X', hL, e1, e2, ⟨⟨r, u, hv, hp, hb⟩, hF⟩, st⟩ | ⟨q, st₀, t, T', L, E, ce, h0, X', hL, e1, e2, ⟨u, hp, hb, hF⟩, hce, hcv, hcl, st⟩
  · cases hv
    obtain ⟨k1, k2, k3⟩ := vx_keep h0 e1 hS hA hf hL hF
    obtain ⟨t2, a1, b1⟩ := kk r u t T'.heap (locs ++ L) e1.symm (by rw [← e2]; exact X'.warmed.alike) hp hb k1 k2 k3 T' rfl X'
    exact ⟨t2, st t2 a1, b1⟩
  · obtain ⟨k1, k2, k3⟩ := vx_keep h0 e1 hS hAX hf hL hF
    obtain ⟨t2, a1, b1⟩ := kx E ce q u t T'.heap (locs ++ L) e1.symm (by rw [← e2]; exact X'.warmed.alike) hp hb k1 k2 k3 (by rw [e1]; exact hce) hcv hcl T' rfl X'
    exact ⟨t2, st.trans a1, b1⟩
theorem vx_callv {S SX : Type} {post : S → Prop} {px : SX → Prop} {B : S → State → Prop} {BX : String → SX → State → Prop} {AX : Nat → Prop} (hr : vx_Run p l e R s m args below meth c H locs cells slots mc ms (F0 m pc ls st0) rest (va_Qv post B A1 a) (vx_X px BX AX) free) (hS : va_S A0 H0 H locs) (hA : ∀ q, q < H.size → A1 q → A0 q) (hf : ∀ q, free q → A0 q) (hAX : ∀ q, q < H.size → AX q → A0 q)
    (kx : ∀ (E : String) (ce : Cell) (q9 : Addr) (u : SX) (t : State) (H1 : Heap) (locs1 : List Loc), t.heap = H1 → s.vm.Alike t.vm → px u → BX E u t → H.size ≤ H1.size → (∀ q : Nat, q < H.size → ¬ AX q → H1[q]? = H[q]?) → va_S A0 H0 H1 locs1 → H1[q9]? = some ce → ce.vm = .none → s.vm.findClass E = some ce.cls → vx_W p l e R s m args below meth c H1 locs1 (cells + mc) (slots + ms) Q (F0 m pc ls rest) q9)
    (kk : ∀ (u : S) (t : State) (H1 : Heap) (locs1 : List Loc), t.heap = H1 → s.vm.Alike t.vm → post u → B u t → H.size ≤ H1.size → (∀ q : Nat, q < H.size → ¬ A1 q → H1[q]? = H[q]?) → va_S A0 H0 H1 locs1 → W p l e R s m args below meth c H1 locs1 (cells + mc) (slots + ms) Q (F0 m (pc + 3) ls (rest))) : W p l e R s m args below meth c H locs cells slots Q (F0 m pc ls st0) := by
  intro T hT X
  rcases hr T hT X with ⟨v, st₀, t, T', L, h0, X', hL, e1, e2, ⟨⟨u, hv, hp, hb⟩, hF⟩, st⟩ | ⟨q, st₀, t, T', L, E, ce, h0, X', hL, e1, e2, ⟨u, hp, hb, hF⟩, hce, hcv, hcl, st⟩
  · cases hv
    obtain ⟨k1, k2, k3⟩ := vx_keep h0 e1 hS hA hf hL hF
    obtain ⟨t2, a1, b1⟩ := kk u t T'.heap (locs ++ L) e1.symm (by rw [← e2]; exact X'.warmed.alike) hp hb k1 k2 k3 T' rfl X'
    exact ⟨t2, st t2 a1, b1⟩
  · obtain ⟨k1, k2, k3⟩ := vx_keep h0 e1 hS hAX hf hL hF
    obtain ⟨t2, a1, b1⟩ := kx E ce q u t T'.heap (locs ++ L) e1.symm (by rw [← e2]; exact X'.warmed.alike) hp hb k1 k2 k3 (by rw [e1]; exact hce) hcv hcl T' rfl X'
    exact ⟨t2, st.trans a1, b1⟩
/-- caught by the row x of this method's table; the rows ahead don't take it -/
theorem vx_catch {own name : String} {E : String} {ce : Cell} {q : Addr} (hown : s.vm.findClass own = some m.cls) (pre : List ExceptionTableEntry) (x : ExceptionTableEntry) (suf : List ExceptionTableEntry) (hsplit : c.exceptionTable.toList = pre ++ x :: suf)
    (hpass : ∀ z ∈ pre, covers z pc = false ∨ (z.catchType ≠ 0 ∧ ∃ nm : String, (Cond.classLink own z.catchType nm).before args s = true ∧ va_Nc E nm s)) (hx : covers x pc = true) (h0 : x.catchType ≠ 0)
    (hlink : (Cond.classLink own x.catchType name).before args s = true) (hcast : (Cond.castable E name).before args s = true) (hcell : H[q]? = some ce) (hv : ce.vm = .none) (hcl : s.vm.findClass E = some ce.cls)
    (kk : W p l e R s m args below meth c H locs cells slots Q (F0 m x.handlerPc ls [.ref q])) : vx_W p l e R s m args below meth c H locs cells slots Q (F0 m pc ls rest) q := by
  intro T hT X
  have hpl : e.platform.magicAccessors = ({} : Platform).magicAccessors := by rw [X.admits.platform]
  obtain ⟨c3, c4, hc3, hc4, hasg⟩ := Cond.castable_spec hcast
  cases Option.some.inj (hc3.symm.trans hcl)
  obtain ⟨c5, hc5, hcl5⟩ := Cond.classLink_spec hown hlink e.platform hpl
  cases Option.some.inj (hc4.symm.trans hc5)
  obtain ⟨vm', X', st⟩ := X.thenCaughtThrough q (g := F0 m pc ls rest) rfl (Steps.refl _) (by rw [hT]; exact hcell) (by rw [hv]; rfl) (by obtain ⟨k9, h9, -⟩ := Vm.findClass_spec hcl; exact ⟨k9, h9⟩) pre x suf hsplit
    (fun z hz => by
      rcases hpass z hz with h | ⟨hz0, nm, hl1, hn1⟩
      · exact Or.inl h
      · obtain ⟨c6, hc6, hcl6⟩ := Cond.classLink_spec hown hl1 e.platform hpl
        obtain ⟨a8, b8, h1, h2, h3⟩ := hn1
        cases Option.some.inj (h1.symm.trans hcl)
        cases Option.some.inj (h2.symm.trans hc6)
        exact Or.inr ⟨hz0, _, hcl6, h3⟩) hx (Or.inr ⟨h0, c4, hcl5, hasg⟩)
  obtain ⟨t, a1, b1⟩ := kk (T.setVm vm') hT X'
  exact ⟨t, st.trans a1, b1⟩
end Rows
section Ends
variable {p : Program} {l : Launch} {e : Env} {R : Room} {s : State} {m : MethodId} {args : Array Value} {below : List Frame} {meth : Method} {c : Code} {H : Heap} {locs : List Loc} {cells slots : Nat} {Q : State → Prop}
variable {mc ms : Nat} {free : Addr → Prop} {A0 A1 : Nat → Prop} {H0 : Heap} {a : Array Value} {ls : Array Slot} {st0 rest : List Value}
variable {Qc : Array Value → State → Outcome → State → Prop} {XC : String → State → State → Prop}
/-- what a body that may throw owes at its end -/
def vx_MQ (below : List Frame) (Qc : Array Value → State → Outcome → State → Prop) (XC : String → State → State → Prop) (a : Array Value) (s : State) (mc ms : Nat) (free : Addr → Prop) : State → Prop := fun t =>
  ∃ o, t.status = .running ∧ Ended t below o ∧ vx_Q Qc XC mc ms free a s o t
theorem vx_ret {g : JFrame} {mc ms : Nat} (k : W p l e R s m args below meth c H locs cells slots (MQ below Qc args s mc ms free) g) : W p l e R s m args below meth c H locs cells slots (vx_MQ below Qc XC args s mc ms free) g := by
  intro T hT X
  obtain ⟨t, a1, o, b1, b2, b3, b4⟩ := k T hT X
  exact ⟨t, a1, o, b1, b2, Or.inl ⟨b3, b4⟩⟩
/-- not caught here: it goes on to the caller -/
theorem vx_widen {g : JFrame} {q : Addr} {k n : Nat} (h1 : cells ≤ k) (h2 : slots ≤ n) (kk : vx_W p l e R s m args below meth c H locs k n Q g q) : vx_W p l e R s m args below meth c H locs cells slots Q g q := fun T hT X => kk T hT (stand_widen X h1 h2)
theorem vx_out {pc : Nat} {E : String} {ce : Cell} {q : Addr} {mc ms : Nat} (hout : ∀ x ∈ c.exceptionTable.toList, covers x pc = false) (hlocks : meth.locks = false) (hcell : H[q]? = some ce) (hv : ce.vm = .none) (hcl : s.vm.findClass E = some ce.cls)
    (hx : ∀ t : State, t.heap = H → s.vm.Alike t.vm → XC E s t) (hf : ∀ z ∈ locs, free z.base) (hc : cells ≤ mc) (hs : slots ≤ ms) :
    vx_W p l e R s m args below meth c H locs cells slots (vx_MQ below Qc XC args s mc ms free) (F0 m pc ls rest) q := by
  intro T hT X
  obtain ⟨st1, hrun, hend, hW, hsm⟩ := X.leaveThrown q (g := F0 m pc ls rest) rfl rfl rfl hout hlocks
  have hcell9 : (T.setFrames (.throwing q :: below)).heap[q]? = some ce := by
    show T.heap[q]? = some ce
    rw [hT]; exact hcell
  exact ⟨_, st1, .threw q, hrun, hend, Or.inr ⟨q, rfl, E, ce, locs, hx _ hT hW.alike, hcell9, hv, hcl, hW, hsm.mono hc hs, hf⟩⟩
theorem vx_frame {U : State} {k n : Nat} (h : s.sameButNew ({ U with vm := s.vm } : State) locs k n) : s.heap.size ≤ U.heap.size ∧ ∀ q : Nat, q < s.heap.size → (∀ z ∈ locs, z.base ≠ q) → U.heap[q]? = s.heap[q]? := by
  obtain ⟨-, h2, -, -, -, h6⟩ := h
  refine ⟨h2, fun q hq hz => ?_⟩
  obtain ⟨c9, e1, e2, e3, e4⟩ := h6 q _ (Array.getElem?_eq_getElem hq)
  have hs : c9.slots = (s.heap[q]).slots := Array.ext_getElem? fun i => e4 i fun hm => hz _ hm rfl
  have h9 : c9 = s.heap[q] := by
    rw [hs] at e2
    exact e2
  have e5 : U.heap[q]? = some c9 := e1
  rw [e5, h9, Array.getElem?_eq_getElem hq]
/-- the words of a throw but the four that speak of the heap -/
def vx_no (w : Cond) : Bool := decide (w ≠ .isRef (.static Bundle.tN "UNASSIGNED_STACK" Bundle.steD)) && decide (w ≠ .isRef (.static Bundle.tN "SUPPRESSED_SENTINEL" Bundle.listD)) && decide (w ≠ .laysStatic Bundle.tN "UNASSIGNED_STACK" Bundle.steD) && decide (w ≠ .laysStatic Bundle.tN "SUPPRESSED_SENTINEL" Bundle.listD)
def vx_at0 (own : String) (ic : Nat) (X : String) (names : List String) : List Cond := (Bundle.ownAtoms0 own ic X names).filter vx_no
def vx_atS (own : String) (ic : Nat) (X : String) (names : List String) : List Cond := (Bundle.ownAtoms own ic X names).filter vx_no
/-- a word that the tables alone decide, or a good one -/
def vx_ot (w : Cond) : Bool := w.onTables || goodWord w
theorem vx_ot_at {args a' : Array Value} {s U : State} {w : Cond} (hW : s.WarmedH U.vm) (hvm : s.vm = U.vm) (hg : vx_ot w = true) (h : w.before args s = true) : w.before a' U = true := by
  simp only [vx_ot, Bool.or_eq_true] at hg
  rcases hg with hg | hg
  · exact va_tabs hg hvm h
  · exact word_at hW (good_of_word hg) h
/-- a list's words: the good ones out of the method's own list, the others by premises of their own -/
theorem vx_hat {args : Array Value} {s : State} {L B : List Cond} (h1 : ∀ w ∈ L.filter goodWord, w.before args s = true) (h2 : ∀ w ∈ L.filter (fun w => !goodWord w), w ∈ B) (h3 : ∀ w ∈ B, w.before args s = true) : ∀ w ∈ L, w.before args s = true := by
  intro w hw
  by_cases g : goodWord w = true
  · exact h1 w (List.mem_filter.mpr ⟨hw, g⟩)
  · refine h3 w (h2 w (List.mem_filter.mpr ⟨hw, ?_⟩))
    show (!goodWord w) = true
    cases hgw : goodWord w
    · rfl
    · exact absurd hgw g
theorem vx_c {args : Array Value} {s : State} {w : Cond} {B : List Cond} (h : w.before args s = true) (t : ∀ w ∈ B, w.before args s = true) : ∀ w' ∈ w :: B, w'.before args s = true := fun w' h' => (List.mem_cons.mp h').elim (fun e => by rw [e]; exact h) (t w')
theorem vx_n {args : Array Value} {s : State} : ∀ w ∈ ([] : List Cond), w.before args s = true := fun _ h => nomatch h
theorem vx_own {args : Array Value} {s : State} {L : List Cond} (h1 : ∀ w ∈ L.filter vx_no, w.before args s = true)
    (hU : (Cond.isRef (.static Bundle.tN "UNASSIGNED_STACK" Bundle.steD)).before args s = true) (hN : (Cond.isRef (.static Bundle.tN "SUPPRESSED_SENTINEL" Bundle.listD)).before args s = true)
    (lU : (Cond.laysStatic Bundle.tN "UNASSIGNED_STACK" Bundle.steD).before args s = true) (lN : (Cond.laysStatic Bundle.tN "SUPPRESSED_SENTINEL" Bundle.listD).before args s = true) : ∀ w ∈ L, w.before args s = true := by
  intro w hw
  by_cases e1 : w = .isRef (.static Bundle.tN "UNASSIGNED_STACK" Bundle.steD)
  · rw [e1]; exact hU
  · by_cases e2 : w = .isRef (.static Bundle.tN "SUPPRESSED_SENTINEL" Bundle.listD)
    · rw [e2]; exact hN
    · by_cases e3 : w = .laysStatic Bundle.tN "UNASSIGNED_STACK" Bundle.steD
      · rw [e3]; exact lU
      · by_cases e4 : w = .laysStatic Bundle.tN "SUPPRESSED_SENTINEL" Bundle.listD
        · rw [e4]; exact lN
        · exact h1 w (List.mem_filter.mpr ⟨hw, by unfold vx_no; rw [decide_eq_true e1, decide_eq_true e2, decide_eq_true e3, decide_eq_true e4]; rfl⟩)
/-- where a static field lies, its class's statics cell in H -/
def vx_L (C n d : String) (A : Nat → Prop) (U : State) (H : Heap) : Prop := ∃ (c : ClassId) (k : Class) (i : Nat) (f : Field) (a : Nat) (cell : Cell), U.vm.findClass C = some c ∧ U.fieldFound? C n d = some (c, k, i, f) ∧ f.isStatic = true ∧ k.statics = some a ∧ H[a]? = some cell ∧ cell.vm.isStatics = true ∧ cell.cls = c ∧ f.slot < cell.slots.size ∧ k.staticTypes[f.slot]? = some f.type ∧ ¬ A a
theorem vx_L.moved {C n d : String} {A : Nat → Prop} {u U : State} {H : Heap} (hvm : u.vm.Alike U.vm) (h : vx_L C n d A u H) : vx_L C n d A U H := by
  obtain ⟨c, k, i, f, a, cell, h1, h2, h3, h4, h5, h6, h7, h8, h9, h10⟩ := h
  obtain ⟨k', hi', he⟩ := State.fieldFound?_setVm hvm h2
  exact ⟨c, k', i, f, a, cell, by rw [hvm.findClass]; exact h1, hi', h3, by rw [he]; exact h4, h5, h6, h7, h8, by rw [he]; exact h9, h10⟩
theorem vx_L.kept {C n d : String} {A : Nat → Prop} {U : State} {H H1 : Heap} (h : vx_L C n d A U H) (hq : ∀ a : Nat, a < H.size → ¬ A a → H1[a]? = H[a]?) : vx_L C n d A U H1 := by
  obtain ⟨c, k, i, f, a, cell, h1, h2, h3, h4, h5, h6, h7, h8, h9, h10⟩ := h
  exact ⟨c, k, i, f, a, cell, h1, h2, h3, h4, by rw [hq a (Array.getElem?_eq_some_iff.mp h5).1 h10]; exact h5, h6, h7, h8, h9, h10⟩
theorem vx_L.narrow {C n d : String} {A B : Nat → Prop} {U : State} {H : Heap} (h : vx_L C n d A U H) (hAB : ∀ q, B q → A q) : vx_L C n d B U H := by
  obtain ⟨c, k, i, f, a, cell, h1, h2, h3, h4, h5, h6, h7, h8, h9, h10⟩ := h
  exact ⟨c, k, i, f, a, cell, h1, h2, h3, h4, h5, h6, h7, h8, h9, fun z => h10 (hAB _ z)⟩
theorem vx_L.word {C n d : String} {A : Nat → Prop} {s : State} {args : Array Value} (h : vx_L C n d A s s.heap) : (Cond.laysStatic C n d).before args s = true := by
  obtain ⟨c, k, i, f, a, cell, h1, h2, h3, h4, h5, h6, h7, h8, h9, -⟩ := h
  show (Cond.laysStatic C n d).holds args s none s [] = true
  exact Cond.laysStatic_of h1 h2 h3 h4 h5 h6 h7 h8 h9
/-- .. and what it holds: null or some reference -/
def vx_Zq (C n d : String) (A : Nat → Prop) (U : State) (H : Heap) : Prop := va_Zq C n d A U H ∧ vx_L C n d A U H
theorem vx_Zq.moved {C n d : String} {A : Nat → Prop} {u U : State} {H : Heap} (hvm : u.vm.Alike U.vm) (h : vx_Zq C n d A u H) : vx_Zq C n d A U H := ⟨va_Zq.moved hvm h.1, vx_L.moved hvm h.2⟩
theorem vx_Zq.kept {C n d : String} {A : Nat → Prop} {U : State} {H H1 : Heap} (h : vx_Zq C n d A U H) (hq : ∀ a : Nat, a < H.size → ¬ A a → H1[a]? = H[a]?) : vx_Zq C n d A U H1 := ⟨va_Zq.kept h.1 hq, vx_L.kept h.2 hq⟩
theorem vx_Zq.narrow {C n d : String} {A B : Nat → Prop} {U : State} {H : Heap} (h : vx_Zq C n d A U H) (hAB : ∀ q, B q → A q) : vx_Zq C n d B U H := ⟨va_Zq.narrow h.1 hAB, vx_L.narrow h.2 hAB⟩
theorem vx_Zqof {args : Array Value} {s : State} {C n d : String} {A : Nat → Prop} (hl : (Cond.laysStatic C n d).before args s = true) (hini : (Cond.initialized C).before args s = true) (h : (Cond.isRef (.static C n d)).before args s = true) (hA : ∀ a : Nat, a < s.heap.size → ¬ A a) : vx_Zq C n d A s s.heap := by
  refine ⟨va_Zqof hl hini h hA, ?_⟩
  obtain ⟨c, k, i, f, a, cell, h1, h2, h3, h4, h5, h6, h7, h8, h9⟩ := Cond.laysStatic_spec hl
  exact ⟨c, k, i, f, a, cell, h1, h2, h3, h4, h5, h6, h7, h8, h9, hA a (Array.getElem?_eq_some_iff.mp h5).1⟩
theorem vx_isRef {C n d : String} {v : Value} {A : Nat → Prop} {s : State} {args : Array Value} (h : va_Z C n d v A s s.heap) (hv : v.isRef = true) : (Cond.isRef (.static C n d)).before args s = true := by
  obtain ⟨cf, kf, fi, f, a, cell, h1, h2, h3, h4, h5, h6, h7, -⟩ := h
  have he : (Term.static C n d).eval args s none [] s = some v := by
    simp [Term.eval, State.fieldNamed?, h1, h2, h4, h5, h6, h7]
  simp only [Cond.before, Cond.holds, Cond.value, he]
  cases v <;> simp_all [Value.isRef]
theorem vx_isRefq {C n d : String} {A : Nat → Prop} {s : State} {args : Array Value} (h : va_Zq C n d A s s.heap) : (Cond.isRef (.static C n d)).before args s = true := by
  rcases h with h | ⟨t, h⟩
  · exact vx_isRef h rfl
  · exact vx_isRef h rfl
/-- the same frame, seen from here: as if the method were called anew in this heap -/
theorem vx_rebase {T : State} (X : Stand p l e R s m args below meth c T locs cells slots) {R' : Room} (hf : R'.frames ≤ R.frames) (hl : R'.locals ≤ R.locals) (hc : cells + R'.cells ≤ R.cells) (hs : slots + R'.slots ≤ R.slots) :
    Stand p l e R' ((T.setVm s.vm).setFrames (.invoking m args :: below)) m args below meth c T [] 0 0 := by
  have htop : (T.setVm s.vm).topJava?.isSome := X.here.top
  have hF : ((T.setVm s.vm).setFrames (.invoking m args :: below)).frames = .invoking m args :: below := State.frames_setFrames _ (State.cur_lt_of_top htop)
  obtain ⟨g₀, hg0⟩ := Option.isSome_iff_exists.mp htop
  obtain ⟨r, hr⟩ := State.topJava?_eq_some.mp hg0
  have hl9 : e.platform.stackLimits (T.setVm s.vm).me = e.platform.stackLimits s.me := X.limits
  have hb9 : (T.setVm s.vm).me.stackBytes = s.me.stackBytes := X.bytes
  refine ⟨X.admits, X.cas, X.clock, hF, ?_, X.hears, X.method, X.code, X.here, X.tail, X.warmed, ?_, ?_, ?_⟩
  · have h := X.room
    have hU : ((T.setVm s.vm).setFrames (.invoking m args :: below)).localsInUse = s.localsInUse := by
      rw [State.localsInUse_invoking hF (meth := meth) (c := c) X.method X.code, State.localsInUse_invoking X.frames X.method X.code]
    simp only [State.hasRoom, Bool.and_eq_true, decide_eq_true_eq] at h ⊢
    obtain ⟨⟨⟨⟨h1, h2, h3, h4, h5, h6⟩, h7⟩, h8⟩, h9⟩ := h
    rw [X.frames, List.length_cons] at h2 h3
    have q1 := X.heapSize
    have q2 := X.used
    simp only [hF, hU, List.length_cons, State.stackLimits_setFrames, State.stackBytes_setFrames, hl9, hb9]
    refine ⟨⟨⟨⟨by omega, by omega, by omega, by omega, by omega, h6⟩, ?_⟩, ?_⟩, X.book⟩
    · show T.heap.size + R'.cells ≤ e.platform.maxCells
      omega
    · show T.slotsUsed + R'.slots ≤ e.platform.maxSlots
      omega
  · rw [State.stackLimits_setFrames]; rfl
  · rw [State.stackBytes_setFrames]; rfl
  · refine ⟨?_, Nat.le_refl _, Nat.le_refl _, ?_, ?_, fun a c9 h9 => ⟨c9, h9, rfl, rfl, fun _ _ => rfl⟩⟩
    · obtain ⟨t, ht, -⟩ := State.frames_cons hr
      show T.setVm s.vm = { ((T.setVm s.vm).setFrames (.invoking m args :: below)).setFrames (T.setVm s.vm).frames with heap := T.heap, slotsUsed := T.slotsUsed }
      rw [State.setFrames_setFrames, State.setFrames_self ht]
      rfl
    · show T.slotsUsed = T.slotsUsed + ((T.heap.toList.drop T.heap.size).map (·.slots.size)).sum
      rw [List.drop_eq_nil_of_le (Nat.le_of_eq Array.length_toList)]
      rfl
    · show ((T.heap.toList.drop T.heap.size).map (·.slots.size)).sum ≤ 0
      rw [List.drop_eq_nil_of_le (Nat.le_of_eq Array.length_toList)]
      exact Nat.le_refl _
/-- 'throw new E()': new; dup; invokespecial; athrow -/
theorem vx_throw0 {cc : ByteArray} {pc : Nat} (hexec : p.tables.exec = Jvm.exec) (hb : c.code = cc) (hl : l.stackTraces = false) {own cls : String} {names : List String} {ik ic mc ms : Nat} {A : Nat → Prop}
    (hown : s.vm.findClass own = some m.cls) (hcls : Bundle.fit cls = true) (hnames : ∀ n ∈ names, Bundle.fit n = true)
    (hk : (Cond.classLink own ik cls).before args s = true) (hini : (Cond.initialized cls).before args s = true) (hat : ∀ w ∈ vx_at0 own ic cls names, w.before args s = true)
    (hgood : ∀ w ∈ Cond.classLink own ik cls :: Cond.initialized cls :: vx_at0 own ic cls names, vx_ot w = true)
    (hU : vx_Zq Bundle.tN "UNASSIGNED_STACK" Bundle.steD A s s.heap) (hN : vx_Zq Bundle.tN "SUPPRESSED_SENTINEL" Bundle.listD A s s.heap) (hS : va_S A s.heap H locs) (hsize : ls.size = c.maxLocals)
    (d0 : decode cc pc = .ok (.new ik, 3)) (d3 : decode cc (pc + 3) = .ok (.dup, 1)) (d4 : decode cc (pc + 4) = .ok (.invokespecial ic, 3)) (d7 : decode cc (pc + 7) = .ok (.athrow, 1))
    (hout : ∀ x ∈ c.exceptionTable.toList, covers x (pc + 7) = false)
    (hRframes : names.length + 3 < R.frames) (hRlocals : (rest.map fun v => v.category).sum + (13 * (names.length + 1) + 42) ≤ R.locals) (hRcells : cells + 1 ≤ R.cells) (hRslots : slots + 6 ≤ R.slots) (hlocks : meth.locks = false)
    (hx : ∀ t : State, s.vm.Alike t.vm → H.size ≤ t.heap.size → (∀ q : Nat, q < H.size → t.heap[q]? = H[q]?) → XC cls s t)
    (hf : ∀ z ∈ locs, free z.base) (hc : cells + 1 ≤ mc) (hs : slots + 6 ≤ ms) :
    W p l e R s m args below meth c H locs cells slots (vx_MQ below Qc XC args s mc ms free) (F0 m pc ls rest) := by
  intro T hT X
  have htr : e.platform.stackTraces = false := (show e.platform.stackTraces = l.stackTraces by rw [X.admits.platform]).trans hl
  have Y := vx_rebase X (R' := { frames := R.frames, locals := R.locals, cells := 1, slots := 6 }) (Nat.le_refl _) (Nat.le_refl _) hRcells hRslots
  obtain ⟨s', hA⟩ : ∃ z, z = (T.setVm s.vm).setFrames (.invoking m args :: below) := ⟨_, rfl⟩
  rw [← hA] at Y
  have hvm : s'.vm = s.vm := by rw [hA]; rfl
  have hhp : s'.heap = H := by rw [hA]; exact hT
  have hW0 : s.WarmedH s'.vm := by rw [hvm]; exact State.WarmedH.refl s
  have hat' : ∀ w ∈ vx_at0 own ic cls names, w.before args s' = true := fun w hw => vx_ot_at hW0 hvm.symm (hgood w (List.mem_cons_of_mem _ (List.mem_cons_of_mem _ hw))) (hat w hw)
  have hk' : (Cond.classLink own ik cls).before args s' = true := vx_ot_at hW0 hvm.symm (hgood _ List.mem_cons_self) hk
  have hini' : (Cond.initialized cls).before args s' = true := vx_ot_at hW0 hvm.symm (hgood _ (List.mem_cons_of_mem _ List.mem_cons_self)) hini
  have hU' : vx_Zq Bundle.tN "UNASSIGNED_STACK" Bundle.steD A s' s'.heap := by rw [hhp]; exact vx_Zq.moved hW0.alike (hU.kept hS.2.1)
  have hN' : vx_Zq Bundle.tN "SUPPRESSED_SENTINEL" Bundle.listD A s' s'.heap := by rw [hhp]; exact vx_Zq.moved hW0.alike (hN.kept hS.2.1)
  have h : ∀ w ∈ Bundle.ownAtoms0 own ic cls names, w.before args s' = true := vx_own hat' (vx_isRefq hU'.1) (vx_isRefq hN'.1) hU'.2.word hN'.2.word
  have hown' : s'.vm.findClass own = some m.cls := by rw [hvm]; exact hown
  have hins : (Cond.instantiable cls 6).before args s' = true := h _ (by simp [Bundle.ownAtoms0])
  obtain ⟨vm₁, cX, kX, hfX, hkX, -, -, X₁, st1⟩ := Y.newCold hexec (own := own) (C := cls) (index := ik) (n := 6) hown' hk' hins hini'
    (g := F0 m pc ls rest) rfl (by rw [hb]; exact d0) (Nat.le_refl _) (Nat.le_refl _)
  generalize hT1 : (T.setVm vm₁).pushCell { cls := cX, slots := kX.instanceTypes.map defaultValue, vm := .none } = T1 at X₁ st1
  have hcat : (Value.ref T.heap.size).category = 1 := rfl
  have hcellA : T1.heap[T.heap.size]? = some (freshCell cX kX) := by rw [← hT1]; exact State.heap_pushCell_size _ _
  have d3' : decode c.code (pc + 3) = .ok (.dup, 1) := by rw [hb]; exact d3
  obtain ⟨U, hsteps, hrun, hend, hW, hsame, ce, hce, hO⟩ := X₁.ctorThrow0 hexec htr (own := own) (cls := cls) (names := names) (ic := ic) hown' hcls hnames h (fun x hx => nomatch hx) hfX hkX hcellA (by rw [hhp, hT]; exact Nat.le_refl _)
    (g := { method := m, pc := pc + 4, locals := ls, stack := .ref T.heap.size :: .ref T.heap.size :: rest, locked := none }) rfl hsize rfl rfl (rest := rest) rfl
    (by rw [hb]; exact d4) (by rw [hb]; exact d7) hout hRframes (by simp only [List.map_cons, List.sum_cons, hcat]; omega) hlocks
  obtain ⟨f1, f2⟩ := vx_frame hsame
  rw [hhp] at f1 f2
  have hWs : s.WarmedH U.vm := State.WarmedH.trans hW0 hW
  have hcl : s.vm.findClass cls = some ce.cls := by
    have h9 := hO.cls
    rw [hvm] at h9
    exact h9
  have hall : s.sameButNew ({ U with vm := s.vm } : State) locs mc ms := by
    subst hA
    obtain ⟨e1, e2⟩ := hsame
    rw [State.setFrames_setFrames] at e1
    have h2 : (T.setVm s.vm).sameButNew ({ U with vm := s.vm } : State) [] (0 + 1) (0 + 6) := ⟨e1, e2⟩
    have h3 := X.same.trans h2
    rw [List.append_nil] at h3
    exact h3.mono hc hs
  refine ⟨U, ?_, .threw T.heap.size, hrun, hend, Or.inr ⟨T.heap.size, rfl, cls, ce, locs, hx U hWs.alike f1 (fun q hq => f2 q hq (fun z hz => nomatch hz)), hce, hO.vm, hcl, hWs, hall, hf⟩⟩
  refine st1 _ ?_
  show Steps p.tables e below (T1.setTop { method := m, pc := pc + 3, locals := ls, stack := .ref T.heap.size :: rest, locked := none }) _
  jvm_step X₁.here [X₁.here.top, hexec, d3', Value.category]
  exact hsteps
/-- 'throw new E("text")': new; dup; ldc; invokespecial; athrow -/
theorem vx_throwS {cc : ByteArray} {pc : Nat} (hexec : p.tables.exec = Jvm.exec) (hb : c.code = cc) (hl : l.stackTraces = false) {own cls text : String} {names : List String} {ik is ic mc ms sa : Nat} {A : Nat → Prop}
    (hown : s.vm.findClass own = some m.cls) (hcls : Bundle.fit cls = true) (hnames : ∀ n ∈ names, Bundle.fit n = true)
    (hk : (Cond.classLink own ik cls).before args s = true) (hini : (Cond.initialized cls).before args s = true) (hstr : vk_R own is text sa s) (hat : ∀ w ∈ vx_atS own ic cls names, w.before args s = true)
    (hgood : ∀ w ∈ Cond.classLink own ik cls :: Cond.initialized cls :: vx_atS own ic cls names, vx_ot w = true)
    (hU : vx_Zq Bundle.tN "UNASSIGNED_STACK" Bundle.steD A s s.heap) (hN : vx_Zq Bundle.tN "SUPPRESSED_SENTINEL" Bundle.listD A s s.heap) (hS : va_S A s.heap H locs) (hsize : ls.size = c.maxLocals)
    (d0 : decode cc pc = .ok (.new ik, 3)) (d3 : decode cc (pc + 3) = .ok (.dup, 1)) (d4 : decode cc (pc + 4) = .ok (.ldc is, 2)) (d6 : decode cc (pc + 6) = .ok (.invokespecial ic, 3)) (d9 : decode cc (pc + 9) = .ok (.athrow, 1))
    (hout : ∀ x ∈ c.exceptionTable.toList, covers x (pc + 9) = false)
    (hRframes : names.length + 3 < R.frames) (hRlocals : (rest.map fun v => v.category).sum + (13 * (names.length + 1) + 43) ≤ R.locals) (hRcells : cells + 1 ≤ R.cells) (hRslots : slots + 6 ≤ R.slots) (hlocks : meth.locks = false)
    (hx : ∀ t : State, s.vm.Alike t.vm → H.size ≤ t.heap.size → (∀ q : Nat, q < H.size → t.heap[q]? = H[q]?) → XC cls s t)
    (hf : ∀ z ∈ locs, free z.base) (hc : cells + 1 ≤ mc) (hs : slots + 6 ≤ ms) :
    W p l e R s m args below meth c H locs cells slots (vx_MQ below Qc XC args s mc ms free) (F0 m pc ls rest) := by
  intro T hT X
  have htr : e.platform.stackTraces = false := (show e.platform.stackTraces = l.stackTraces by rw [X.admits.platform]).trans hl
  have Y := vx_rebase X (R' := { frames := R.frames, locals := R.locals, cells := 1, slots := 6 }) (Nat.le_refl _) (Nat.le_refl _) hRcells hRslots
  obtain ⟨s', hA⟩ : ∃ z, z = (T.setVm s.vm).setFrames (.invoking m args :: below) := ⟨_, rfl⟩
  rw [← hA] at Y
  have hvm : s'.vm = s.vm := by rw [hA]; rfl
  have hhp : s'.heap = H := by rw [hA]; exact hT
  have hW0 : s.WarmedH s'.vm := by rw [hvm]; exact State.WarmedH.refl s
  have hat' : ∀ w ∈ vx_atS own ic cls names, w.before args s' = true := fun w hw => vx_ot_at hW0 hvm.symm (hgood w (List.mem_cons_of_mem _ (List.mem_cons_of_mem _ hw))) (hat w hw)
  have hk' : (Cond.classLink own ik cls).before args s' = true := vx_ot_at hW0 hvm.symm (hgood _ List.mem_cons_self) hk
  have hini' : (Cond.initialized cls).before args s' = true := vx_ot_at hW0 hvm.symm (hgood _ (List.mem_cons_of_mem _ List.mem_cons_self)) hini
  have hU' : vx_Zq Bundle.tN "UNASSIGNED_STACK" Bundle.steD A s' s'.heap := by rw [hhp]; exact vx_Zq.moved hW0.alike (hU.kept hS.2.1)
  have hN' : vx_Zq Bundle.tN "SUPPRESSED_SENTINEL" Bundle.listD A s' s'.heap := by rw [hhp]; exact vx_Zq.moved hW0.alike (hN.kept hS.2.1)
  have h : ∀ w ∈ Bundle.ownAtoms own ic cls names, w.before args s' = true := vx_own hat' (vx_isRefq hU'.1) (vx_isRefq hN'.1) hU'.2.word hN'.2.word
  have hown' : s'.vm.findClass own = some m.cls := by rw [hvm]; exact hown
  have hins : (Cond.instantiable cls 6).before args s' = true := h _ (by simp [Bundle.ownAtoms])
  obtain ⟨vm₁, cX, kX, hfX, hkX, -, -, X₁, st1⟩ := Y.newCold hexec (own := own) (C := cls) (index := ik) (n := 6) hown' hk' hins hini'
    (g := F0 m pc ls rest) rfl (by rw [hb]; exact d0) (Nat.le_refl _) (Nat.le_refl _)
  generalize hT1 : (T.setVm vm₁).pushCell { cls := cX, slots := kX.instanceTypes.map defaultValue, vm := .none } = T1 at X₁ st1
  have hcat : (Value.ref T.heap.size).category = 1 := rfl
  have hcellA : T1.heap[T.heap.size]? = some (freshCell cX kX) := by rw [← hT1]; exact State.heap_pushCell_size _ _
  have d3' : decode c.code (pc + 3) = .ok (.dup, 1) := by rw [hb]; exact d3
  have d4' : decode c.code (pc + 4) = .ok (.ldc is, 2) := by rw [hb]; exact d4
  have hstr' : vk_R own is text sa s' := vk_R.warm hW0 hstr
  obtain ⟨U, hsteps, hrun, hend, hW, hsame, ce, hce, hO⟩ := X₁.ctorThrowS hexec htr (own := own) (cls := cls) (names := names) (ic := ic) hown' hcls hnames h (fun x hx => nomatch hx) hfX hkX hcellA (by rw [hhp, hT]; exact Nat.le_refl _) (msg := .ref sa) rfl
    (g := { method := m, pc := pc + 6, locals := ls, stack := .ref sa :: .ref T.heap.size :: .ref T.heap.size :: rest, locked := none }) rfl hsize rfl rfl (rest := rest) rfl
    (by rw [hb]; exact d6) (by rw [hb]; exact d9) hout hRframes (by simp only [List.map_cons, List.sum_cons, hcat]; omega) hlocks
  obtain ⟨f1, f2⟩ := vx_frame hsame
  rw [hhp] at f1 f2
  have hWs : s.WarmedH U.vm := State.WarmedH.trans hW0 hW
  have hcl : s.vm.findClass cls = some ce.cls := by
    have h9 := hO.cls
    rw [hvm] at h9
    exact h9
  have hall : s.sameButNew ({ U with vm := s.vm } : State) locs mc ms := by
    subst hA
    obtain ⟨e1, e2⟩ := hsame
    rw [State.setFrames_setFrames] at e1
    have h2 : (T.setVm s.vm).sameButNew ({ U with vm := s.vm } : State) [] (0 + 1) (0 + 6) := ⟨e1, e2⟩
    have h3 := X.same.trans h2
    rw [List.append_nil] at h3
    exact h3.mono hc hs
  refine ⟨U, ?_, .threw T.heap.size, hrun, hend, Or.inr ⟨T.heap.size, rfl, cls, ce, locs, hx U hWs.alike f1 (fun q hq => f2 q hq (fun z hz => nomatch hz)), hce, hO.vm, hcl, hWs, hall, hf⟩⟩
  refine st1 _ ?_
  show Steps p.tables e below (T1.setTop { method := m, pc := pc + 3, locals := ls, stack := .ref T.heap.size :: rest, locked := none }) _
  jvm_step X₁.here [X₁.here.top, hexec, d3', Value.category]
  exact X₁.ldcString hexec (own := own) (text := text) (index := is) (a := sa) hown' hstr'.1 hstr'.2
    (g := { method := m, pc := pc + 4, locals := ls, stack := .ref T.heap.size :: .ref T.heap.size :: rest, locked := none }) rfl d4' _ hsteps
/-- 'throw new E("text")', the text by a wide index -/
theorem vx_throwSW {cc : ByteArray} {pc : Nat} (hexec : p.tables.exec = Jvm.exec) (hb : c.code = cc) (hl : l.stackTraces = false) {own cls text : String} {names : List String} {ik is ic mc ms sa : Nat} {A : Nat → Prop}
    (hown : s.vm.findClass own = some m.cls) (hcls : Bundle.fit cls = true) (hnames : ∀ n ∈ names, Bundle.fit n = true)
    (hk : (Cond.classLink own ik cls).before args s = true) (hini : (Cond.initialized cls).before args s = true) (hstr : vk_R own is text sa s) (hat : ∀ w ∈ vx_atS own ic cls names, w.before args s = true)
    (hgood : ∀ w ∈ Cond.classLink own ik cls :: Cond.initialized cls :: vx_atS own ic cls names, vx_ot w = true)
    (hU : vx_Zq Bundle.tN "UNASSIGNED_STACK" Bundle.steD A s s.heap) (hN : vx_Zq Bundle.tN "SUPPRESSED_SENTINEL" Bundle.listD A s s.heap) (hS : va_S A s.heap H locs) (hsize : ls.size = c.maxLocals)
    (d0 : decode cc pc = .ok (.new ik, 3)) (d3 : decode cc (pc + 3) = .ok (.dup, 1)) (d4 : decode cc (pc + 4) = .ok (.ldc_w is, 3)) (d7 : decode cc (pc + 7) = .ok (.invokespecial ic, 3)) (d10 : decode cc (pc + 10) = .ok (.athrow, 1))
    (hout : ∀ x ∈ c.exceptionTable.toList, covers x (pc + 10) = false)
    (hRframes : names.length + 3 < R.frames) (hRlocals : (rest.map fun v => v.category).sum + (13 * (names.length + 1) + 43) ≤ R.locals) (hRcells : cells + 1 ≤ R.cells) (hRslots : slots + 6 ≤ R.slots) (hlocks : meth.locks = false)
    (hx : ∀ t : State, s.vm.Alike t.vm → H.size ≤ t.heap.size → (∀ q : Nat, q < H.size → t.heap[q]? = H[q]?) → XC cls s t)
    (hf : ∀ z ∈ locs, free z.base) (hc : cells + 1 ≤ mc) (hs : slots + 6 ≤ ms) :
    W p l e R s m args below meth c H locs cells slots (vx_MQ below Qc XC args s mc ms free) (F0 m pc ls rest) := by
  intro T hT X
  have htr : e.platform.stackTraces = false := (show e.platform.stackTraces = l.stackTraces by rw [X.admits.platform]).trans hl
  have Y := vx_rebase X (R' := { frames := R.frames, locals := R.locals, cells := 1, slots := 6 }) (Nat.le_refl _) (Nat.le_refl _) hRcells hRslots
  obtain ⟨s', hA⟩ : ∃ z, z = (T.setVm s.vm).setFrames (.invoking m args :: below) := ⟨_, rfl⟩
  rw [← hA] at Y
  have hvm : s'.vm = s.vm := by rw [hA]; rfl
  have hhp : s'.heap = H := by rw [hA]; exact hT
  have hW0 : s.WarmedH s'.vm := by rw [hvm]; exact State.WarmedH.refl s
  have hat' : ∀ w ∈ vx_atS own ic cls names, w.before args s' = true := fun w hw => vx_ot_at hW0 hvm.symm (hgood w (List.mem_cons_of_mem _ (List.mem_cons_of_mem _ hw))) (hat w hw)
  have hk' : (Cond.classLink own ik cls).before args s' = true := vx_ot_at hW0 hvm.symm (hgood _ List.mem_cons_self) hk
  have hini' : (Cond.initialized cls).before args s' = true := vx_ot_at hW0 hvm.symm (hgood _ (List.mem_cons_of_mem _ List.mem_cons_self)) hini
  have hU' : vx_Zq Bundle.tN "UNASSIGNED_STACK" Bundle.steD A s' s'.heap := by rw [hhp]; exact vx_Zq.moved hW0.alike (hU.kept hS.2.1)
  have hN' : vx_Zq Bundle.tN "SUPPRESSED_SENTINEL" Bundle.listD A s' s'.heap := by rw [hhp]; exact vx_Zq.moved hW0.alike (hN.kept hS.2.1)
  have h : ∀ w ∈ Bundle.ownAtoms own ic cls names, w.before args s' = true := vx_own hat' (vx_isRefq hU'.1) (vx_isRefq hN'.1) hU'.2.word hN'.2.word
  have hown' : s'.vm.findClass own = some m.cls := by rw [hvm]; exact hown
  have hins : (Cond.instantiable cls 6).before args s' = true := h _ (by simp [Bundle.ownAtoms])
  obtain ⟨vm₁, cX, kX, hfX, hkX, -, -, X₁, st1⟩ := Y.newCold hexec (own := own) (C := cls) (index := ik) (n := 6) hown' hk' hins hini'
    (g := F0 m pc ls rest) rfl (by rw [hb]; exact d0) (Nat.le_refl _) (Nat.le_refl _)
  generalize hT1 : (T.setVm vm₁).pushCell { cls := cX, slots := kX.instanceTypes.map defaultValue, vm := .none } = T1 at X₁ st1
  have hcat : (Value.ref T.heap.size).category = 1 := rfl
  have hcellA : T1.heap[T.heap.size]? = some (freshCell cX kX) := by rw [← hT1]; exact State.heap_pushCell_size _ _
  have d3' : decode c.code (pc + 3) = .ok (.dup, 1) := by rw [hb]; exact d3
  have d4' : decode c.code (pc + 4) = .ok (.ldc_w is, 3) := by rw [hb]; exact d4
  have hstr' : vk_R own is text sa s' := vk_R.warm hW0 hstr
  obtain ⟨U, hsteps, hrun, hend, hW, hsame, ce, hce, hO⟩ := X₁.ctorThrowS hexec htr (own := own) (cls := cls) (names := names) (ic := ic) hown' hcls hnames h (fun x hx => nomatch hx) hfX hkX hcellA (by rw [hhp, hT]; exact Nat.le_refl _) (msg := .ref sa) rfl
    (g := { method := m, pc := pc + 7, locals := ls, stack := .ref sa :: .ref T.heap.size :: .ref T.heap.size :: rest, locked := none }) rfl hsize rfl rfl (rest := rest) rfl
    (by rw [hb]; exact d7) (by rw [hb]; exact d10) hout hRframes (by simp only [List.map_cons, List.sum_cons, hcat]; omega) hlocks
  obtain ⟨f1, f2⟩ := vx_frame hsame
  rw [hhp] at f1 f2
  have hWs : s.WarmedH U.vm := State.WarmedH.trans hW0 hW
  have hcl : s.vm.findClass cls = some ce.cls := by
    have h9 := hO.cls
    rw [hvm] at h9
    exact h9
  have hall : s.sameButNew ({ U with vm := s.vm } : State) locs mc ms := by
    subst hA
    obtain ⟨e1, e2⟩ := hsame
    rw [State.setFrames_setFrames] at e1
    have h2 : (T.setVm s.vm).sameButNew ({ U with vm := s.vm } : State) [] (0 + 1) (0 + 6) := ⟨e1, e2⟩
    have h3 := X.same.trans h2
    rw [List.append_nil] at h3
    exact h3.mono hc hs
  refine ⟨U, ?_, .threw T.heap.size, hrun, hend, Or.inr ⟨T.heap.size, rfl, cls, ce, locs, hx U hWs.alike f1 (fun q hq => f2 q hq (fun z hz => nomatch hz)), hce, hO.vm, hcl, hWs, hall, hf⟩⟩
  refine st1 _ ?_
  show Steps p.tables e below (T1.setTop { method := m, pc := pc + 3, locals := ls, stack := .ref T.heap.size :: rest, locked := none }) _
  jvm_step X₁.here [X₁.here.top, hexec, d3', Value.category]
  exact X₁.ldcStringW hexec (own := own) (text := text) (index := is) (a := sa) hown' hstr'.1 hstr'.2
    (g := { method := m, pc := pc + 4, locals := ls, stack := .ref T.heap.size :: .ref T.heap.size :: rest, locked := none }) rfl d4' _ hsteps
end Ends
section Bodies
variable {l : Launch}
theorem vx_ofW {y : MethodName} {ws ws' : List Cond} {rm : Room} {Pc : Array Value → State → Prop} {Qc : Array Value → State → Outcome → State → Prop} {XC : String → State → State → Prop} {mc ms : Nat} {free : Addr → Prop} {cc : ByteArray} {maxL : Nat} {ret : Option FieldType}
    (hy : plainName y.cls = true) (hw : ws = Cond.code y cc maxL ret :: ws')
    (body : ∀ p e s m args below meth c s₁, BodyLoose p l y (headSpec ws rm) cc maxL ret e s m args below meth c s₁ → c.maxLocals = maxL → (∀ x ∈ c.exceptionTable.toList, False) → Pc args s →
      W p l e (headSpec ws rm).room s m args below meth c s.heap [] 0 0 (vx_MQ below Qc XC args s mc ms free) (entryFrame m args maxL)) : vx_Met l y ws rm Pc Qc XC mc ms free := by
  refine MetFree.of_bodyS (code := cc) (maxLocals := maxL) (ret := ret) hy ?_ ?_
  · intro args s m h hn
    obtain ⟨meth, c, h1, h2, h3, h4, h5, h6, -, -⟩ := Cond.code_spec hn (atoms_spec (ws := ws) h _ (by rw [hw]; exact List.mem_cons_self))
    exact ⟨meth, c, h1, h2, h3, h4, h5, h6⟩
  · intro p e s m args below meth c s₁ B hml hP _
    have hh0 : s₁.heap = s.heap := by rw [B.state]; rfl
    have ht : ∀ x ∈ c.exceptionTable.toList, False := by
      obtain ⟨meth9, c9, h1, h2, -, -, -, -, h7, -⟩ := Cond.code_spec B.named (atoms_spec (ws := ws) B.pre _ (by rw [hw]; exact List.mem_cons_self))
      cases Option.some.inj (h1.symm.trans B.method)
      cases Option.some.inj (h2.symm.trans (Stand.of_body B).code)
      intro x hx
      rw [Array.isEmpty_iff.mp h7] at hx
      cases hx
    obtain ⟨t, a1, o, b1, b2, b3⟩ := body p e s m args below meth c s₁ B hml ht hP s₁ hh0 (Stand.of_body B)
    exact ⟨t, o, a1, b1, b2, b3⟩
/-- the table of a body with handlers -/
theorem vx_table {p : Program} {x y : MethodName} {S : Spec} {cc bytes : ByteArray} {maxL maxL' : Nat} {ret ret' : Option FieldType} {e : Env} {s s₁ : State} {m : MethodId} {args : Array Value} {below : List Frame} {meth : Method} {c : Code} {hh : List (Nat × Nat × Nat × Nat)}
    (B : BodyLoose p l y S cc maxL ret e s m args below meth c s₁) (h : (Cond.codeWith y bytes maxL' ret' hh).before args s = true) : c.exceptionTable.toList = tableOf hh := by
  obtain ⟨m9, meth9, c9, hn9, h1, h2, -, -, h6, -⟩ := Cond.codeWith_spec h
  cases Option.some.inj (hn9.symm.trans B.named)
  cases Option.some.inj (h1.symm.trans B.method)
  cases Option.some.inj (h2.symm.trans (Stand.of_body B).code)
  rw [← h6, table_eq]
end Bodies
end VXA
/-! ===== END ===== -/
/-! ===== BEGIN a static call of a method with an exception table ===== -/
section VXS
variable {p : Program} {l : Launch} {e : Env} {R : Room} {s : State} {m : MethodId} {args : Array Value} {below : List Frame} {meth : Method} {c : Code} {T : State} {H : Heap} {locs : List Loc} {cells slots : Nat}
abbrev vx_CSW (R : Room) (s : State) (args : Array Value) (own : String) (index : Nat) (y : MethodName) (bytes : ByteArray) (maxL : Nat) (ret : Option FieldType) (hh : List (Nat × Nat × Nat × Nat)) (ws : List Cond) (rm : Room) (mc ms n : Nat) : Prop :=
  (rm.cells = mc ∧ rm.slots = ms ∧ rm.frames + 1 ≤ R.frames ∧ 8 + (maxL + 11) + rm.locals ≤ R.locals ∧ (∀ w ∈ ws, ∀ (a' : Array Value) (U : State), s.WarmedH U.vm → w.before a' U = true) ∧ Cond.codeWith y bytes maxL ret hh ∈ ws) ∧
  (Cond.codeWith y bytes maxL ret hh).before args s = true ∧ (Cond.initialized y.cls).before args s = true ∧ (y.cls ≠ "java/lang/invoke/MethodHandle" ∧ y.cls ≠ "java/lang/invoke/VarHandle") ∧
  (∀ sig, parseMethodDescriptor y.desc = some sig → n = sig.parameters.length) ∧ (Cond.methodLink own index y).before args s = true ∧ (Cond.static y).before args s = true
theorem vx_cwSW {own : String} {index maxL mc ms : Nat} {y : MethodName} {bytes : ByteArray} {ret : Option FieldType} {hh : List (Nat × Nat × Nat × Nat)} {Ts ws ws' : List Cond} {rm : Room} (n : Nat) (ht : ∀ w ∈ Ts, w.before args s = true) (hT : GoodIn Ts (va_wsS own index y ws)) (hw : ws = Cond.codeWith y bytes maxL ret hh :: ws') (hrc : rm.cells = mc) (hrs : rm.slots = ms)
    (hd : y.cls ≠ "java/lang/invoke/MethodHandle" ∧ y.cls ≠ "java/lang/invoke/VarHandle" ∧ (parseMethodDescriptor y.desc).map (fun d => d.parameters.length) = some n) (hR : rm.frames + 1 ≤ R.frames ∧ 8 + (maxL + 11) + rm.locals ≤ R.locals) :
    vx_CSW R s args own index y bytes maxL ret hh ws rm mc ms n := by
  have ok : ∀ w ∈ va_wsS own index y ws, w.before args s = true := fun w h => ht w (hT w h).1
  have hG : GoodIn Ts ws := fun w h => hT w (by unfold va_wsS; exact List.mem_append_right _ h)
  have hc : Cond.codeWith y bytes maxL ret hh ∈ ws := by rw [hw]; exact List.mem_cons_self
  refine ⟨⟨hrc, hrs, hR.1, hR.2, pay_in ht hG, hc⟩, ht _ (hG _ hc).1, ok _ (by simp [va_wsS]), ⟨hd.1, hd.2.1⟩, fun sig h => ?_, ok _ (by simp [va_wsS]), ok _ (by simp [va_wsS])⟩
  have h2 := hd.2.2
  rw [h] at h2
  exact (Option.some.inj h2).symm
theorem vx_callSW (X : Stand p l e R s m args below meth c T locs cells slots) (hexec : p.tables.exec = Jvm.exec) {own : String} {index : Nat} {y : MethodName} {bytes : ByteArray} {maxL : Nat} {ret : Option FieldType} {hh : List (Nat × Nat × Nat × Nat)}
    (hown : s.vm.findClass own = some m.cls) (hlink : (Cond.methodLink own index y).before args s = true) (hstat : (Cond.static y).before args s = true) (hinit : (Cond.initialized y.cls).before args s = true)
    (hcode : (Cond.codeWith y bytes maxL ret hh).before args s = true) (hy : y.cls ≠ "java/lang/invoke/MethodHandle" ∧ y.cls ≠ "java/lang/invoke/VarHandle")
    {W9 : Nat} {Pre : Pt → Array Value → Prop} {Post : Pt → Array Value → Option Value → Pt → Prop} (hK : Back l R p e below s args y 3 W9 Pre Post)
    {g : JFrame} (hg : g.method = m) (hsize : g.locals.size = c.maxLocals) {argsL rest : List Value} (hlen : ∀ sig, parseMethodDescriptor y.desc = some sig → argsL.length = sig.parameters.length)
    (hstack : g.stack = argsL.reverse ++ rest) (hW : 2 * g.monitorRoom + (rest.map fun v => v.category).sum ≤ W9) (hdg : decode c.code g.pc = .ok (.invokestatic index, 3))
    (hpre : ∀ vm₁, s.WarmedH vm₁ → Pre ⟨T.setVm vm₁, locs, cells, slots⟩ argsL.toArray) :
    ∃ (v : Option Value) (vm₁ : Vm) (B : Pt), s.WarmedH vm₁ ∧ Stand p l e R s m args below meth c B.U B.locs B.cells B.slots ∧ Post ⟨T.setVm vm₁, locs, cells, slots⟩ argsL.toArray v B ∧
      ∀ target, Steps p.tables e below (B.U.setTop { g with pc := g.pc + 3, stack := v.toList ++ rest }) target → Steps p.tables e below (T.setTop g) target := by
  obtain ⟨mk, methM, cM, hnamed, hmethM, -, -, -, -, -, -, hsigM⟩ := Cond.codeWith_spec hcode
  have hstatic : methM.isStatic = true := Cond.static_spec hnamed hmethM hstat
  obtain ⟨kP, hkP, -⟩ := className_of_methodNamed hnamed
  have hinitP : kP.init = .initialized := Cond.initialized_spec (findClass_of_methodNamed hnamed) hkP hinit
  obtain ⟨vm₁, X₁, hstep₁⟩ := X.invokestatic hexec hown hlink hnamed hmethM hstatic hkP hinitP hy (g := g) hg (argsL := argsL) (rest := rest) (hlen _ hsigM) hstack hdg
  obtain ⟨v, B, X', hpost, hsteps⟩ := hK m meth c ⟨T.setVm vm₁, locs, cells, slots⟩ { g with stack := rest } (.invokestatic index) mk argsL.toArray X₁ hg hsize hdg hW (X₁.named hnamed) (hpre vm₁ X₁.warmed)
  exact ⟨v, vm₁, B, X₁.warmed, X', hpost, fun target h => hstep₁ _ fun acts => by rw [doInvoke_state]; exact hsteps.trans h⟩
theorem vx_runSW {y : MethodName} {bytes cc : ByteArray} {maxL nL mc ms n index : Nat} {ret : Option FieldType} {hh : List (Nat × Nat × Nat × Nat)} {ws : List Cond} {rm : Room} {Pc : Array Value → State → Prop} {Qc : Array Value → State → Outcome → State → Prop} {free : Addr → Prop} {Ts : List Cond} {own : String} {As rest : List Value} {g : JFrame}
    (S : CallFix p m c cc nL s args Ts own) (hM : Met l y ws rm Pc Qc mc ms free) (cw : vx_CSW R s args own index y bytes maxL ret hh ws rm mc ms n) (hp : PreS s H Pc As)
    (hg : g.method = m) (hn : As.length = n) (hsize : g.locals.size = nL) (hstack : g.stack = As.reverse ++ rest) (hW : 2 * g.monitorRoom + (rest.map fun v => v.category).sum ≤ 8) (hdg : decode cc g.pc = .ok (.invokestatic index, 3)) (hf : cells + mc ≤ R.cells ∧ slots + ms ≤ R.slots) :
    va_Run p l e R s m args below meth c H locs cells slots mc ms g rest (Qc As.toArray) (free) := by
  obtain ⟨⟨hrc, hrs, hfr, hlo, hws, hcw⟩, hcode, hini, hy, hlen, hl, hstt⟩ := cw
  have hK : Back l R p e below s args y 3 8 (PreOf R mc ms Pc) (PostOf Qc mc ms free) := va_backW (hh := hh) (bytes := bytes) (maxL := maxL) (ret := ret) hM hp.1 hrc hrs hfr hlo hws hcw (fun a' U hW => word_at hW (Or.inl (by first | rfl | simp [Cond.onTables, Cond.keeps, Cond.steady])) hini)
  obtain ⟨hx, hb, hml, ho, -⟩ := S
  intro T hT X
  obtain ⟨v, vm₁, ⟨U', l2, c2, s2⟩, hW₁, X', ⟨g', mk, t, L, e1, e2, hq, h1, hL, h2, h3⟩, st⟩ := vx_callSW X hx (hh := hh) (bytes := bytes) (maxL := maxL) (ret := ret) ho hl hstt hini hcode hy hK hg (hsize.trans hml.symm) (argsL := As) (rest := rest) (fun sig h => hn.trans (hlen sig h)) hstack hW (by rw [hb]; exact hdg)
    (fun vm₁ hW₁ => ⟨hf.1, hf.2, hp.2 (T.setVm vm₁) hT hW₁⟩)
  dsimp only [Pt.U, Pt.locs, Pt.cells, Pt.slots] at X' e1 e2 h1 h2 h3 st
  subst h1; subst h2; subst h3
  exact ⟨v, (T.setVm vm₁).calling g' mk As.toArray, t, U', L, hT, X', hL, e1, e2, hq, st⟩
/-- not caught here, past rows that name other classes: it goes on to the caller -/
theorem vx_outP {p : Program} {l : Launch} {e : Env} {R : Room} {s : State} {m : MethodId} {args : Array Value} {below : List Frame} {meth : Method} {c : Code} {H : Heap} {locs : List Loc} {cells slots : Nat} {free : Addr → Prop} {ls : Array Slot} {rest : List Value} {Qc : Array Value → State → Outcome → State → Prop} {XC : String → State → State → Prop}
    {pc : Nat} {own E : String} {ce : Cell} {q : Addr} {mc ms : Nat} (hown : s.vm.findClass own = some m.cls) (hlocks : meth.locks = false)
    (hpass : ∀ z ∈ c.exceptionTable.toList, covers z pc = false ∨ (z.catchType ≠ 0 ∧ ∃ nm : String, (Cond.classLink own z.catchType nm).before args s = true ∧ va_Nc E nm s)) (hcell : H[q]? = some ce) (hv : ce.vm = .none) (hcl : s.vm.findClass E = some ce.cls)
    (hx : ∀ t : State, t.heap = H → s.vm.Alike t.vm → XC E s t) (hf : ∀ z ∈ locs, free z.base) (hc : cells ≤ mc) (hs : slots ≤ ms) :
    vx_W p l e R s m args below meth c H locs cells slots (vx_MQ below Qc XC args s mc ms free) (F0 m pc ls rest) q := by
  intro T hT X
  have hpl : e.platform.magicAccessors = ({} : Platform).magicAccessors := by rw [X.admits.platform]
  obtain ⟨vm', hW', X', st⟩ := X.outThrough hlocks q (g := F0 m pc ls rest) rfl rfl rfl (cell := ce) (by rw [hT]; exact hcell) (by rw [hv]; rfl)
    (by obtain ⟨k9, h9, -⟩ := Vm.findClass_spec hcl; exact ⟨k9, h9⟩) (fun z hz => by
      rcases hpass z hz with h | ⟨hz0, nm, hl1, hn1⟩
      · exact Or.inl h
      · obtain ⟨c6, hc6, hcl6⟩ := Cond.classLink_spec hown hl1 e.platform hpl
        obtain ⟨a8, b8, h1, h2, h3⟩ := hn1
        cases Option.some.inj (h1.symm.trans hcl)
        cases Option.some.inj (h2.symm.trans hc6)
        exact Or.inr ⟨hz0, _, hcl6, h3⟩)
  obtain ⟨g₀, hfr⟩ := X'.frames_eq
  have hcell9 : ((T.setVm vm').setFrames (.throwing q :: below)).heap[q]? = some ce := by
    show T.heap[q]? = some ce
    rw [hT]; exact hcell
  have hend : Ended ((T.setVm vm').setFrames (.throwing q :: below)) below (.threw q) := State.frames_setFrames _ (State.cur_lt_of_frames hfr)
  refine ⟨(T.setVm vm').setFrames (.throwing q :: below), ?_, .threw q, X'.here.running, hend, Or.inr ⟨q, rfl, E, ce, locs, hx _ hT (X'.ends _).1.alike, hcell9, hv, hcl, (X'.ends _).1, (X'.ends _).2.mono hc hs, hf⟩⟩
  rw [X.pushThrowing_eq]
  exact st
/-- a thing of a world lies in the heap -/
theorem vx_lt {D : va_G} {cl : List vw_C} {ws : va_W} {H1 : Heap} (h : va_P D cl ws H1) {k : Nat} {q : Nat × va_E} (hk : ws[k]? = some q) : q.1 < H1.size := (h k q hk).lt
end VXS
/-! ===== END ===== -/
/-! ===== BEGIN methods with a table of their own: called by a name, returning or throwing ===== -/
section VXH
/-! vx_backW, vx_callVX, vx_callSX, vx_callVW, vx_runVW, vx_runVX, vx_runSX, vx_ofWH follow the same proofs as their sisters above (Free/Laws.lean, Shelf42/LK1.lean); vx_outP calls Shelf42/NT130.lean (outThrough). -/
section
variable {l : Launch} {R : Room} {p : Program} {e : Env} {below : List Frame} {s : State} {sargs : Array Value} {y : MethodName} {len W9 : Nat}
theorem vx_backW {ws : List Cond} {rm : Room} {Pc : Array Value → State → Prop} {Qc : Array Value → State → Outcome → State → Prop} {XC : String → State → State → Prop} {mc ms : Nat} {free : Addr → Prop} {bytes : ByteArray} {maxL : Nat} {ret : Option FieldType} {hh : List (Nat × Nat × Nat × Nat)}
    (hM : vx_Met l y ws rm Pc Qc XC mc ms free) (hblind : FrameBlind Pc) (hrc : rm.cells = mc) (hrs : rm.slots = ms)
    (hframes : rm.frames + 1 ≤ R.frames) (hlocals : W9 + (maxL + 11) + rm.locals ≤ R.locals)
    (hws : ∀ w ∈ ws, ∀ a' U, s.WarmedH U.vm → w.before a' U = true) (hcode : Cond.codeWith y bytes maxL ret hh ∈ ws) (hinit : ∀ a' U, s.WarmedH U.vm → (Cond.initialized y.cls).before a' U = true) :
    vx_Back l R p e below s sargs y len W9 (PreOf R mc ms Pc) (PostOf Qc mc ms free) (vx_Post XC mc ms free) := by
  intro m meth c A g ig mk a X hg hsize hdg hW hn hp
  have h1 : (headSpec ws rm).pre.before a A.U = true := atoms_intro fun w hw => hws w hw _ _ X.warmed
  have h2 : (Cond.codeWith y bytes maxL ret hh).before a A.U = true := hws _ hcode _ _ X.warmed
  have h3 : (Cond.initialized y.cls).before a A.U = true := hinit _ _ X.warmed
  have h4 : A.cells + (headSpec ws rm).room.cells ≤ R.cells := by rw [show (headSpec ws rm).room.cells = mc from hrc]; exact hp.1
  have h5 : A.slots + (headSpec ws rm).room.slots ≤ R.slots := by rw [show (headSpec ws rm).room.slots = ms from hrs]; exact hp.2.1
  have hPc : Pc a (A.U.calling g mk a) := hblind _ _ _ _ hp.2.2
  obtain ⟨U, Ls, c0, s0⟩ := A
  dsimp only [Pt.U, Pt.locs, Pt.cells, Pt.slots] at h1 h2 h3 h4 h5 X hn hPc ⊢
  obtain ⟨m9, methY, cY, hn9, hmY, hcY, -, hlY, -⟩ := Cond.codeWith_spec h2
  cases Option.some.inj (hn9.symm.trans hn)
  obtain ⟨kY, hkY, -⟩ := className_of_methodNamed hn
  have hinitY : kY.init = .initialized := Cond.initialized_spec (findClass_of_methodNamed hn) hkY h3
  have h : At U g.method c below := by rw [hg]; exact X.here
  have hlocals9 : W9 + (maxL + 11) + (headSpec ws rm).room.locals ≤ R.locals := hlocals
  have happ : (headSpec ws rm).appliesLoose y e.platform (U.calling g mk a) = true :=
    Spec.appliesLoose_calling (g := g) h hdg hn hkY hinitY
      (X.room_calling (g := g) (R' := (headSpec ws rm).room) hsize hmY hcY hframes (by rw [hlY]; omega) h4 h5) h1
  obtain ⟨mid, hmid⟩ := h.above
  have hfr : (U.setTop g).frames = (.java g :: mid) ++ below := by rw [State.frames_setTop' g h.top, hmid]; rfl
  obtain ⟨o, s₂, hsteps, -, hend, hq⟩ := Steps.callFree hM p X.admits X.cas X.clock (acts := []) hfr happ hPc trivial
  have hq' : vx_Q Qc XC mc ms free a (U.calling g mk a) o s₂ := hq
  rw [State.frames_setTop' g h.top] at hend
  obtain ⟨g₀, hg0⟩ := Option.isSome_iff_exists.mp h.top
  obtain ⟨r, hr⟩ := State.topJava?_eq_some.mp hg0
  have hr' : (({ U with heap := s₂.heap, slotsUsed := s₂.slotsUsed } : State).setVm s₂.vm).frames = .java g₀ :: r := hr
  rcases hq' with ⟨hqc, L, hfe, hL⟩ | ⟨q, rfl, E, ce, L, hx, hce, hcv, hcl, hW₂, hsm, hL⟩
  · obtain ⟨⟨v, rfl⟩, hW₂, e2, q2, q3, q4, q5, q6⟩ := id hfe
    have e3 : s₂ = ({ (U.calling g mk a).setFrames s₂.frames with heap := s₂.heap, slotsUsed := s₂.slotsUsed } : State).setVm s₂.vm := by
      have : s₂ = ({ s₂ with vm := (U.calling g mk a).vm } : State).setVm s₂.vm := rfl
      rw [e2] at this
      exact this
    obtain ⟨c₂, i₂, len₂, hc₂, hd₂, hf₂⟩ := hend
    have hW' : U.WarmedH s₂.vm := hW₂
    have hcc : c₂ = c := by
      have h1 : s₂.code? g.method = U.code? g.method := by
        rw [State.code?_eq, State.code?_eq, hW'.alike.method?]
      exact Option.some.inj (hc₂.symm.trans (h1.trans h.code))
    subst hcc
    have hlen : len₂ = len := by rw [hdg] at hd₂; cases hd₂; rfl
    subst hlen
    have hs₂ : s₂ = (({ U with heap := s₂.heap, slotsUsed := s₂.slotsUsed } : State).setVm s₂.vm).setTop { g with pc := g.pc + len₂, stack := v.toList ++ g.stack } := by
      refine e3.trans ?_
      rw [hf₂, State.calling_eq h.top, State.setFrames_setFrames, State.setTop_of_frames _ hr', hr]
      rfl
    have hsame : U.sameButNew ({ U with heap := s₂.heap, slotsUsed := s₂.slotsUsed } : State) L mc ms := by
      refine ⟨?_, q2, q3, q4, q5, q6⟩
      obtain ⟨t, ht, -⟩ := State.frames_cons hr
      show ({ U with heap := s₂.heap, slotsUsed := s₂.slotsUsed } : State) = { U.setFrames U.frames with heap := s₂.heap, slotsUsed := s₂.slotsUsed }
      rw [State.setFrames_self ht]
    subst hg
    refine Or.inl ⟨v, ⟨(({ U with heap := s₂.heap, slotsUsed := s₂.slotsUsed } : State).setVm s₂.vm), Ls ++ L, c0 + mc, s0 + ms⟩,
      ⟨X.admits, X.cas, X.clock, X.frames, X.room, X.hears, X.method, X.code, (X.here.setHeapUsed s₂.heap s₂.slotsUsed).setVm hW'.alike, X.tail, State.WarmedH.trans X.warmed hW', X.limits, X.bytes, X.same.trans (hsame.setVm s.vm)⟩,
      ⟨g, mk, s₂, L, rfl, rfl, hqc, rfl, hL, rfl, rfl⟩, ?_⟩
    show Steps p.tables e below _ ((({ U with heap := s₂.heap, slotsUsed := s₂.slotsUsed } : State).setVm s₂.vm).setTop { g with pc := g.pc + len₂, stack := v.toList ++ g.stack })
    rw [← hs₂]
    exact hsteps
  · obtain ⟨e2, q2, q3, q4, q5, q6⟩ := id hsm
    have e3 : s₂ = ({ (U.calling g mk a).setFrames s₂.frames with heap := s₂.heap, slotsUsed := s₂.slotsUsed } : State).setVm s₂.vm := by
      have : s₂ = ({ s₂ with vm := (U.calling g mk a).vm } : State).setVm s₂.vm := rfl
      rw [e2] at this
      exact this
    have hf₂ : s₂.frames = .throwing q :: .java g :: U.frames.tail := hend
    have hW' : U.WarmedH s₂.vm := hW₂
    have hs₂ : s₂ = ((({ U with heap := s₂.heap, slotsUsed := s₂.slotsUsed } : State).setVm s₂.vm).setTop g).pushFrame (.throwing q) := by
      refine e3.trans ?_
      rw [hf₂, State.calling_eq h.top, State.setFrames_setFrames, State.pushFrame, State.frames_setTop _ hr', State.setTop_of_frames _ hr', State.setFrames_setFrames, hr]
      rfl
    have hsame : U.sameButNew ({ U with heap := s₂.heap, slotsUsed := s₂.slotsUsed } : State) L mc ms := by
      refine ⟨?_, q2, q3, q4, q5, q6⟩
      obtain ⟨t, ht, -⟩ := State.frames_cons hr
      show ({ U with heap := s₂.heap, slotsUsed := s₂.slotsUsed } : State) = { U.setFrames U.frames with heap := s₂.heap, slotsUsed := s₂.slotsUsed }
      rw [State.setFrames_self ht]
    subst hg
    refine Or.inr ⟨q, ⟨(({ U with heap := s₂.heap, slotsUsed := s₂.slotsUsed } : State).setVm s₂.vm), Ls ++ L, c0 + mc, s0 + ms⟩,
      ⟨X.admits, X.cas, X.clock, X.frames, X.room, X.hears, X.method, X.code, (X.here.setHeapUsed s₂.heap s₂.slotsUsed).setVm hW'.alike, X.tail, State.WarmedH.trans X.warmed hW', X.limits, X.bytes, X.same.trans (hsame.setVm s.vm)⟩,
      ⟨g, mk, s₂, L, E, ce, rfl, rfl, hx, hce, hcv, hcl, rfl, hL, rfl, rfl⟩, ?_⟩
    show Steps p.tables e below _ (((({ U with heap := s₂.heap, slotsUsed := s₂.slotsUsed } : State).setVm s₂.vm).setTop g).pushFrame (.throwing q))
    rw [← hs₂]
    exact hsteps
end
variable {p : Program} {l : Launch} {e : Env} {R : Room} {s : State} {m : MethodId} {args : Array Value} {below : List Frame} {meth : Method} {c : Code} {T : State} {H : Heap} {locs : List Loc} {cells slots : Nat}
theorem vx_callVX (X : Stand p l e R s m args below meth c T locs cells slots) (hexec : p.tables.exec = Jvm.exec) {own C : String} {index : Nat} {y : MethodName} {bytes : ByteArray} {maxL : Nat} {ret : Option FieldType} {hh : List (Nat × Nat × Nat × Nat)}
    (hown : s.vm.findClass own = some m.cls) (hlink : (Cond.methodLink own index y).before args s = true) (hinst : (Cond.instanceMethod y).before args s = true) (hsel : (Cond.selects C y y).before args s = true)
    (hcode : (Cond.codeWith y bytes maxL ret hh).before args s = true) (hy : y.cls ≠ "java/lang/invoke/MethodHandle" ∧ y.cls ≠ "java/lang/invoke/VarHandle")
    {W9 : Nat} {Pre : Pt → Array Value → Prop} {Post : Pt → Array Value → Option Value → Pt → Prop} {PostX : Pt → Array Value → Addr → Pt → Prop} (hK : vx_Back l R p e below s args y 3 W9 Pre Post PostX)
    {b : Addr} {cellB : Cell} (hcell : T.heap[b]? = some cellB) (hobj : cellB.vm.isStatics = false) (hcls : s.vm.findClass C = some cellB.cls)
    {g : JFrame} (hg : g.method = m) (hsize : g.locals.size = c.maxLocals) {argsL rest : List Value} (hlen : ∀ sig, parseMethodDescriptor y.desc = some sig → argsL.length = sig.parameters.length)
    (hstack : g.stack = argsL.reverse ++ .ref b :: rest) (hW : 2 * g.monitorRoom + (rest.map fun v => v.category).sum ≤ W9) (hdg : decode c.code g.pc = .ok (.invokevirtual index, 3))
    (hpre : ∀ vm₁, s.WarmedH vm₁ → Pre ⟨T.setVm vm₁, locs, cells, slots⟩ (Value.ref b :: argsL).toArray) :
    (∃ (v : Option Value) (vm₁ : Vm) (B : Pt), s.WarmedH vm₁ ∧ Stand p l e R s m args below meth c B.U B.locs B.cells B.slots ∧ Post ⟨T.setVm vm₁, locs, cells, slots⟩ (Value.ref b :: argsL).toArray v B ∧
      ∀ target, Steps p.tables e below (B.U.setTop { g with pc := g.pc + 3, stack := v.toList ++ rest }) target → Steps p.tables e below (T.setTop g) target) ∨
    (∃ (q : Addr) (vm₁ : Vm) (B : Pt), s.WarmedH vm₁ ∧ Stand p l e R s m args below meth c B.U B.locs B.cells B.slots ∧ PostX ⟨T.setVm vm₁, locs, cells, slots⟩ (Value.ref b :: argsL).toArray q B ∧
      Steps p.tables e below (T.setTop g) ((B.U.setTop { g with stack := rest }).pushFrame (.throwing q))) := by
  obtain ⟨mk, methM, hnamed, hmethM, hstM, habM⟩ := Cond.instanceMethod_spec hinst
  obtain ⟨m8, methM', cM, hn8, hmethM', -, -, -, -, -, -, hsigM⟩ := Cond.codeWith_spec hcode
  cases Option.some.inj (hn8.symm.trans hnamed)
  cases hmethM.symm.trans hmethM'
  obtain ⟨c2, r2, m2, q1, q2, q3, q4, kP, hkP, hkPi⟩ := Cond.selects_spec hsel
  cases hcls.symm.trans q1
  cases (State.methodFound?_of_named hnamed hy).symm.trans q2
  cases hnamed.symm.trans q3
  have hselP : selectMethod e.platform s.vm cellB.cls mk = .method mk := by rw [Launch.admits_selectMethod X.admits]; exact q4
  obtain ⟨vm₁, X₁, hstep₁⟩ := X.invokevirtual hexec hown hlink hnamed hmethM hstM hkP hkPi hy (a := b) (cell := cellB) hcell
    (fun z h => by rw [h] at hobj; cases hobj) hselP hmethM habM hkP hkPi (g := g) hg (argsL := argsL) (rest := rest) (hlen _ hsigM) hstack hdg
  rcases hK m meth c ⟨T.setVm vm₁, locs, cells, slots⟩ { g with stack := rest } (.invokevirtual index) mk (Value.ref b :: argsL).toArray X₁ hg hsize hdg hW (X₁.named hnamed) (hpre vm₁ X₁.warmed) with ⟨v, B, X', hpost, hsteps⟩ | ⟨q, B, X', hpost, hsteps⟩
  · exact Or.inl ⟨v, vm₁, B, X₁.warmed, X', hpost, fun target h => hstep₁ _ fun acts => by rw [doInvoke_state]; exact hsteps.trans h⟩
  · exact Or.inr ⟨q, vm₁, B, X₁.warmed, X', hpost, hstep₁ _ fun acts => by rw [doInvoke_state]; exact hsteps⟩
theorem vx_callSX (X : Stand p l e R s m args below meth c T locs cells slots) (hexec : p.tables.exec = Jvm.exec) {own : String} {index : Nat} {y : MethodName} {bytes : ByteArray} {maxL : Nat} {ret : Option FieldType} {hh : List (Nat × Nat × Nat × Nat)}
    (hown : s.vm.findClass own = some m.cls) (hlink : (Cond.methodLink own index y).before args s = true) (hstat : (Cond.static y).before args s = true) (hinit : (Cond.initialized y.cls).before args s = true)
    (hcode : (Cond.codeWith y bytes maxL ret hh).before args s = true) (hy : y.cls ≠ "java/lang/invoke/MethodHandle" ∧ y.cls ≠ "java/lang/invoke/VarHandle")
    {W9 : Nat} {Pre : Pt → Array Value → Prop} {Post : Pt → Array Value → Option Value → Pt → Prop} {PostX : Pt → Array Value → Addr → Pt → Prop} (hK : vx_Back l R p e below s args y 3 W9 Pre Post PostX)
    {g : JFrame} (hg : g.method = m) (hsize : g.locals.size = c.maxLocals) {argsL rest : List Value} (hlen : ∀ sig, parseMethodDescriptor y.desc = some sig → argsL.length = sig.parameters.length)
    (hstack : g.stack = argsL.reverse ++ rest) (hW : 2 * g.monitorRoom + (rest.map fun v => v.category).sum ≤ W9) (hdg : decode c.code g.pc = .ok (.invokestatic index, 3))
    (hpre : ∀ vm₁, s.WarmedH vm₁ → Pre ⟨T.setVm vm₁, locs, cells, slots⟩ argsL.toArray) :
    (∃ (v : Option Value) (vm₁ : Vm) (B : Pt), s.WarmedH vm₁ ∧ Stand p l e R s m args below meth c B.U B.locs B.cells B.slots ∧ Post ⟨T.setVm vm₁, locs, cells, slots⟩ argsL.toArray v B ∧
      ∀ target, Steps p.tables e below (B.U.setTop { g with pc := g.pc + 3, stack := v.toList ++ rest }) target → Steps p.tables e below (T.setTop g) target) ∨
    (∃ (q : Addr) (vm₁ : Vm) (B : Pt), s.WarmedH vm₁ ∧ Stand p l e R s m args below meth c B.U B.locs B.cells B.slots ∧ PostX ⟨T.setVm vm₁, locs, cells, slots⟩ argsL.toArray q B ∧
      Steps p.tables e below (T.setTop g) ((B.U.setTop { g with stack := rest }).pushFrame (.throwing q))) := by
  obtain ⟨mk, methM, cM, hnamed, hmethM, -, -, -, -, -, -, hsigM⟩ := Cond.codeWith_spec hcode
  have hstatic : methM.isStatic = true := Cond.static_spec hnamed hmethM hstat
  obtain ⟨kP, hkP, -⟩ := className_of_methodNamed hnamed
  have hinitP : kP.init = .initialized := Cond.initialized_spec (findClass_of_methodNamed hnamed) hkP hinit
  obtain ⟨vm₁, X₁, hstep₁⟩ := X.invokestatic hexec hown hlink hnamed hmethM hstatic hkP hinitP hy (g := g) hg (argsL := argsL) (rest := rest) (hlen _ hsigM) hstack hdg
  rcases hK m meth c ⟨T.setVm vm₁, locs, cells, slots⟩ { g with stack := rest } (.invokestatic index) mk argsL.toArray X₁ hg hsize hdg hW (X₁.named hnamed) (hpre vm₁ X₁.warmed) with ⟨v, B, X', hpost, hsteps⟩ | ⟨q, B, X', hpost, hsteps⟩
  · exact Or.inl ⟨v, vm₁, B, X₁.warmed, X', hpost, fun target h => hstep₁ _ fun acts => by rw [doInvoke_state]; exact hsteps.trans h⟩
  · exact Or.inr ⟨q, vm₁, B, X₁.warmed, X', hpost, hstep₁ _ fun acts => by rw [doInvoke_state]; exact hsteps⟩
theorem vx_callVW (X : Stand p l e R s m args below meth c T locs cells slots) (hexec : p.tables.exec = Jvm.exec) {own C : String} {index : Nat} {y : MethodName} {bytes : ByteArray} {maxL : Nat} {ret : Option FieldType} {hh : List (Nat × Nat × Nat × Nat)}
    (hown : s.vm.findClass own = some m.cls) (hlink : (Cond.methodLink own index y).before args s = true) (hinst : (Cond.instanceMethod y).before args s = true) (hsel : (Cond.selects C y y).before args s = true)
    (hcode : (Cond.codeWith y bytes maxL ret hh).before args s = true) (hy : y.cls ≠ "java/lang/invoke/MethodHandle" ∧ y.cls ≠ "java/lang/invoke/VarHandle")
    {W9 : Nat} {Pre : Pt → Array Value → Prop} {Post : Pt → Array Value → Option Value → Pt → Prop} (hK : Back l R p e below s args y 3 W9 Pre Post)
    {b : Addr} {cellB : Cell} (hcell : T.heap[b]? = some cellB) (hobj : cellB.vm.isStatics = false) (hcls : s.vm.findClass C = some cellB.cls)
    {g : JFrame} (hg : g.method = m) (hsize : g.locals.size = c.maxLocals) {argsL rest : List Value} (hlen : ∀ sig, parseMethodDescriptor y.desc = some sig → argsL.length = sig.parameters.length)
    (hstack : g.stack = argsL.reverse ++ .ref b :: rest) (hW : 2 * g.monitorRoom + (rest.map fun v => v.category).sum ≤ W9) (hdg : decode c.code g.pc = .ok (.invokevirtual index, 3))
    (hpre : ∀ vm₁, s.WarmedH vm₁ → Pre ⟨T.setVm vm₁, locs, cells, slots⟩ (Value.ref b :: argsL).toArray) :
    ∃ (v : Option Value) (vm₁ : Vm) (B : Pt), s.WarmedH vm₁ ∧ Stand p l e R s m args below meth c B.U B.locs B.cells B.slots ∧ Post ⟨T.setVm vm₁, locs, cells, slots⟩ (Value.ref b :: argsL).toArray v B ∧
      ∀ target, Steps p.tables e below (B.U.setTop { g with pc := g.pc + 3, stack := v.toList ++ rest }) target → Steps p.tables e below (T.setTop g) target := by
  obtain ⟨mk, methM, hnamed, hmethM, hstM, habM⟩ := Cond.instanceMethod_spec hinst
  obtain ⟨m8, methM', cM, hn8, hmethM', -, -, -, -, -, -, hsigM⟩ := Cond.codeWith_spec hcode
  cases Option.some.inj (hn8.symm.trans hnamed)
  cases hmethM.symm.trans hmethM'
  obtain ⟨c2, r2, m2, q1, q2, q3, q4, kP, hkP, hkPi⟩ := Cond.selects_spec hsel
  cases hcls.symm.trans q1
  cases (State.methodFound?_of_named hnamed hy).symm.trans q2
  cases hnamed.symm.trans q3
  have hselP : selectMethod e.platform s.vm cellB.cls mk = .method mk := by rw [Launch.admits_selectMethod X.admits]; exact q4
  obtain ⟨vm₁, X₁, hstep₁⟩ := X.invokevirtual hexec hown hlink hnamed hmethM hstM hkP hkPi hy (a := b) (cell := cellB) hcell
    (fun z h => by rw [h] at hobj; cases hobj) hselP hmethM habM hkP hkPi (g := g) hg (argsL := argsL) (rest := rest) (hlen _ hsigM) hstack hdg
  obtain ⟨v, B, X', hpost, hsteps⟩ := hK m meth c ⟨T.setVm vm₁, locs, cells, slots⟩ { g with stack := rest } (.invokevirtual index) mk (Value.ref b :: argsL).toArray X₁ hg hsize hdg hW (X₁.named hnamed) (hpre vm₁ X₁.warmed)
  exact ⟨v, vm₁, B, X₁.warmed, X', hpost, fun target h => hstep₁ _ fun acts => by rw [doInvoke_state]; exact hsteps.trans h⟩
abbrev vx_CVW (R : Room) (s : State) (args : Array Value) (own C : String) (index : Nat) (y : MethodName) (bytes : ByteArray) (maxL : Nat) (ret : Option FieldType) (hh : List (Nat × Nat × Nat × Nat)) (ws : List Cond) (rm : Room) (mc ms n : Nat) : Prop :=
  (rm.cells = mc ∧ rm.slots = ms ∧ rm.frames + 1 ≤ R.frames ∧ 8 + (maxL + 11) + rm.locals ≤ R.locals ∧ (∀ w ∈ ws, ∀ (a' : Array Value) (U : State), s.WarmedH U.vm → w.before a' U = true) ∧ Cond.codeWith y bytes maxL ret hh ∈ ws) ∧
  (Cond.codeWith y bytes maxL ret hh).before args s = true ∧ (Cond.initialized y.cls).before args s = true ∧ (y.cls ≠ "java/lang/invoke/MethodHandle" ∧ y.cls ≠ "java/lang/invoke/VarHandle") ∧
  (∀ sig, parseMethodDescriptor y.desc = some sig → n = sig.parameters.length) ∧ (Cond.methodLink own index y).before args s = true ∧ (Cond.instanceMethod y).before args s = true ∧ (Cond.selects C y y).before args s = true
theorem vx_cwVW {own C : String} {index maxL mc ms : Nat} {y : MethodName} {bytes : ByteArray} {ret : Option FieldType} {hh : List (Nat × Nat × Nat × Nat)} {Ts ws ws' : List Cond} {rm : Room} (n : Nat) (ht : ∀ w ∈ Ts, w.before args s = true) (hT : GoodIn Ts (wsV own index C y ws)) (hw : ws = Cond.codeWith y bytes maxL ret hh :: ws') (hrc : rm.cells = mc) (hrs : rm.slots = ms)
    (hd : y.cls = C ∧ y.cls ≠ "java/lang/invoke/MethodHandle" ∧ y.cls ≠ "java/lang/invoke/VarHandle" ∧ (parseMethodDescriptor y.desc).map (fun d => d.parameters.length) = some n) (hR : rm.frames + 1 ≤ R.frames ∧ 8 + (maxL + 11) + rm.locals ≤ R.locals) :
    vx_CVW R s args own C index y bytes maxL ret hh ws rm mc ms n := by
  obtain ⟨hC, hd⟩ := hd
  subst hC
  have ok : ∀ w ∈ wsV own index y.cls y ws, w.before args s = true := fun w h => ht w (hT w h).1
  have hG : GoodIn Ts ws := fun w h => hT w (by unfold wsV; exact List.mem_append_right _ h)
  have hc : Cond.codeWith y bytes maxL ret hh ∈ ws := by rw [hw]; exact List.mem_cons_self
  refine ⟨⟨hrc, hrs, hR.1, hR.2, pay_in ht hG, hc⟩, ht _ (hG _ hc).1, ok _ (by simp [wsV]), ⟨hd.1, hd.2.1⟩, fun sig h => ?_, ok _ (by simp [wsV]), ok _ (by simp [wsV]), ok _ (by simp [wsV])⟩
  have h2 := hd.2.2
  rw [h] at h2
  exact (Option.some.inj h2).symm
theorem vx_runVW {y : MethodName} {bytes cc : ByteArray} {maxL nL mc ms n index : Nat} {ret : Option FieldType} {hh : List (Nat × Nat × Nat × Nat)} {ws : List Cond} {rm : Room} {Pc : Array Value → State → Prop} {Qc : Array Value → State → Outcome → State → Prop} {free : Addr → Prop} {Ts : List Cond} {own C : String} {b : Addr} {As rest : List Value} {g : JFrame}
    (S : CallFix p m c cc nL s args Ts own) (hM : Met l y ws rm Pc Qc mc ms free) (cw : vx_CVW R s args own C index y bytes maxL ret hh ws rm mc ms n) (hp : PreV s H C b Pc As)
    (hg : g.method = m) (hn : As.length = n) (hsize : g.locals.size = nL) (hstack : g.stack = As.reverse ++ .ref b :: rest) (hW : 2 * g.monitorRoom + (rest.map fun v => v.category).sum ≤ 8) (hdg : decode cc g.pc = .ok (.invokevirtual index, 3)) (hf : cells + mc ≤ R.cells ∧ slots + ms ≤ R.slots) :
    va_Run p l e R s m args below meth c H locs cells slots mc ms g rest (Qc (Value.ref b :: As).toArray) free := by
  obtain ⟨⟨hrc, hrs, hfr, hlo, hws, hcw⟩, hcode, hini, hy, hlen, hl, hin, hse⟩ := cw
  have hK : Back l R p e below s args y 3 8 (PreOf R mc ms Pc) (PostOf Qc mc ms free) := va_backW (hh := hh) (bytes := bytes) (maxL := maxL) (ret := ret) hM hp.1 hrc hrs hfr hlo hws hcw (fun a' U hW => word_at hW (Or.inl (by first | rfl | simp [Cond.onTables, Cond.keeps, Cond.steady])) hini)
  obtain ⟨hx, hb, hml, ho, -⟩ := S
  obtain ⟨-, ⟨cellB, hcB, hoB, hclB⟩, hPc⟩ := hp
  intro T hT X
  obtain ⟨v, vm₁, ⟨U', l2, c2, s2⟩, hW₁, X', ⟨g', mk, t, L, e1, e2, hq, h1, hL, h2, h3⟩, st⟩ := vx_callVW X hx (C := C) (hh := hh) (bytes := bytes) (maxL := maxL) (ret := ret) ho hl hin hse hcode hy hK (by rw [hT]; exact hcB) hoB hclB hg (hsize.trans hml.symm) (argsL := As) (rest := rest) (fun sig h => hn.trans (hlen sig h)) hstack hW (by rw [hb]; exact hdg)
    (fun vm₁ hW₁ => ⟨hf.1, hf.2, hPc (T.setVm vm₁) hT hW₁⟩)
  dsimp only [Pt.U, Pt.locs, Pt.cells, Pt.slots] at X' e1 e2 h1 h2 h3 st
  subst h1; subst h2; subst h3
  exact ⟨v, (T.setVm vm₁).calling g' mk (Value.ref b :: As).toArray, t, U', L, hT, X', hL, e1, e2, hq, st⟩
section
variable {y : MethodName} {bytes cc : ByteArray} {maxL nL mc ms n index : Nat} {ret : Option FieldType} {ws : List Cond} {rm : Room} {Pc : Array Value → State → Prop} {Qc : Array Value → State → Outcome → State → Prop} {XC : String → State → State → Prop} {free : Addr → Prop} {Ts : List Cond} {own C : String} {b : Addr} {As rest : List Value} {g : JFrame}
theorem vx_runVX {hh : List (Nat × Nat × Nat × Nat)} (S : CallFix p m c cc nL s args Ts own) (hM : vx_Met l y ws rm Pc Qc XC mc ms free) (cw : vx_CVW R s args own C index y bytes maxL ret hh ws rm mc ms n) (hp : PreV s H C b Pc As)
    (hg : g.method = m) (hn : As.length = n) (hsize : g.locals.size = nL) (hstack : g.stack = As.reverse ++ .ref b :: rest) (hW : 2 * g.monitorRoom + (rest.map fun v => v.category).sum ≤ 8) (hdg : decode cc g.pc = .ok (.invokevirtual index, 3)) (hf : cells + mc ≤ R.cells ∧ slots + ms ≤ R.slots) :
    vx_Run p l e R s m args below meth c H locs cells slots mc ms g rest (Qc (Value.ref b :: As).toArray) XC free := by
  obtain ⟨⟨hrc, hrs, hfr, hlo, hws, hcw⟩, hcode, hini, hy, hlen, hl, hin, hse⟩ := cw
  have hK : vx_Back l R p e below s args y 3 8 (PreOf R mc ms Pc) (PostOf Qc mc ms free) (vx_Post XC mc ms free) := vx_backW (hh := hh) (bytes := bytes) (maxL := maxL) (ret := ret) hM hp.1 hrc hrs hfr hlo hws hcw (fun a' U hW => word_at hW (Or.inl (by first | rfl | simp [Cond.onTables, Cond.keeps, Cond.steady])) hini)
  obtain ⟨hx, hb, hml, ho, -⟩ := S
  obtain ⟨-, ⟨cellB, hcB, hoB, hclB⟩, hPc⟩ := hp
  intro T hT X
  rcases vx_callVX X hx (C := C) (hh := hh) (bytes := bytes) (maxL := maxL) (ret := ret) ho hl hin hse hcode hy hK (by rw [hT]; exact hcB) hoB hclB hg (hsize.trans hml.symm) (argsL := As) (rest := rest) (fun sig h => hn.trans (hlen sig h)) hstack hW (by rw [hb]; exact hdg)
    (fun vm₁ hW₁ => ⟨hf.1, hf.2, hPc (T.setVm vm₁) hT hW₁⟩) with ⟨v, vm₁, ⟨U', l2, c2, s2⟩, hW₁, X', ⟨g', mk, t, L, e1, e2, hq, h1, hL, h2, h3⟩, st⟩ | ⟨q, vm₁, ⟨U', l2, c2, s2⟩, hW₁, X', ⟨g', mk, t, L, E, ce, e1, e2, hq, hce, hcv, hcl, h1, hL, h2, h3⟩, st⟩
  · dsimp only [Pt.U, Pt.locs, Pt.cells, Pt.slots] at X' e1 e2 h1 h2 h3 st
    subst h1; subst h2; subst h3
    exact Or.inl ⟨v, (T.setVm vm₁).calling g' mk (Value.ref b :: As).toArray, t, U', L, hT, X', hL, e1, e2, hq, st⟩
  · dsimp only [Pt.U, Pt.locs, Pt.cells, Pt.slots] at X' e1 e2 h1 h2 h3 st hcl
    subst h1; subst h2; subst h3
    exact Or.inr ⟨q, (T.setVm vm₁).calling g' mk (Value.ref b :: As).toArray, t, U', L, E, ce, hT, X', hL, e1, e2, hq, hce, hcv, vx_cls hW₁ hcl, st⟩
theorem vx_runSX {hh : List (Nat × Nat × Nat × Nat)} (S : CallFix p m c cc nL s args Ts own) (hM : vx_Met l y ws rm Pc Qc XC mc ms free) (cw : vx_CSW R s args own index y bytes maxL ret hh ws rm mc ms n) (hp : PreS s H Pc As)
    (hg : g.method = m) (hn : As.length = n) (hsize : g.locals.size = nL) (hstack : g.stack = As.reverse ++ rest) (hW : 2 * g.monitorRoom + (rest.map fun v => v.category).sum ≤ 8) (hdg : decode cc g.pc = .ok (.invokestatic index, 3)) (hf : cells + mc ≤ R.cells ∧ slots + ms ≤ R.slots) :
    vx_Run p l e R s m args below meth c H locs cells slots mc ms g rest (Qc As.toArray) XC free := by
  obtain ⟨⟨hrc, hrs, hfr, hlo, hws, hcw⟩, hcode, hini, hy, hlen, hl, hstt⟩ := cw
  have hK : vx_Back l R p e below s args y 3 8 (PreOf R mc ms Pc) (PostOf Qc mc ms free) (vx_Post XC mc ms free) := vx_backW (hh := hh) (bytes := bytes) (maxL := maxL) (ret := ret) hM hp.1 hrc hrs hfr hlo hws hcw (fun a' U hW => word_at hW (Or.inl (by first | rfl | simp [Cond.onTables, Cond.keeps, Cond.steady])) hini)
  obtain ⟨hx, hb, hml, ho, -⟩ := S
  intro T hT X
  rcases vx_callSX X hx (hh := hh) (bytes := bytes) (maxL := maxL) (ret := ret) ho hl hstt hini hcode hy hK hg (hsize.trans hml.symm) (argsL := As) (rest := rest) (fun sig h => hn.trans (hlen sig h)) hstack hW (by rw [hb]; exact hdg)
    (fun vm₁ hW₁ => ⟨hf.1, hf.2, hp.2 (T.setVm vm₁) hT hW₁⟩) with ⟨v, vm₁, ⟨U', l2, c2, s2⟩, hW₁, X', ⟨g', mk, t, L, e1, e2, hq, h1, hL, h2, h3⟩, st⟩ | ⟨q, vm₁, ⟨U', l2, c2, s2⟩, hW₁, X', ⟨g', mk, t, L, E, ce, e1, e2, hq, hce, hcv, hcl, h1, hL, h2, h3⟩, st⟩
  · dsimp only [Pt.U, Pt.locs, Pt.cells, Pt.slots] at X' e1 e2 h1 h2 h3 st
    subst h1; subst h2; subst h3
    exact Or.inl ⟨v, (T.setVm vm₁).calling g' mk As.toArray, t, U', L, hT, X', hL, e1, e2, hq, st⟩
  · dsimp only [Pt.U, Pt.locs, Pt.cells, Pt.slots] at X' e1 e2 h1 h2 h3 st hcl
    subst h1; subst h2; subst h3
    exact Or.inr ⟨q, (T.setVm vm₁).calling g' mk As.toArray, t, U', L, E, ce, hT, X', hL, e1, e2, hq, hce, hcv, vx_cls hW₁ hcl, st⟩
end
end VXH
theorem vx_ofWH {l : Launch} {y : MethodName} {ws ws' : List Cond} {rm : Room} {Pc : Array Value → State → Prop} {Qc : Array Value → State → Outcome → State → Prop} {XC : String → State → State → Prop} {mc ms : Nat} {free : Addr → Prop} {cc : ByteArray} {maxL : Nat} {ret : Option FieldType} {hh : List (Nat × Nat × Nat × Nat)}
    (hy : plainName y.cls = true) (hw : ws = Cond.codeWith y cc maxL ret hh :: ws')
    (body : ∀ p e s m args below meth c s₁, BodyLoose p l y (headSpec ws rm) cc maxL ret e s m args below meth c s₁ → c.maxLocals = maxL → Pc args s →
      W p l e (headSpec ws rm).room s m args below meth c s.heap [] 0 0 (vx_MQ below Qc XC args s mc ms free) (entryFrame m args maxL)) : vx_Met l y ws rm Pc Qc XC mc ms free := by
  refine MetFree.of_bodyS (code := cc) (maxLocals := maxL) (ret := ret) hy ?_ ?_
  · intro args s m h hn
    obtain ⟨m9, meth, c, hn9, h1, h2, h3, h4, -, h5, h6, -⟩ := Cond.codeWith_spec (atoms_spec (ws := ws) h _ (by rw [hw]; exact List.mem_cons_self))
    cases hn.symm.trans hn9
    exact ⟨meth, c, h1, h2, h3, h4, h5, h6⟩
  · intro p e s m args below meth c s₁ B hml hP _
    have hh0 : s₁.heap = s.heap := by rw [B.state]; rfl
    obtain ⟨t, a1, o, b1, b2, b3⟩ := body p e s m args below meth c s₁ B hml hP s₁ hh0 (Stand.of_body B)
    exact ⟨t, o, a1, b1, b2, b3⟩
/-! ===== END ===== -/
end
section
def RX0 : String := "Pseudorange$Receiver"
def TX0 : u_T := fun k => match k with
  | 0 => ("Pseudorange$Receiver", "number", "I", true)
  | 1 => ("Pseudorange$Receiver", "bias", "I", true)
  | 2 => ("Pseudorange$Receiver", "sights", "[LPseudorange$Sight;", true)
  | 3 => ("Pseudorange$Receiver", "track", "LPseudorange$Track;", true)
  | 4 => ("Pseudorange$Receiver", "x", "I", false)
  | 5 => ("Pseudorange$Receiver", "y", "I", false)
  | 6 => ("Pseudorange$Receiver", "leftHill", "I", false)
  | 7 => ("Pseudorange$Receiver", "rightHill", "I", false)
  | 8 => ("Pseudorange$Receiver", "iono", "I", false)
  | 9 => ("Pseudorange$Receiver", "isDual", "Z", false)
  | 10 => ("Pseudorange$Receiver", "alertLimit", "I", false)
  | 11 => ("Pseudorange$Receiver", "spoofed", "I", false)
  | _ => ("Pseudorange$Receiver", "reference", "I", false)
def tyX0 : Nat → FieldType := fun k => match k with
  | 0 => .int
  | 1 => .int
  | 2 => .array (.object "Pseudorange$Sight")
  | 3 => .object "Pseudorange$Track"
  | 4 => .int
  | 5 => .int
  | 6 => .int
  | 7 => .int
  | 8 => .int
  | 9 => .boolean
  | 10 => .int
  | 11 => .int
  | _ => .int
abbrev wsX00 : List Cond := u_ws RX0 TX0 13
theorem nmX0 : ∀ a, a < 13 → ∀ b, b < 13 → a ≠ b → (TX0 a).2.1 ≠ (TX0 b).2.1 := by decide +kernel
theorem tyX0_ok : ∀ k, k < 13 → parseFieldDescriptor (TX0 k).2.2.1 = some (tyX0 k) := by decide +kernel
abbrev cX0_init : ByteArray := prog_2_method_1_code
def yX0_init : MethodName := ⟨RX0, "<init>", "(IIII)V"⟩
abbrev cX0_canSee : ByteArray := prog_2_method_2_code
def yX0_canSee : MethodName := ⟨RX0, "canSee", "(LPseudorange$Star;I)Z"⟩
abbrev cX0_trueCount : ByteArray := prog_2_method_3_code
def yX0_trueCount : MethodName := ⟨RX0, "trueCount", "(LPseudorange$Star;)I"⟩
abbrev cX0_airDelay : ByteArray := prog_2_method_4_code
def yX0_airDelay : MethodName := ⟨RX0, "airDelay", "(LPseudorange$Star;)I"⟩
def RX1 : String := "Pseudorange$Sight"
def TX1 : u_T := fun k => match k with
  | 0 => ("Pseudorange$Sight", "isSeen", "Z", false)
  | 1 => ("Pseudorange$Sight", "isFixed", "Z", false)
  | 2 => ("Pseudorange$Sight", "isUsed", "Z", false)
  | 3 => ("Pseudorange$Sight", "code", "I", false)
  | 4 => ("Pseudorange$Sight", "wave", "I", false)
  | 5 => ("Pseudorange$Sight", "count", "I", false)
  | 6 => ("Pseudorange$Sight", "left", "I", false)
  | 7 => ("Pseudorange$Sight", "kept", "I", false)
  | 8 => ("Pseudorange$Sight", "steady", "I", false)
  | 9 => ("Pseudorange$Sight", "correction", "I", false)
  | _ => ("Pseudorange$Sight", "offered", "I", false)
def tyX1 : Nat → FieldType := fun k => match k with
  | 0 => .boolean
  | 1 => .boolean
  | 2 => .boolean
  | 3 => .int
  | 4 => .int
  | 5 => .int
  | 6 => .int
  | 7 => .int
  | 8 => .int
  | 9 => .int
  | _ => .int
abbrev wsX10 : List Cond := u_ws RX1 TX1 11
theorem nmX1 : ∀ a, a < 11 → ∀ b, b < 11 → a ≠ b → (TX1 a).2.1 ≠ (TX1 b).2.1 := by decide +kernel
theorem tyX1_ok : ∀ k, k < 11 → parseFieldDescriptor (TX1 k).2.2.1 = some (tyX1 k) := by decide +kernel
abbrev cX1_init : ByteArray := prog_3_method_1_code
def yX1_init : MethodName := ⟨RX1, "<init>", "()V"⟩
abbrev cX1_take : ByteArray := prog_3_method_2_code
def yX1_take : MethodName := ⟨RX1, "take", "(IIZ)V"⟩
abbrev cX1_lose : ByteArray := prog_3_method_3_code
def yX1_lose : MethodName := ⟨RX1, "lose", "()V"⟩
abbrev cX1_forget : ByteArray := prog_3_method_4_code
def yX1_forget : MethodName := ⟨RX1, "forget", "()V"⟩
abbrev cX1_measured : ByteArray := prog_3_method_5_code
def yX1_measured : MethodName := ⟨RX1, "measured", "()I"⟩
abbrev cX1_tell : ByteArray := prog_3_method_6_code
def yX1_tell : MethodName := ⟨RX1, "tell", "(I)I"⟩
abbrev cX1_tellSeen : ByteArray := prog_3_method_7_code
def yX1_tellSeen : MethodName := ⟨RX1, "tellSeen", "(I)I"⟩
def RX2 : String := "Pseudorange$Solver"
def TX2 : u_T := fun k => match k with
  | 0 => ("Pseudorange$Solver", "starX", "[I", true)
  | 1 => ("Pseudorange$Solver", "starY", "[I", true)
  | 2 => ("Pseudorange$Solver", "pseudoranges", "[I", true)
  | 3 => ("Pseudorange$Solver", "weights", "[I", true)
  | 4 => ("Pseudorange$Solver", "over", "[I", true)
  | 5 => ("Pseudorange$Solver", "used", "I", false)
  | 6 => ("Pseudorange$Solver", "x", "I", false)
  | 7 => ("Pseudorange$Solver", "y", "I", false)
  | 8 => ("Pseudorange$Solver", "time", "I", false)
  | 9 => ("Pseudorange$Solver", "cost", "J", false)
  | 10 => ("Pseudorange$Solver", "level", "I", false)
  | 11 => ("Pseudorange$Solver", "bestX", "I", false)
  | 12 => ("Pseudorange$Solver", "bestY", "I", false)
  | 13 => ("Pseudorange$Solver", "bestTime", "I", false)
  | _ => ("Pseudorange$Solver", "bestCost", "J", false)
def tyX2 : Nat → FieldType := fun k => match k with
  | 0 => .array .int
  | 1 => .array .int
  | 2 => .array .int
  | 3 => .array .int
  | 4 => .array .int
  | 5 => .int
  | 6 => .int
  | 7 => .int
  | 8 => .int
  | 9 => .long
  | 10 => .int
  | 11 => .int
  | 12 => .int
  | 13 => .int
  | _ => .long
abbrev wsX20 : List Cond := u_ws RX2 TX2 15
theorem nmX2 : ∀ a, a < 15 → ∀ b, b < 15 → a ≠ b → (TX2 a).2.1 ≠ (TX2 b).2.1 := by decide +kernel
theorem tyX2_ok : ∀ k, k < 15 → parseFieldDescriptor (TX2 k).2.2.1 = some (tyX2 k) := by decide +kernel
abbrev cX2_init : ByteArray := prog_4_method_1_code
def yX2_init : MethodName := ⟨RX2, "<init>", "()V"⟩
abbrev cX2_clear : ByteArray := prog_4_method_2_code
def yX2_clear : MethodName := ⟨RX2, "clear", "()V"⟩
abbrev cX2_use : ByteArray := prog_4_method_3_code
def yX2_use : MethodName := ⟨RX2, "use", "(IIII)V"⟩
abbrev cX2_hasSolution : ByteArray := prog_4_method_4_code
def yX2_hasSolution : MethodName := ⟨RX2, "hasSolution", "()Z"⟩
abbrev cX2_solve : ByteArray := prog_4_method_5_code
def yX2_solve : MethodName := ⟨RX2, "solve", "()V"⟩
abbrev cX2_search : ByteArray := prog_4_method_6_code
def yX2_search : MethodName := ⟨RX2, "search", "(I)V"⟩
abbrev cX2_tryPlace : ByteArray := prog_4_method_7_code
def yX2_tryPlace : MethodName := ⟨RX2, "tryPlace", "(III)V"⟩
abbrev cX2_costBy : ByteArray := prog_4_method_8_code
def yX2_costBy : MethodName := ⟨RX2, "costBy", "(II)J"⟩
def RX3 : String := "Pseudorange$Star"
def TX3 : u_T := fun k => match k with
  | 0 => ("Pseudorange$Star", "radius", "I", true)
  | 1 => ("Pseudorange$Star", "spin", "I", true)
  | 2 => ("Pseudorange$Star", "phase", "I", false)
  | 3 => ("Pseudorange$Star", "offset", "I", false)
  | 4 => ("Pseudorange$Star", "drift", "I", false)
  | 5 => ("Pseudorange$Star", "isHealthy", "Z", false)
  | 6 => ("Pseudorange$Star", "issue", "I", false)
  | 7 => ("Pseudorange$Star", "toldEpoch", "I", false)
  | 8 => ("Pseudorange$Star", "toldPhase", "I", false)
  | 9 => ("Pseudorange$Star", "toldOffset", "I", false)
  | _ => ("Pseudorange$Star", "toldDrift", "I", false)
def tyX3 : Nat → FieldType := fun k => match k with
  | 0 => .int
  | 1 => .int
  | 2 => .int
  | 3 => .int
  | 4 => .int
  | 5 => .boolean
  | 6 => .int
  | 7 => .int
  | 8 => .int
  | 9 => .int
  | _ => .int
abbrev wsX30 : List Cond := u_ws RX3 TX3 11
theorem nmX3 : ∀ a, a < 11 → ∀ b, b < 11 → a ≠ b → (TX3 a).2.1 ≠ (TX3 b).2.1 := by decide +kernel
theorem tyX3_ok : ∀ k, k < 11 → parseFieldDescriptor (TX3 k).2.2.1 = some (tyX3 k) := by decide +kernel
abbrev cX3_init : ByteArray := prog_5_method_1_code
def yX3_init : MethodName := ⟨RX3, "<init>", "(IIIII)V"⟩
abbrev cX3_moveClock : ByteArray := prog_5_method_2_code
def yX3_moveClock : MethodName := ⟨RX3, "moveClock", "(I)V"⟩
abbrev cX3_passOne : ByteArray := prog_5_method_3_code
def yX3_passOne : MethodName := ⟨RX3, "passOne", "()V"⟩
abbrev cX3_xIn : ByteArray := prog_5_method_4_code
def yX3_xIn : MethodName := ⟨RX3, "xIn", "(I)I"⟩
abbrev cX3_yIn : ByteArray := prog_5_method_5_code
def yX3_yIn : MethodName := ⟨RX3, "yIn", "(I)I"⟩
abbrev cX3_takeMessage : ByteArray := prog_5_method_6_code
def yX3_takeMessage : MethodName := ⟨RX3, "takeMessage", "(II)V"⟩
abbrev cX3_messageHolds : ByteArray := prog_5_method_7_code
def yX3_messageHolds : MethodName := ⟨RX3, "messageHolds", "(I)Z"⟩
abbrev cX3_toldX : ByteArray := prog_5_method_8_code
def yX3_toldX : MethodName := ⟨RX3, "toldX", "(I)I"⟩
abbrev cX3_toldY : ByteArray := prog_5_method_9_code
def yX3_toldY : MethodName := ⟨RX3, "toldY", "(I)I"⟩
abbrev cX3_toldClock : ByteArray := prog_5_method_10_code
def yX3_toldClock : MethodName := ⟨RX3, "toldClock", "(I)I"⟩
abbrev cX3_tell : ByteArray := prog_5_method_11_code
def yX3_tell : MethodName := ⟨RX3, "tell", "(I)I"⟩
abbrev cX3_tellMessage : ByteArray := prog_5_method_12_code
def yX3_tellMessage : MethodName := ⟨RX3, "tellMessage", "(II)I"⟩
def RX4 : String := "Pseudorange$Station"
def TX4 : u_T := fun k => match k with
  | 0 => ("Pseudorange$Station", "x", "I", true)
  | _ => ("Pseudorange$Station", "delay", "I", true)
def tyX4 : Nat → FieldType := fun k => match k with
  | 0 => .int
  | _ => .int
abbrev wsX40 : List Cond := u_ws RX4 TX4 2
theorem nmX4 : ∀ a, a < 2 → ∀ b, b < 2 → a ≠ b → (TX4 a).2.1 ≠ (TX4 b).2.1 := by decide +kernel
theorem tyX4_ok : ∀ k, k < 2 → parseFieldDescriptor (TX4 k).2.2.1 = some (tyX4 k) := by decide +kernel
abbrev cX4_init : ByteArray := prog_6_method_1_code
def yX4_init : MethodName := ⟨RX4, "<init>", "(II)V"⟩
abbrev cX4_canHear : ByteArray := prog_6_method_2_code
def yX4_canHear : MethodName := ⟨RX4, "canHear", "(LPseudorange$Star;I)Z"⟩
def RX5 : String := "Pseudorange$Track"
def TX5 : u_T := fun k => match k with
  | 0 => ("Pseudorange$Track", "observations", "I", false)
  | 1 => ("Pseudorange$Track", "latest", "I", false)
  | 2 => ("Pseudorange$Track", "used", "I", false)
  | 3 => ("Pseudorange$Track", "solutions", "I", false)
  | 4 => ("Pseudorange$Track", "errors", "I", false)
  | 5 => ("Pseudorange$Track", "x", "I", false)
  | 6 => ("Pseudorange$Track", "y", "I", false)
  | 7 => ("Pseudorange$Track", "time", "I", false)
  | 8 => ("Pseudorange$Track", "cost", "I", false)
  | 9 => ("Pseudorange$Track", "level", "I", false)
  | 10 => ("Pseudorange$Track", "alarm", "I", false)
  | 11 => ("Pseudorange$Track", "misled", "I", false)
  | _ => ("Pseudorange$Track", "alarmEpoch", "I", false)
def tyX5 : Nat → FieldType := fun k => match k with
  | 0 => .int
  | 1 => .int
  | 2 => .int
  | 3 => .int
  | 4 => .int
  | 5 => .int
  | 6 => .int
  | 7 => .int
  | 8 => .int
  | 9 => .int
  | 10 => .int
  | 11 => .int
  | _ => .int
abbrev wsX50 : List Cond := u_ws RX5 TX5 13
theorem nmX5 : ∀ a, a < 13 → ∀ b, b < 13 → a ≠ b → (TX5 a).2.1 ≠ (TX5 b).2.1 := by decide +kernel
theorem tyX5_ok : ∀ k, k < 13 → parseFieldDescriptor (TX5 k).2.2.1 = some (tyX5 k) := by decide +kernel
abbrev cX5_init : ByteArray := prog_7_method_1_code
def yX5_init : MethodName := ⟨RX5, "<init>", "()V"⟩
abbrev cX5_hasObservedIn : ByteArray := prog_7_method_2_code
def yX5_hasObservedIn : MethodName := ⟨RX5, "hasObservedIn", "(I)Z"⟩
abbrev cX5_hasObservedSince : ByteArray := prog_7_method_3_code
def yX5_hasObservedSince : MethodName := ⟨RX5, "hasObservedSince", "(I)Z"⟩
abbrev cX5_leapsTo : ByteArray := prog_7_method_4_code
def yX5_leapsTo : MethodName := ⟨RX5, "leapsTo", "(III)Z"⟩
abbrev cX5_keepAll : ByteArray := prog_7_method_5_code
def yX5_keepAll : MethodName := ⟨RX5, "keepAll", "(ILPseudorange$Solver;III)V"⟩
abbrev cX5_keepSolution : ByteArray := prog_7_method_6_code
def yX5_keepSolution : MethodName := ⟨RX5, "keepSolution", "(LPseudorange$Solver;II)V"⟩
abbrev cX5_errorAt : ByteArray := prog_7_method_7_code
def yX5_errorAt : MethodName := ⟨RX5, "errorAt", "(II)I"⟩
abbrev cX5_meanOfErrors : ByteArray := prog_7_method_8_code
def yX5_meanOfErrors : MethodName := ⟨RX5, "meanOfErrors", "()D"⟩
abbrev cX5_tell : ByteArray := prog_7_method_9_code
def yX5_tell : MethodName := ⟨RX5, "tell", "(I)I"⟩
def RX6 : String := "Pseudorange"
def TX6 : u_T := fun k => match k with
  | 0 => ("Pseudorange", "stars", "[LPseudorange$Star;", true)
  | 1 => ("Pseudorange", "stations", "[LPseudorange$Station;", true)
  | 2 => ("Pseudorange", "receivers", "[LPseudorange$Receiver;", true)
  | 3 => ("Pseudorange", "solver", "LPseudorange$Solver;", true)
  | 4 => ("Pseudorange", "starCount", "I", false)
  | 5 => ("Pseudorange", "stationCount", "I", false)
  | 6 => ("Pseudorange", "receiverCount", "I", false)
  | _ => ("Pseudorange", "epoch", "I", false)
def tyX6 : Nat → FieldType := fun k => match k with
  | 0 => .array (.object "Pseudorange$Star")
  | 1 => .array (.object "Pseudorange$Station")
  | 2 => .array (.object "Pseudorange$Receiver")
  | 3 => .object "Pseudorange$Solver"
  | 4 => .int
  | 5 => .int
  | 6 => .int
  | _ => .int
abbrev wsX60 : List Cond := u_ws RX6 TX6 8
theorem nmX6 : ∀ a, a < 8 → ∀ b, b < 8 → a ≠ b → (TX6 a).2.1 ≠ (TX6 b).2.1 := by decide +kernel
theorem tyX6_ok : ∀ k, k < 8 → parseFieldDescriptor (TX6 k).2.2.1 = some (tyX6 k) := by decide +kernel
abbrev cX6_init : ByteArray := prog_1_method_1_code
def yX6_init : MethodName := ⟨RX6, "<init>", "()V"⟩
abbrev cX6_star : ByteArray := prog_1_method_2_code
def yX6_star : MethodName := ⟨RX6, "star", "(IIIII)I"⟩
abbrev cX6_push : ByteArray := prog_1_method_3_code
def yX6_push : MethodName := ⟨RX6, "push", "(II)I"⟩
abbrev cX6_jump : ByteArray := prog_1_method_4_code
def yX6_jump : MethodName := ⟨RX6, "jump", "(III)I"⟩
abbrev cX6_health : ByteArray := prog_1_method_5_code
def yX6_health : MethodName := ⟨RX6, "health", "(IZ)Z"⟩
abbrev cX6_station : ByteArray := prog_1_method_6_code
def yX6_station : MethodName := ⟨RX6, "station", "(II)I"⟩
abbrev cX6_listen : ByteArray := prog_1_method_7_code
def yX6_listen : MethodName := ⟨RX6, "listen", "(II)I"⟩
abbrev cX6_receiver : ByteArray := prog_1_method_8_code
def yX6_receiver : MethodName := ⟨RX6, "receiver", "(III)I"⟩
abbrev cX6_go : ByteArray := prog_1_method_9_code
def yX6_go : MethodName := ⟨RX6, "go", "(III)I"⟩
abbrev cX6_hills : ByteArray := prog_1_method_10_code
def yX6_hills : MethodName := ⟨RX6, "hills", "(III)I"⟩
abbrev cX6_air : ByteArray := prog_1_method_11_code
def yX6_air : MethodName := ⟨RX6, "air", "(IIZ)I"⟩
abbrev cX6_alert : ByteArray := prog_1_method_12_code
def yX6_alert : MethodName := ⟨RX6, "alert", "(II)I"⟩
abbrev cX6_spoof : ByteArray := prog_1_method_13_code
def yX6_spoof : MethodName := ⟨RX6, "spoof", "(II)I"⟩
abbrev cX6_refer : ByteArray := prog_1_method_14_code
def yX6_refer : MethodName := ⟨RX6, "refer", "(II)I"⟩
abbrev cX6_pass : ByteArray := prog_1_method_15_code
def yX6_pass : MethodName := ⟨RX6, "pass", "(I)I"⟩
abbrev cX6_observe : ByteArray := prog_1_method_16_code
def yX6_observe : MethodName := ⟨RX6, "observe", "(I)I"⟩
abbrev cX6_ofStar : ByteArray := prog_1_method_17_code
def yX6_ofStar : MethodName := ⟨RX6, "ofStar", "(II)I"⟩
abbrev cX6_message : ByteArray := prog_1_method_18_code
def yX6_message : MethodName := ⟨RX6, "message", "(II)I"⟩
abbrev cX6_seen : ByteArray := prog_1_method_19_code
def yX6_seen : MethodName := ⟨RX6, "seen", "(III)I"⟩
abbrev cX6_ofReceiver : ByteArray := prog_1_method_20_code
def yX6_ofReceiver : MethodName := ⟨RX6, "ofReceiver", "(II)I"⟩
abbrev cX6_many : ByteArray := prog_1_method_21_code
def yX6_many : MethodName := ⟨RX6, "many", "(I)I"⟩
abbrev cX6_meanError : ByteArray := prog_1_method_22_code
def yX6_meanError : MethodName := ⟨RX6, "meanError", "(I)D"⟩
abbrev cX6_wouldSee : ByteArray := prog_1_method_23_code
def yX6_wouldSee : MethodName := ⟨RX6, "wouldSee", "(II)I"⟩
abbrev cX6_heardIn : ByteArray := prog_1_method_24_code
def yX6_heardIn : MethodName := ⟨RX6, "heardIn", "(II)I"⟩
abbrev cX6_without : ByteArray := prog_1_method_25_code
def yX6_without : MethodName := ⟨RX6, "without", "(II)I"⟩
abbrev cX6_wouldAlarm : ByteArray := prog_1_method_26_code
def yX6_wouldAlarm : MethodName := ⟨RX6, "wouldAlarm", "(I)I"⟩
abbrev cX6_digest : ByteArray := prog_1_method_27_code
def yX6_digest : MethodName := ⟨RX6, "digest", "()J"⟩
abbrev cX6_isOutside : ByteArray := prog_1_method_28_code
def yX6_isOutside : MethodName := ⟨RX6, "isOutside", "(III)Z"⟩
abbrev cX6_isNoPlace : ByteArray := prog_1_method_29_code
def yX6_isNoPlace : MethodName := ⟨RX6, "isNoPlace", "(II)Z"⟩
abbrev cX6_isNoStar : ByteArray := prog_1_method_30_code
def yX6_isNoStar : MethodName := ⟨RX6, "isNoStar", "(I)Z"⟩
abbrev cX6_isNoStation : ByteArray := prog_1_method_31_code
def yX6_isNoStation : MethodName := ⟨RX6, "isNoStation", "(I)Z"⟩
abbrev cX6_isNoReceiver : ByteArray := prog_1_method_32_code
def yX6_isNoReceiver : MethodName := ⟨RX6, "isNoReceiver", "(I)Z"⟩
abbrev cX6_held : ByteArray := prog_1_method_33_code
def yX6_held : MethodName := ⟨RX6, "held", "(II)I"⟩
abbrev cX6_rangeOf : ByteArray := prog_1_method_34_code
def yX6_rangeOf : MethodName := ⟨RX6, "rangeOf", "(IIII)I"⟩
abbrev cX6_swing : ByteArray := prog_1_method_35_code
def yX6_swing : MethodName := ⟨RX6, "swing", "(I)I"⟩
abbrev cX6_passOne : ByteArray := prog_1_method_36_code
def yX6_passOne : MethodName := ⟨RX6, "passOne", "()V"⟩
abbrev cX6_setSeen : ByteArray := prog_1_method_37_code
def yX6_setSeen : MethodName := ⟨RX6, "setSeen", "(LPseudorange$Receiver;I)I"⟩
abbrev cX6_firstHeard : ByteArray := prog_1_method_38_code
def yX6_firstHeard : MethodName := ⟨RX6, "firstHeard", "(LPseudorange$Star;LPseudorange$Station;)I"⟩
abbrev cX6_measure : ByteArray := prog_1_method_39_code
def yX6_measure : MethodName := ⟨RX6, "measure", "(LPseudorange$Receiver;)V"⟩
abbrev cX6_codeOf : ByteArray := prog_1_method_40_code
def yX6_codeOf : MethodName := ⟨RX6, "codeOf", "(LPseudorange$Receiver;I)I"⟩
abbrev cX6_gatherMeasured : ByteArray := prog_1_method_41_code
def yX6_gatherMeasured : MethodName := ⟨RX6, "gatherMeasured", "(LPseudorange$Receiver;)V"⟩
abbrev cX6_gatherSupposed : ByteArray := prog_1_method_42_code
def yX6_gatherSupposed : MethodName := ⟨RX6, "gatherSupposed", "(LPseudorange$Receiver;I)V"⟩
abbrev cX6_use : ByteArray := prog_1_method_43_code
def yX6_use : MethodName := ⟨RX6, "use", "(LPseudorange$Star;IZ)V"⟩
abbrev cX6_correctionOf : ByteArray := prog_1_method_44_code
def yX6_correctionOf : MethodName := ⟨RX6, "correctionOf", "(LPseudorange$Receiver;I)I"⟩
abbrev cX6_offerCorrections : ByteArray := prog_1_method_45_code
def yX6_offerCorrections : MethodName := ⟨RX6, "offerCorrections", "(LPseudorange$Receiver;)V"⟩
abbrev cX6_tooFar : ByteArray := prog_1_method_46_code
def yX6_tooFar : MethodName := ⟨RX6, "tooFar", "(LPseudorange$Receiver;LPseudorange$Star;I)I"⟩
abbrev cX6_alarmOf : ByteArray := prog_1_method_47_code
def yX6_alarmOf : MethodName := ⟨RX6, "alarmOf", "(LPseudorange$Receiver;Z)I"⟩
abbrev cX6_supposedAlarm : ByteArray := prog_1_method_48_code
def yX6_supposedAlarm : MethodName := ⟨RX6, "supposedAlarm", "(LPseudorange$Receiver;)I"⟩
abbrev cX6_tellReceiver : ByteArray := prog_1_method_49_code
def yX6_tellReceiver : MethodName := ⟨RX6, "tellReceiver", "(LPseudorange$Receiver;I)I"⟩
abbrev cX6_countOf : ByteArray := prog_1_method_50_code
def yX6_countOf : MethodName := ⟨RX6, "countOf", "(I)I"⟩
abbrev cX6_sumOfStars : ByteArray := prog_1_method_51_code
def yX6_sumOfStars : MethodName := ⟨RX6, "sumOfStars", "(I)I"⟩
abbrev cX6_sumOfReceivers : ByteArray := prog_1_method_52_code
def yX6_sumOfReceivers : MethodName := ⟨RX6, "sumOfReceivers", "(I)I"⟩
abbrev cX6_digestStar : ByteArray := prog_1_method_53_code
def yX6_digestStar : MethodName := ⟨RX6, "digestStar", "(JLPseudorange$Star;)J"⟩
abbrev cX6_digestReceiver : ByteArray := prog_1_method_54_code
def yX6_digestReceiver : MethodName := ⟨RX6, "digestReceiver", "(JLPseudorange$Receiver;)J"⟩
def RX7 : String := "PseudorangeModel"
def TX7 : u_T := fun k => match k with
  | 0 => ("PseudorangeModel", "thrown", "I", false)
  | 1 => ("PseudorangeModel", "epoch", "I", false)
  | 2 => ("PseudorangeModel", "observations", "I", false)
  | 3 => ("PseudorangeModel", "stars", "[[I", true)
  | 4 => ("PseudorangeModel", "messages", "[[I", true)
  | 5 => ("PseudorangeModel", "stations", "[[I", true)
  | 6 => ("PseudorangeModel", "receivers", "[[I", true)
  | 7 => ("PseudorangeModel", "rows", "[[[I", true)
  | 8 => ("PseudorangeModel", "manyStars", "I", false)
  | 9 => ("PseudorangeModel", "manyStations", "I", false)
  | 10 => ("PseudorangeModel", "manyReceivers", "I", false)
  | 11 => ("PseudorangeModel", "sx", "[I", true)
  | 12 => ("PseudorangeModel", "sy", "[I", true)
  | 13 => ("PseudorangeModel", "pseudo", "[I", true)
  | 14 => ("PseudorangeModel", "weights", "[I", true)
  | 15 => ("PseudorangeModel", "bestX", "I", false)
  | 16 => ("PseudorangeModel", "bestY", "I", false)
  | 17 => ("PseudorangeModel", "bestTime", "I", false)
  | 18 => ("PseudorangeModel", "bestCost", "J", false)
  | _ => ("PseudorangeModel", "sum", "J", false)
def tyX7 : Nat → FieldType := fun k => match k with
  | 0 => .int
  | 1 => .int
  | 2 => .int
  | 3 => .array (.array .int)
  | 4 => .array (.array .int)
  | 5 => .array (.array .int)
  | 6 => .array (.array .int)
  | 7 => .array (.array (.array .int))
  | 8 => .int
  | 9 => .int
  | 10 => .int
  | 11 => .array .int
  | 12 => .array .int
  | 13 => .array .int
  | 14 => .array .int
  | 15 => .int
  | 16 => .int
  | 17 => .int
  | 18 => .long
  | _ => .long
abbrev wsX70 : List Cond := u_ws RX7 TX7 20
theorem nmX7 : ∀ a, a < 20 → ∀ b, b < 20 → a ≠ b → (TX7 a).2.1 ≠ (TX7 b).2.1 := by decide +kernel
theorem tyX7_ok : ∀ k, k < 20 → parseFieldDescriptor (TX7 k).2.2.1 = some (tyX7 k) := by decide +kernel
abbrev cX7_init : ByteArray := prog_9_method_1_code
def yX7_init : MethodName := ⟨RX7, "<init>", "()V"⟩
abbrev cX7_thrown : ByteArray := prog_9_method_2_code
def yX7_thrown : MethodName := ⟨RX7, "thrown", "()I"⟩
abbrev cX7_refuse : ByteArray := prog_9_method_3_code
def yX7_refuse : MethodName := ⟨RX7, "refuse", "(I)I"⟩
abbrev cX7_is : ByteArray := prog_9_method_4_code
def yX7_is : MethodName := ⟨RX7, "is", "(III)Z"⟩
abbrev cX7_held : ByteArray := prog_9_method_5_code
def yX7_held : MethodName := ⟨RX7, "held", "(II)I"⟩
abbrev cX7_tOf : ByteArray := prog_9_method_6_code
def yX7_tOf : MethodName := ⟨RX7, "tOf", "(I)I"⟩
abbrev cX7_xAt : ByteArray := prog_9_method_7_code
def yX7_xAt : MethodName := ⟨RX7, "xAt", "(II)I"⟩
abbrev cX7_yAt : ByteArray := prog_9_method_8_code
def yX7_yAt : MethodName := ⟨RX7, "yAt", "(II)I"⟩
abbrev cX7_range : ByteArray := prog_9_method_9_code
def yX7_range : MethodName := ⟨RX7, "range", "(IIII)I"⟩
abbrev cX7_phaseIn : ByteArray := prog_9_method_10_code
def yX7_phaseIn : MethodName := ⟨RX7, "phaseIn", "(II)I"⟩
abbrev cX7_since : ByteArray := prog_9_method_11_code
def yX7_since : MethodName := ⟨RX7, "since", "(I)I"⟩
abbrev cX7_toldPhase : ByteArray := prog_9_method_12_code
def yX7_toldPhase : MethodName := ⟨RX7, "toldPhase", "(I)I"⟩
abbrev cX7_toldOffset : ByteArray := prog_9_method_13_code
def yX7_toldOffset : MethodName := ⟨RX7, "toldOffset", "(I)I"⟩
abbrev cX7_holds : ByteArray := prog_9_method_14_code
def yX7_holds : MethodName := ⟨RX7, "holds", "(I)Z"⟩
abbrev cX7_isHeard : ByteArray := prog_9_method_15_code
def yX7_isHeard : MethodName := ⟨RX7, "isHeard", "(III)Z"⟩
abbrev cX7_sees : ByteArray := prog_9_method_16_code
def yX7_sees : MethodName := ⟨RX7, "sees", "(III)Z"⟩
abbrev cX7_setSeen : ByteArray := prog_9_method_17_code
def yX7_setSeen : MethodName := ⟨RX7, "setSeen", "(II)I"⟩
abbrev cX7_isStar : ByteArray := prog_9_method_18_code
def yX7_isStar : MethodName := ⟨RX7, "isStar", "(I)Z"⟩
abbrev cX7_isStation : ByteArray := prog_9_method_19_code
def yX7_isStation : MethodName := ⟨RX7, "isStation", "(I)Z"⟩
abbrev cX7_isReceiver : ByteArray := prog_9_method_20_code
def yX7_isReceiver : MethodName := ⟨RX7, "isReceiver", "(I)Z"⟩
abbrev cX7_star : ByteArray := prog_9_method_21_code
def yX7_star : MethodName := ⟨RX7, "star", "(IIIII)I"⟩
abbrev cX7_push : ByteArray := prog_9_method_22_code
def yX7_push : MethodName := ⟨RX7, "push", "(II)I"⟩
abbrev cX7_jump : ByteArray := prog_9_method_23_code
def yX7_jump : MethodName := ⟨RX7, "jump", "(III)I"⟩
abbrev cX7_health : ByteArray := prog_9_method_24_code
def yX7_health : MethodName := ⟨RX7, "health", "(IZ)Z"⟩
abbrev cX7_station : ByteArray := prog_9_method_25_code
def yX7_station : MethodName := ⟨RX7, "station", "(II)I"⟩
abbrev cX7_listen : ByteArray := prog_9_method_26_code
def yX7_listen : MethodName := ⟨RX7, "listen", "(II)I"⟩
abbrev cX7_isPlace : ByteArray := prog_9_method_27_code
def yX7_isPlace : MethodName := ⟨RX7, "isPlace", "(II)Z"⟩
abbrev cX7_receiver : ByteArray := prog_9_method_28_code
def yX7_receiver : MethodName := ⟨RX7, "receiver", "(III)I"⟩
abbrev cX7_go : ByteArray := prog_9_method_29_code
def yX7_go : MethodName := ⟨RX7, "go", "(III)I"⟩
abbrev cX7_hills : ByteArray := prog_9_method_30_code
def yX7_hills : MethodName := ⟨RX7, "hills", "(III)I"⟩
abbrev cX7_change : ByteArray := prog_9_method_31_code
def yX7_change : MethodName := ⟨RX7, "change", "(III)I"⟩
abbrev cX7_air : ByteArray := prog_9_method_32_code
def yX7_air : MethodName := ⟨RX7, "air", "(IIZ)I"⟩
abbrev cX7_alert : ByteArray := prog_9_method_33_code
def yX7_alert : MethodName := ⟨RX7, "alert", "(II)I"⟩
abbrev cX7_spoof : ByteArray := prog_9_method_34_code
def yX7_spoof : MethodName := ⟨RX7, "spoof", "(II)I"⟩
abbrev cX7_refer : ByteArray := prog_9_method_35_code
def yX7_refer : MethodName := ⟨RX7, "refer", "(II)I"⟩
abbrev cX7_pass : ByteArray := prog_9_method_36_code
def yX7_pass : MethodName := ⟨RX7, "pass", "(I)I"⟩
abbrev cX7_trueOf : ByteArray := prog_9_method_37_code
def yX7_trueOf : MethodName := ⟨RX7, "trueOf", "(II)I"⟩
abbrev cX7_codeOf : ByteArray := prog_9_method_38_code
def yX7_codeOf : MethodName := ⟨RX7, "codeOf", "(II)I"⟩
abbrev cX7_correction : ByteArray := prog_9_method_39_code
def yX7_correction : MethodName := ⟨RX7, "correction", "(II)I"⟩
abbrev cX7_solve : ByteArray := prog_9_method_40_code
def yX7_solve : MethodName := ⟨RX7, "solve", "()V"⟩
abbrev cX7_over : ByteArray := prog_9_method_41_code
def yX7_over : MethodName := ⟨RX7, "over", "(III)I"⟩
abbrev cX7_look : ByteArray := prog_9_method_42_code
def yX7_look : MethodName := ⟨RX7, "look", "(II)V"⟩
abbrev cX7_lay : ByteArray := prog_9_method_43_code
def yX7_lay : MethodName := ⟨RX7, "lay", "(IZI)I"⟩
abbrev cX7_level : ByteArray := prog_9_method_44_code
def yX7_level : MethodName := ⟨RX7, "level", "(I)I"⟩
abbrev cX7_alarm : ByteArray := prog_9_method_45_code
def yX7_alarm : MethodName := ⟨RX7, "alarm", "(III)I"⟩
abbrev cX7_see : ByteArray := prog_9_method_46_code
def yX7_see : MethodName := ⟨RX7, "see", "(IIZ)V"⟩
abbrev cX7_observe : ByteArray := prog_9_method_47_code
def yX7_observe : MethodName := ⟨RX7, "observe", "(I)I"⟩
abbrev cX7_place : ByteArray := prog_9_method_48_code
def yX7_place : MethodName := ⟨RX7, "place", "(IIZII)V"⟩
abbrev cX7_ofStarNow : ByteArray := prog_9_method_49_code
def yX7_ofStarNow : MethodName := ⟨RX7, "ofStarNow", "(II)I"⟩
abbrev cX7_ofStar : ByteArray := prog_9_method_50_code
def yX7_ofStar : MethodName := ⟨RX7, "ofStar", "(II)I"⟩
abbrev cX7_messageNow : ByteArray := prog_9_method_51_code
def yX7_messageNow : MethodName := ⟨RX7, "messageNow", "(II)I"⟩
abbrev cX7_message : ByteArray := prog_9_method_52_code
def yX7_message : MethodName := ⟨RX7, "message", "(II)I"⟩
abbrev cX7_seenNow : ByteArray := prog_9_method_53_code
def yX7_seenNow : MethodName := ⟨RX7, "seenNow", "(III)I"⟩
abbrev cX7_seen : ByteArray := prog_9_method_54_code
def yX7_seen : MethodName := ⟨RX7, "seen", "(III)I"⟩
abbrev cX7_ofReceiverNow : ByteArray := prog_9_method_55_code
def yX7_ofReceiverNow : MethodName := ⟨RX7, "ofReceiverNow", "(II)I"⟩
abbrev cX7_ofReceiver : ByteArray := prog_9_method_56_code
def yX7_ofReceiver : MethodName := ⟨RX7, "ofReceiver", "(II)I"⟩
abbrev cX7_manyNow : ByteArray := prog_9_method_57_code
def yX7_manyNow : MethodName := ⟨RX7, "manyNow", "(I)I"⟩
abbrev cX7_many : ByteArray := prog_9_method_58_code
def yX7_many : MethodName := ⟨RX7, "many", "(I)I"⟩
abbrev cX7_meanError : ByteArray := prog_9_method_59_code
def yX7_meanError : MethodName := ⟨RX7, "meanError", "(I)D"⟩
abbrev cX7_wouldSee : ByteArray := prog_9_method_60_code
def yX7_wouldSee : MethodName := ⟨RX7, "wouldSee", "(II)I"⟩
abbrev cX7_heardNow : ByteArray := prog_9_method_61_code
def yX7_heardNow : MethodName := ⟨RX7, "heardNow", "(II)I"⟩
abbrev cX7_heardIn : ByteArray := prog_9_method_62_code
def yX7_heardIn : MethodName := ⟨RX7, "heardIn", "(II)I"⟩
abbrev cX7_without : ByteArray := prog_9_method_63_code
def yX7_without : MethodName := ⟨RX7, "without", "(II)I"⟩
abbrev cX7_alarmNow : ByteArray := prog_9_method_64_code
def yX7_alarmNow : MethodName := ⟨RX7, "alarmNow", "(I)I"⟩
abbrev cX7_wouldAlarm : ByteArray := prog_9_method_65_code
def yX7_wouldAlarm : MethodName := ⟨RX7, "wouldAlarm", "(I)I"⟩
abbrev cX7_add : ByteArray := prog_9_method_66_code
def yX7_add : MethodName := ⟨RX7, "add", "(I)V"⟩
abbrev cX7_digest : ByteArray := prog_9_method_67_code
def yX7_digest : MethodName := ⟨RX7, "digest", "()J"⟩
def RJ6 : String := "java/lang/Integer"
def TJ6 : u_T := fun k => match k with
  | _ => ("", "", "", false)
def tyJ6 : Nat → FieldType := fun k => match k with
  | _ => .int
abbrev wsJ60 : List Cond := u_ws RJ6 TJ6 0
theorem nmJ6 : ∀ a, a < 0 → ∀ b, b < 0 → a ≠ b → (TJ6 a).2.1 ≠ (TJ6 b).2.1 := by decide +kernel
theorem tyJ6_ok : ∀ k, k < 0 → parseFieldDescriptor (TJ6 k).2.2.1 = some (tyJ6 k) := by decide +kernel
abbrev cJ6_bitCount_0f7a4 : ByteArray := prog_14_method_49_code
def yJ6_bitCount_0f7a4 : MethodName := ⟨RJ6, "bitCount", "(I)I"⟩
def RJ9 : String := "java/lang/Math"
def TJ9 : u_T := fun k => match k with
  | _ => ("", "", "", false)
def tyJ9 : Nat → FieldType := fun k => match k with
  | _ => .int
abbrev wsJ90 : List Cond := u_ws RJ9 TJ9 0
theorem nmJ9 : ∀ a, a < 0 → ∀ b, b < 0 → a ≠ b → (TJ9 a).2.1 ≠ (TJ9 b).2.1 := by decide +kernel
theorem tyJ9_ok : ∀ k, k < 0 → parseFieldDescriptor (TJ9 k).2.2.1 = some (tyJ9 k) := by decide +kernel
abbrev cJ9_floorDiv_7cf53 : ByteArray := prog_15_method_47_code
def yJ9_floorDiv_7cf53 : MethodName := ⟨RJ9, "floorDiv", "(II)I"⟩
abbrev cJ9_floorMod_7cf53 : ByteArray := prog_15_method_50_code
def yJ9_floorMod_7cf53 : MethodName := ⟨RJ9, "floorMod", "(II)I"⟩
abbrev cJ9_abs_0f7a4 : ByteArray := prog_15_method_59_code
def yJ9_abs_0f7a4 : MethodName := ⟨RJ9, "abs", "(I)I"⟩
abbrev cJ9_max_7cf53 : ByteArray := prog_15_method_65_code
def yJ9_max_7cf53 : MethodName := ⟨RJ9, "max", "(II)I"⟩
abbrev cJ9_min_7cf53 : ByteArray := prog_15_method_69_code
def yJ9_min_7cf53 : MethodName := ⟨RJ9, "min", "(II)I"⟩
def RJ0 : String := "java/lang/String"
def TJ0 : u_T := fun k => match k with
  | _ => ("", "", "", false)
def tyJ0 : Nat → FieldType := fun k => match k with
  | _ => .int
abbrev wsJ00 : List Cond := u_ws RJ0 TJ0 0
theorem nmJ0 : ∀ a, a < 0 → ∀ b, b < 0 → a ≠ b → (TJ0 a).2.1 ≠ (TJ0 b).2.1 := by decide +kernel
theorem tyJ0_ok : ∀ k, k < 0 → parseFieldDescriptor (TJ0 k).2.2.1 = some (tyJ0 k) := by decide +kernel
def RL : String := "PseudorangeLaw"
abbrev cL_star : ByteArray := method_3_code
def yL_star : MethodName := ⟨RL, "star", "(LPseudorange;IIIII[J)I"⟩
abbrev cL_push : ByteArray := method_4_code
def yL_push : MethodName := ⟨RL, "push", "(LPseudorange;II[J)I"⟩
abbrev cL_jump : ByteArray := method_5_code
def yL_jump : MethodName := ⟨RL, "jump", "(LPseudorange;III[J)I"⟩
abbrev cL_health : ByteArray := method_6_code
def yL_health : MethodName := ⟨RL, "health", "(LPseudorange;IZ[J)I"⟩
abbrev cL_station : ByteArray := method_7_code
def yL_station : MethodName := ⟨RL, "station", "(LPseudorange;II[J)I"⟩
abbrev cL_listen : ByteArray := method_8_code
def yL_listen : MethodName := ⟨RL, "listen", "(LPseudorange;II[J)I"⟩
abbrev cL_receiver : ByteArray := method_9_code
def yL_receiver : MethodName := ⟨RL, "receiver", "(LPseudorange;III[J)I"⟩
abbrev cL_go : ByteArray := method_10_code
def yL_go : MethodName := ⟨RL, "go", "(LPseudorange;III[J)I"⟩
abbrev cL_hills : ByteArray := method_11_code
def yL_hills : MethodName := ⟨RL, "hills", "(LPseudorange;III[J)I"⟩
abbrev cL_air : ByteArray := method_12_code
def yL_air : MethodName := ⟨RL, "air", "(LPseudorange;IIZ[J)I"⟩
abbrev cL_alert : ByteArray := method_13_code
def yL_alert : MethodName := ⟨RL, "alert", "(LPseudorange;II[J)I"⟩
abbrev cL_spoof : ByteArray := method_14_code
def yL_spoof : MethodName := ⟨RL, "spoof", "(LPseudorange;II[J)I"⟩
abbrev cL_refer : ByteArray := method_15_code
def yL_refer : MethodName := ⟨RL, "refer", "(LPseudorange;II[J)I"⟩
abbrev cL_pass : ByteArray := method_16_code
def yL_pass : MethodName := ⟨RL, "pass", "(LPseudorange;I[J)I"⟩
abbrev cL_observe : ByteArray := method_17_code
def yL_observe : MethodName := ⟨RL, "observe", "(LPseudorange;I[J)I"⟩
abbrev cL_ofStar : ByteArray := method_18_code
def yL_ofStar : MethodName := ⟨RL, "ofStar", "(LPseudorange;II[J)I"⟩
abbrev cL_message : ByteArray := method_19_code
def yL_message : MethodName := ⟨RL, "message", "(LPseudorange;II[J)I"⟩
abbrev cL_seen : ByteArray := method_20_code
def yL_seen : MethodName := ⟨RL, "seen", "(LPseudorange;III[J)I"⟩
abbrev cL_ofReceiver : ByteArray := method_21_code
def yL_ofReceiver : MethodName := ⟨RL, "ofReceiver", "(LPseudorange;II[J)I"⟩
abbrev cL_many : ByteArray := method_22_code
def yL_many : MethodName := ⟨RL, "many", "(LPseudorange;I[J)I"⟩
abbrev cL_meanError : ByteArray := method_23_code
def yL_meanError : MethodName := ⟨RL, "meanError", "(LPseudorange;I[D)I"⟩
abbrev cL_wouldSee : ByteArray := method_24_code
def yL_wouldSee : MethodName := ⟨RL, "wouldSee", "(LPseudorange;II[J)I"⟩
abbrev cL_heardIn : ByteArray := method_25_code
def yL_heardIn : MethodName := ⟨RL, "heardIn", "(LPseudorange;II[J)I"⟩
abbrev cL_without : ByteArray := method_26_code
def yL_without : MethodName := ⟨RL, "without", "(LPseudorange;II[J)I"⟩
abbrev cL_wouldAlarm : ByteArray := method_27_code
def yL_wouldAlarm : MethodName := ⟨RL, "wouldAlarm", "(LPseudorange;I[J)I"⟩
abbrev cL_law : ByteArray := code
def yL_law : MethodName := ⟨RL, "law", "([I)Z"⟩
abbrev vwCl : List vw_C := [(RX0, TX0, 13), (RX1, TX1, 11), (RX2, TX2, 15), (RX3, TX3, 11), (RX4, TX4, 2), (RX5, TX5, 13), (RX6, TX6, 8), (RX7, TX7, 20)]
end
section
theorem dX0_init_0 : decode cX0_init 0 = .ok (.aload_n 0, 1) := by decide +kernel
theorem dX0_init_1 : decode cX0_init 1 = .ok (.invokespecial 3, 3) := by decide +kernel
theorem dX0_init_4 : decode cX0_init 4 = .ok (.aload_n 0, 1) := by decide +kernel
theorem dX0_init_5 : decode cX0_init 5 = .ok (.iload_n 1, 1) := by decide +kernel
theorem dX0_init_6 : decode cX0_init 6 = .ok (.putfield 9, 3) := by decide +kernel
theorem dX0_init_9 : decode cX0_init 9 = .ok (.aload_n 0, 1) := by decide +kernel
theorem dX0_init_10 : decode cX0_init 10 = .ok (.iload_n 2, 1) := by decide +kernel
theorem dX0_init_11 : decode cX0_init 11 = .ok (.putfield 15, 3) := by decide +kernel
theorem dX0_init_14 : decode cX0_init 14 = .ok (.aload_n 0, 1) := by decide +kernel
theorem dX0_init_15 : decode cX0_init 15 = .ok (.iload_n 3, 1) := by decide +kernel
theorem dX0_init_16 : decode cX0_init 16 = .ok (.putfield 18, 3) := by decide +kernel
theorem dX0_init_19 : decode cX0_init 19 = .ok (.aload_n 0, 1) := by decide +kernel
theorem dX0_init_20 : decode cX0_init 20 = .ok (.iload 4, 2) := by decide +kernel
theorem dX0_init_22 : decode cX0_init 22 = .ok (.putfield 21, 3) := by decide +kernel
theorem dX0_init_25 : decode cX0_init 25 = .ok (.aload_n 0, 1) := by decide +kernel
theorem dX0_init_26 : decode cX0_init 26 = .ok (.iconst 5, 1) := by decide +kernel
theorem dX0_init_27 : decode cX0_init 27 = .ok (.putfield 24, 3) := by decide +kernel
theorem dX0_init_30 : decode cX0_init 30 = .ok (.aload_n 0, 1) := by decide +kernel
theorem dX0_init_31 : decode cX0_init 31 = .ok (.iconst 5, 1) := by decide +kernel
theorem dX0_init_32 : decode cX0_init 32 = .ok (.putfield 27, 3) := by decide +kernel
theorem dX0_init_35 : decode cX0_init 35 = .ok (.aload_n 0, 1) := by decide +kernel
theorem dX0_init_36 : decode cX0_init 36 = .ok (.bipush 6, 2) := by decide +kernel
theorem dX0_init_38 : decode cX0_init 38 = .ok (.putfield 30, 3) := by decide +kernel
theorem dX0_init_41 : decode cX0_init 41 = .ok (.aload_n 0, 1) := by decide +kernel
theorem dX0_init_42 : decode cX0_init 42 = .ok (.iconst (-1), 1) := by decide +kernel
theorem dX0_init_43 : decode cX0_init 43 = .ok (.putfield 33, 3) := by decide +kernel
theorem dX0_init_46 : decode cX0_init 46 = .ok (.aload_n 0, 1) := by decide +kernel
theorem dX0_init_47 : decode cX0_init 47 = .ok (.new 36, 3) := by decide +kernel
theorem dX0_init_50 : decode cX0_init 50 = .ok (.dup, 1) := by decide +kernel
theorem dX0_init_51 : decode cX0_init 51 = .ok (.invokespecial 38, 3) := by decide +kernel
theorem dX0_init_54 : decode cX0_init 54 = .ok (.putfield 39, 3) := by decide +kernel
theorem dX0_init_57 : decode cX0_init 57 = .ok (.aload_n 0, 1) := by decide +kernel
theorem dX0_init_58 : decode cX0_init 58 = .ok (.bipush 8, 2) := by decide +kernel
theorem dX0_init_60 : decode cX0_init 60 = .ok (.anewarray 43, 3) := by decide +kernel
theorem dX0_init_63 : decode cX0_init 63 = .ok (.putfield 45, 3) := by decide +kernel
theorem dX0_init_66 : decode cX0_init 66 = .ok (.iconst 0, 1) := by decide +kernel
theorem dX0_init_67 : decode cX0_init 67 = .ok (.istore 5, 2) := by decide +kernel
theorem dX0_init_69 : decode cX0_init 69 = .ok (.iload 5, 2) := by decide +kernel
theorem dX0_init_71 : decode cX0_init 71 = .ok (.bipush 8, 2) := by decide +kernel
theorem dX0_init_73 : decode cX0_init 73 = .ok (.if_icmp .ge 23, 3) := by decide +kernel
theorem dX0_init_76 : decode cX0_init 76 = .ok (.aload_n 0, 1) := by decide +kernel
theorem dX0_init_77 : decode cX0_init 77 = .ok (.getfield 45, 3) := by decide +kernel
theorem dX0_init_80 : decode cX0_init 80 = .ok (.iload 5, 2) := by decide +kernel
theorem dX0_init_82 : decode cX0_init 82 = .ok (.new 43, 3) := by decide +kernel
theorem dX0_init_85 : decode cX0_init 85 = .ok (.dup, 1) := by decide +kernel
theorem dX0_init_86 : decode cX0_init 86 = .ok (.invokespecial 49, 3) := by decide +kernel
theorem dX0_init_89 : decode cX0_init 89 = .ok (.aastore, 1) := by decide +kernel
theorem dX0_init_90 : decode cX0_init 90 = .ok (.iinc 5 1, 3) := by decide +kernel
theorem dX0_init_93 : decode cX0_init 93 = .ok (.goto (-24), 3) := by decide +kernel
theorem dX0_init_96 : decode cX0_init 96 = .ok (.return_, 1) := by decide +kernel
theorem dX0_canSee_0 : decode cX0_canSee 0 = .ok (.aload_n 1, 1) := by decide +kernel
theorem dX0_canSee_1 : decode cX0_canSee 1 = .ok (.iload_n 2, 1) := by decide +kernel
theorem dX0_canSee_2 : decode cX0_canSee 2 = .ok (.invokevirtual 50, 3) := by decide +kernel
theorem dX0_canSee_5 : decode cX0_canSee 5 = .ok (.aload_n 0, 1) := by decide +kernel
theorem dX0_canSee_6 : decode cX0_canSee 6 = .ok (.getfield 15, 3) := by decide +kernel
theorem dX0_canSee_9 : decode cX0_canSee 9 = .ok (.if_icmp .ge 10, 3) := by decide +kernel
theorem dX0_canSee_12 : decode cX0_canSee 12 = .ok (.aload_n 0, 1) := by decide +kernel
theorem dX0_canSee_13 : decode cX0_canSee 13 = .ok (.getfield 24, 3) := by decide +kernel
theorem dX0_canSee_16 : decode cX0_canSee 16 = .ok (.goto 7, 3) := by decide +kernel
theorem dX0_canSee_19 : decode cX0_canSee 19 = .ok (.aload_n 0, 1) := by decide +kernel
theorem dX0_canSee_20 : decode cX0_canSee 20 = .ok (.getfield 27, 3) := by decide +kernel
theorem dX0_canSee_23 : decode cX0_canSee 23 = .ok (.istore_n 3, 1) := by decide +kernel
theorem dX0_canSee_24 : decode cX0_canSee 24 = .ok (.aload_n 1, 1) := by decide +kernel
theorem dX0_canSee_25 : decode cX0_canSee 25 = .ok (.getfield 56, 3) := by decide +kernel
theorem dX0_canSee_28 : decode cX0_canSee 28 = .ok (.ifCond .eq 21, 3) := by decide +kernel
theorem dX0_canSee_31 : decode cX0_canSee 31 = .ok (.aload_n 1, 1) := by decide +kernel
theorem dX0_canSee_32 : decode cX0_canSee 32 = .ok (.iload_n 2, 1) := by decide +kernel
theorem dX0_canSee_33 : decode cX0_canSee 33 = .ok (.invokevirtual 60, 3) := by decide +kernel
theorem dX0_canSee_36 : decode cX0_canSee 36 = .ok (.aload_n 0, 1) := by decide +kernel
theorem dX0_canSee_37 : decode cX0_canSee 37 = .ok (.getfield 18, 3) := by decide +kernel
theorem dX0_canSee_40 : decode cX0_canSee 40 = .ok (.isub, 1) := by decide +kernel
theorem dX0_canSee_41 : decode cX0_canSee 41 = .ok (.iload_n 3, 1) := by decide +kernel
theorem dX0_canSee_42 : decode cX0_canSee 42 = .ok (.if_icmp .lt 7, 3) := by decide +kernel
theorem dX0_canSee_45 : decode cX0_canSee 45 = .ok (.iconst 1, 1) := by decide +kernel
theorem dX0_canSee_46 : decode cX0_canSee 46 = .ok (.goto 4, 3) := by decide +kernel
theorem dX0_canSee_49 : decode cX0_canSee 49 = .ok (.iconst 0, 1) := by decide +kernel
theorem dX0_canSee_50 : decode cX0_canSee 50 = .ok (.ireturn, 1) := by decide +kernel
theorem dX0_trueCount_0 : decode cX0_trueCount 0 = .ok (.aload_n 1, 1) := by decide +kernel
theorem dX0_trueCount_1 : decode cX0_trueCount 1 = .ok (.iconst 0, 1) := by decide +kernel
theorem dX0_trueCount_2 : decode cX0_trueCount 2 = .ok (.invokevirtual 50, 3) := by decide +kernel
theorem dX0_trueCount_5 : decode cX0_trueCount 5 = .ok (.istore_n 2, 1) := by decide +kernel
theorem dX0_trueCount_6 : decode cX0_trueCount 6 = .ok (.aload_n 0, 1) := by decide +kernel
theorem dX0_trueCount_7 : decode cX0_trueCount 7 = .ok (.getfield 15, 3) := by decide +kernel
theorem dX0_trueCount_10 : decode cX0_trueCount 10 = .ok (.aload_n 0, 1) := by decide +kernel
theorem dX0_trueCount_11 : decode cX0_trueCount 11 = .ok (.getfield 18, 3) := by decide +kernel
theorem dX0_trueCount_14 : decode cX0_trueCount 14 = .ok (.iload_n 2, 1) := by decide +kernel
theorem dX0_trueCount_15 : decode cX0_trueCount 15 = .ok (.aload_n 1, 1) := by decide +kernel
theorem dX0_trueCount_16 : decode cX0_trueCount 16 = .ok (.iconst 0, 1) := by decide +kernel
theorem dX0_trueCount_17 : decode cX0_trueCount 17 = .ok (.invokevirtual 60, 3) := by decide +kernel
theorem dX0_trueCount_20 : decode cX0_trueCount 20 = .ok (.invokestatic 63, 3) := by decide +kernel
theorem dX0_trueCount_23 : decode cX0_trueCount 23 = .ok (.istore_n 3, 1) := by decide +kernel
theorem dX0_trueCount_24 : decode cX0_trueCount 24 = .ok (.iload_n 3, 1) := by decide +kernel
theorem dX0_trueCount_25 : decode cX0_trueCount 25 = .ok (.aload_n 1, 1) := by decide +kernel
theorem dX0_trueCount_26 : decode cX0_trueCount 26 = .ok (.getfield 67, 3) := by decide +kernel
theorem dX0_trueCount_29 : decode cX0_trueCount 29 = .ok (.iadd, 1) := by decide +kernel
theorem dX0_trueCount_30 : decode cX0_trueCount 30 = .ok (.aload_n 0, 1) := by decide +kernel
theorem dX0_trueCount_31 : decode cX0_trueCount 31 = .ok (.getfield 21, 3) := by decide +kernel
theorem dX0_trueCount_34 : decode cX0_trueCount 34 = .ok (.iadd, 1) := by decide +kernel
theorem dX0_trueCount_35 : decode cX0_trueCount 35 = .ok (.iload_n 2, 1) := by decide +kernel
theorem dX0_trueCount_36 : decode cX0_trueCount 36 = .ok (.aload_n 0, 1) := by decide +kernel
theorem dX0_trueCount_37 : decode cX0_trueCount 37 = .ok (.getfield 15, 3) := by decide +kernel
theorem dX0_trueCount_40 : decode cX0_trueCount 40 = .ok (.if_icmp .ge 10, 3) := by decide +kernel
theorem dX0_trueCount_43 : decode cX0_trueCount 43 = .ok (.aload_n 0, 1) := by decide +kernel
theorem dX0_trueCount_44 : decode cX0_trueCount 44 = .ok (.getfield 70, 3) := by decide +kernel
theorem dX0_trueCount_47 : decode cX0_trueCount 47 = .ok (.goto 8, 3) := by decide +kernel
theorem dX0_trueCount_50 : decode cX0_trueCount 50 = .ok (.aload_n 0, 1) := by decide +kernel
theorem dX0_trueCount_51 : decode cX0_trueCount 51 = .ok (.getfield 70, 3) := by decide +kernel
theorem dX0_trueCount_54 : decode cX0_trueCount 54 = .ok (.ineg, 1) := by decide +kernel
theorem dX0_trueCount_55 : decode cX0_trueCount 55 = .ok (.iadd, 1) := by decide +kernel
theorem dX0_trueCount_56 : decode cX0_trueCount 56 = .ok (.ireturn, 1) := by decide +kernel
theorem dX0_airDelay_0 : decode cX0_airDelay 0 = .ok (.aload_n 0, 1) := by decide +kernel
theorem dX0_airDelay_1 : decode cX0_airDelay 1 = .ok (.getfield 73, 3) := by decide +kernel
theorem dX0_airDelay_4 : decode cX0_airDelay 4 = .ok (.ifCond .eq 5, 3) := by decide +kernel
theorem dX0_airDelay_7 : decode cX0_airDelay 7 = .ok (.iconst 0, 1) := by decide +kernel
theorem dX0_airDelay_8 : decode cX0_airDelay 8 = .ok (.ireturn, 1) := by decide +kernel
theorem dX0_airDelay_9 : decode cX0_airDelay 9 = .ok (.aload_n 1, 1) := by decide +kernel
theorem dX0_airDelay_10 : decode cX0_airDelay 10 = .ok (.iconst 0, 1) := by decide +kernel
theorem dX0_airDelay_11 : decode cX0_airDelay 11 = .ok (.invokevirtual 50, 3) := by decide +kernel
theorem dX0_airDelay_14 : decode cX0_airDelay 14 = .ok (.aload_n 0, 1) := by decide +kernel
theorem dX0_airDelay_15 : decode cX0_airDelay 15 = .ok (.getfield 15, 3) := by decide +kernel
theorem dX0_airDelay_18 : decode cX0_airDelay 18 = .ok (.isub, 1) := by decide +kernel
theorem dX0_airDelay_19 : decode cX0_airDelay 19 = .ok (.invokestatic 76, 3) := by decide +kernel
theorem dX0_airDelay_22 : decode cX0_airDelay 22 = .ok (.aload_n 1, 1) := by decide +kernel
theorem dX0_airDelay_23 : decode cX0_airDelay 23 = .ok (.iconst 0, 1) := by decide +kernel
theorem dX0_airDelay_24 : decode cX0_airDelay 24 = .ok (.invokevirtual 60, 3) := by decide +kernel
theorem dX0_airDelay_27 : decode cX0_airDelay 27 = .ok (.aload_n 0, 1) := by decide +kernel
theorem dX0_airDelay_28 : decode cX0_airDelay 28 = .ok (.getfield 18, 3) := by decide +kernel
theorem dX0_airDelay_31 : decode cX0_airDelay 31 = .ok (.isub, 1) := by decide +kernel
theorem dX0_airDelay_32 : decode cX0_airDelay 32 = .ok (.invokestatic 76, 3) := by decide +kernel
theorem dX0_airDelay_35 : decode cX0_airDelay 35 = .ok (.if_icmp .le 7, 3) := by decide +kernel
theorem dX0_airDelay_38 : decode cX0_airDelay 38 = .ok (.iconst 1, 1) := by decide +kernel
theorem dX0_airDelay_39 : decode cX0_airDelay 39 = .ok (.goto 4, 3) := by decide +kernel
theorem dX0_airDelay_42 : decode cX0_airDelay 42 = .ok (.iconst 0, 1) := by decide +kernel
theorem dX0_airDelay_43 : decode cX0_airDelay 43 = .ok (.istore_n 2, 1) := by decide +kernel
theorem dX0_airDelay_44 : decode cX0_airDelay 44 = .ok (.iload_n 2, 1) := by decide +kernel
theorem dX0_airDelay_45 : decode cX0_airDelay 45 = .ok (.ifCond .eq 12, 3) := by decide +kernel
theorem dX0_airDelay_48 : decode cX0_airDelay 48 = .ok (.iconst 2, 1) := by decide +kernel
theorem dX0_airDelay_49 : decode cX0_airDelay 49 = .ok (.aload_n 0, 1) := by decide +kernel
theorem dX0_airDelay_50 : decode cX0_airDelay 50 = .ok (.getfield 81, 3) := by decide +kernel
theorem dX0_airDelay_53 : decode cX0_airDelay 53 = .ok (.imul, 1) := by decide +kernel
theorem dX0_airDelay_54 : decode cX0_airDelay 54 = .ok (.goto 7, 3) := by decide +kernel
theorem dX0_airDelay_57 : decode cX0_airDelay 57 = .ok (.aload_n 0, 1) := by decide +kernel
theorem dX0_airDelay_58 : decode cX0_airDelay 58 = .ok (.getfield 81, 3) := by decide +kernel
theorem dX0_airDelay_61 : decode cX0_airDelay 61 = .ok (.ireturn, 1) := by decide +kernel
theorem dX1_init_0 : decode cX1_init 0 = .ok (.aload_n 0, 1) := by decide +kernel
theorem dX1_init_1 : decode cX1_init 1 = .ok (.invokespecial 3, 3) := by decide +kernel
theorem dX1_init_4 : decode cX1_init 4 = .ok (.return_, 1) := by decide +kernel
theorem dX1_take_0 : decode cX1_take 0 = .ok (.iload_n 3, 1) := by decide +kernel
theorem dX1_take_1 : decode cX1_take 1 = .ok (.ifCond .eq 14, 3) := by decide +kernel
theorem dX1_take_4 : decode cX1_take 4 = .ok (.aload_n 0, 1) := by decide +kernel
theorem dX1_take_5 : decode cX1_take 5 = .ok (.getfield 9, 3) := by decide +kernel
theorem dX1_take_8 : decode cX1_take 8 = .ok (.ifCond .eq 7, 3) := by decide +kernel
theorem dX1_take_11 : decode cX1_take 11 = .ok (.iconst 1, 1) := by decide +kernel
theorem dX1_take_12 : decode cX1_take 12 = .ok (.goto 4, 3) := by decide +kernel
theorem dX1_take_15 : decode cX1_take 15 = .ok (.iconst 0, 1) := by decide +kernel
theorem dX1_take_16 : decode cX1_take 16 = .ok (.istore 4, 2) := by decide +kernel
theorem dX1_take_18 : decode cX1_take 18 = .ok (.aload_n 0, 1) := by decide +kernel
theorem dX1_take_19 : decode cX1_take 19 = .ok (.invokevirtual 15, 3) := by decide +kernel
theorem dX1_take_22 : decode cX1_take 22 = .ok (.aload_n 0, 1) := by decide +kernel
theorem dX1_take_23 : decode cX1_take 23 = .ok (.iconst 1, 1) := by decide +kernel
theorem dX1_take_24 : decode cX1_take 24 = .ok (.putfield 9, 3) := by decide +kernel
theorem dX1_take_27 : decode cX1_take 27 = .ok (.aload_n 0, 1) := by decide +kernel
theorem dX1_take_28 : decode cX1_take 28 = .ok (.iload_n 1, 1) := by decide +kernel
theorem dX1_take_29 : decode cX1_take 29 = .ok (.putfield 18, 3) := by decide +kernel
theorem dX1_take_32 : decode cX1_take 32 = .ok (.aload_n 0, 1) := by decide +kernel
theorem dX1_take_33 : decode cX1_take 33 = .ok (.iload_n 2, 1) := by decide +kernel
theorem dX1_take_34 : decode cX1_take 34 = .ok (.putfield 22, 3) := by decide +kernel
theorem dX1_take_37 : decode cX1_take 37 = .ok (.aload_n 0, 1) := by decide +kernel
theorem dX1_take_38 : decode cX1_take 38 = .ok (.aload_n 0, 1) := by decide +kernel
theorem dX1_take_39 : decode cX1_take 39 = .ok (.getfield 18, 3) := by decide +kernel
theorem dX1_take_42 : decode cX1_take 42 = .ok (.aload_n 0, 1) := by decide +kernel
theorem dX1_take_43 : decode cX1_take 43 = .ok (.getfield 22, 3) := by decide +kernel
theorem dX1_take_46 : decode cX1_take 46 = .ok (.isub, 1) := by decide +kernel
theorem dX1_take_47 : decode cX1_take 47 = .ok (.iconst 5, 1) := by decide +kernel
theorem dX1_take_48 : decode cX1_take 48 = .ok (.iadd, 1) := by decide +kernel
theorem dX1_take_49 : decode cX1_take 49 = .ok (.bipush 10, 2) := by decide +kernel
theorem dX1_take_51 : decode cX1_take 51 = .ok (.invokestatic 25, 3) := by decide +kernel
theorem dX1_take_54 : decode cX1_take 54 = .ok (.putfield 31, 3) := by decide +kernel
theorem dX1_take_57 : decode cX1_take 57 = .ok (.aload_n 0, 1) := by decide +kernel
theorem dX1_take_58 : decode cX1_take 58 = .ok (.aload_n 0, 1) := by decide +kernel
theorem dX1_take_59 : decode cX1_take 59 = .ok (.getfield 18, 3) := by decide +kernel
theorem dX1_take_62 : decode cX1_take 62 = .ok (.aload_n 0, 1) := by decide +kernel
theorem dX1_take_63 : decode cX1_take 63 = .ok (.getfield 22, 3) := by decide +kernel
theorem dX1_take_66 : decode cX1_take 66 = .ok (.isub, 1) := by decide +kernel
theorem dX1_take_67 : decode cX1_take 67 = .ok (.bipush 10, 2) := by decide +kernel
theorem dX1_take_69 : decode cX1_take 69 = .ok (.aload_n 0, 1) := by decide +kernel
theorem dX1_take_70 : decode cX1_take 70 = .ok (.getfield 31, 3) := by decide +kernel
theorem dX1_take_73 : decode cX1_take 73 = .ok (.imul, 1) := by decide +kernel
theorem dX1_take_74 : decode cX1_take 74 = .ok (.isub, 1) := by decide +kernel
theorem dX1_take_75 : decode cX1_take 75 = .ok (.putfield 34, 3) := by decide +kernel
theorem dX1_take_78 : decode cX1_take 78 = .ok (.aload_n 0, 1) := by decide +kernel
theorem dX1_take_79 : decode cX1_take 79 = .ok (.iload 4, 2) := by decide +kernel
theorem dX1_take_81 : decode cX1_take 81 = .ok (.ifCond .eq 12, 3) := by decide +kernel
theorem dX1_take_84 : decode cX1_take 84 = .ok (.aload_n 0, 1) := by decide +kernel
theorem dX1_take_85 : decode cX1_take 85 = .ok (.getfield 37, 3) := by decide +kernel
theorem dX1_take_88 : decode cX1_take 88 = .ok (.iconst 1, 1) := by decide +kernel
theorem dX1_take_89 : decode cX1_take 89 = .ok (.iadd, 1) := by decide +kernel
theorem dX1_take_90 : decode cX1_take 90 = .ok (.goto 4, 3) := by decide +kernel
theorem dX1_take_93 : decode cX1_take 93 = .ok (.iconst 1, 1) := by decide +kernel
theorem dX1_take_94 : decode cX1_take 94 = .ok (.putfield 37, 3) := by decide +kernel
theorem dX1_take_97 : decode cX1_take 97 = .ok (.aload_n 0, 1) := by decide +kernel
theorem dX1_take_98 : decode cX1_take 98 = .ok (.aload_n 0, 1) := by decide +kernel
theorem dX1_take_99 : decode cX1_take 99 = .ok (.getfield 34, 3) := by decide +kernel
theorem dX1_take_102 : decode cX1_take 102 = .ok (.bipush (-2), 2) := by decide +kernel
theorem dX1_take_104 : decode cX1_take 104 = .ok (.iconst 2, 1) := by decide +kernel
theorem dX1_take_105 : decode cX1_take 105 = .ok (.invokestatic 40, 3) := by decide +kernel
theorem dX1_take_108 : decode cX1_take 108 = .ok (.ifCond .eq 7, 3) := by decide +kernel
theorem dX1_take_111 : decode cX1_take 111 = .ok (.iconst 0, 1) := by decide +kernel
theorem dX1_take_112 : decode cX1_take 112 = .ok (.goto 18, 3) := by decide +kernel
theorem dX1_take_115 : decode cX1_take 115 = .ok (.iload 4, 2) := by decide +kernel
theorem dX1_take_117 : decode cX1_take 117 = .ok (.ifCond .eq 12, 3) := by decide +kernel
theorem dX1_take_120 : decode cX1_take 120 = .ok (.aload_n 0, 1) := by decide +kernel
theorem dX1_take_121 : decode cX1_take 121 = .ok (.getfield 44, 3) := by decide +kernel
theorem dX1_take_124 : decode cX1_take 124 = .ok (.iconst 1, 1) := by decide +kernel
theorem dX1_take_125 : decode cX1_take 125 = .ok (.iadd, 1) := by decide +kernel
theorem dX1_take_126 : decode cX1_take 126 = .ok (.goto 4, 3) := by decide +kernel
theorem dX1_take_129 : decode cX1_take 129 = .ok (.iconst 1, 1) := by decide +kernel
theorem dX1_take_130 : decode cX1_take 130 = .ok (.putfield 44, 3) := by decide +kernel
theorem dX1_take_133 : decode cX1_take 133 = .ok (.aload_n 0, 1) := by decide +kernel
theorem dX1_take_134 : decode cX1_take 134 = .ok (.aload_n 0, 1) := by decide +kernel
theorem dX1_take_135 : decode cX1_take 135 = .ok (.getfield 37, 3) := by decide +kernel
theorem dX1_take_138 : decode cX1_take 138 = .ok (.iconst 3, 1) := by decide +kernel
theorem dX1_take_139 : decode cX1_take 139 = .ok (.if_icmp .lt 15, 3) := by decide +kernel
theorem dX1_take_142 : decode cX1_take 142 = .ok (.aload_n 0, 1) := by decide +kernel
theorem dX1_take_143 : decode cX1_take 143 = .ok (.getfield 44, 3) := by decide +kernel
theorem dX1_take_146 : decode cX1_take 146 = .ok (.iconst 3, 1) := by decide +kernel
theorem dX1_take_147 : decode cX1_take 147 = .ok (.if_icmp .lt 7, 3) := by decide +kernel
theorem dX1_take_150 : decode cX1_take 150 = .ok (.iconst 1, 1) := by decide +kernel
theorem dX1_take_151 : decode cX1_take 151 = .ok (.goto 4, 3) := by decide +kernel
theorem dX1_take_154 : decode cX1_take 154 = .ok (.iconst 0, 1) := by decide +kernel
theorem dX1_take_155 : decode cX1_take 155 = .ok (.putfield 47, 3) := by decide +kernel
theorem dX1_take_158 : decode cX1_take 158 = .ok (.return_, 1) := by decide +kernel
theorem dX1_lose_0 : decode cX1_lose 0 = .ok (.aload_n 0, 1) := by decide +kernel
theorem dX1_lose_1 : decode cX1_lose 1 = .ok (.invokevirtual 15, 3) := by decide +kernel
theorem dX1_lose_4 : decode cX1_lose 4 = .ok (.aload_n 0, 1) := by decide +kernel
theorem dX1_lose_5 : decode cX1_lose 5 = .ok (.iconst 0, 1) := by decide +kernel
theorem dX1_lose_6 : decode cX1_lose 6 = .ok (.putfield 9, 3) := by decide +kernel
theorem dX1_lose_9 : decode cX1_lose 9 = .ok (.aload_n 0, 1) := by decide +kernel
theorem dX1_lose_10 : decode cX1_lose 10 = .ok (.iconst 0, 1) := by decide +kernel
theorem dX1_lose_11 : decode cX1_lose 11 = .ok (.putfield 47, 3) := by decide +kernel
theorem dX1_lose_14 : decode cX1_lose 14 = .ok (.return_, 1) := by decide +kernel
theorem dX1_forget_0 : decode cX1_forget 0 = .ok (.aload_n 0, 1) := by decide +kernel
theorem dX1_forget_1 : decode cX1_forget 1 = .ok (.iconst 0, 1) := by decide +kernel
theorem dX1_forget_2 : decode cX1_forget 2 = .ok (.putfield 50, 3) := by decide +kernel
theorem dX1_forget_5 : decode cX1_forget 5 = .ok (.aload_n 0, 1) := by decide +kernel
theorem dX1_forget_6 : decode cX1_forget 6 = .ok (.iconst 0, 1) := by decide +kernel
theorem dX1_forget_7 : decode cX1_forget 7 = .ok (.putfield 53, 3) := by decide +kernel
theorem dX1_forget_10 : decode cX1_forget 10 = .ok (.aload_n 0, 1) := by decide +kernel
theorem dX1_forget_11 : decode cX1_forget 11 = .ok (.iconst 0, 1) := by decide +kernel
theorem dX1_forget_12 : decode cX1_forget 12 = .ok (.putfield 56, 3) := by decide +kernel
theorem dX1_forget_15 : decode cX1_forget 15 = .ok (.return_, 1) := by decide +kernel
theorem dX1_measured_0 : decode cX1_measured 0 = .ok (.aload_n 0, 1) := by decide +kernel
theorem dX1_measured_1 : decode cX1_measured 1 = .ok (.getfield 47, 3) := by decide +kernel
theorem dX1_measured_4 : decode cX1_measured 4 = .ok (.ifCond .eq 18, 3) := by decide +kernel
theorem dX1_measured_7 : decode cX1_measured 7 = .ok (.aload_n 0, 1) := by decide +kernel
theorem dX1_measured_8 : decode cX1_measured 8 = .ok (.getfield 22, 3) := by decide +kernel
theorem dX1_measured_11 : decode cX1_measured 11 = .ok (.bipush 10, 2) := by decide +kernel
theorem dX1_measured_13 : decode cX1_measured 13 = .ok (.aload_n 0, 1) := by decide +kernel
theorem dX1_measured_14 : decode cX1_measured 14 = .ok (.getfield 31, 3) := by decide +kernel
theorem dX1_measured_17 : decode cX1_measured 17 = .ok (.imul, 1) := by decide +kernel
theorem dX1_measured_18 : decode cX1_measured 18 = .ok (.iadd, 1) := by decide +kernel
theorem dX1_measured_19 : decode cX1_measured 19 = .ok (.goto 7, 3) := by decide +kernel
theorem dX1_measured_22 : decode cX1_measured 22 = .ok (.aload_n 0, 1) := by decide +kernel
theorem dX1_measured_23 : decode cX1_measured 23 = .ok (.getfield 18, 3) := by decide +kernel
theorem dX1_measured_26 : decode cX1_measured 26 = .ok (.ireturn, 1) := by decide +kernel
theorem dX1_tell_0 : decode cX1_tell 0 = .ok (.iload_n 1, 1) := by decide +kernel
theorem dX1_tell_1 : decode cX1_tell 1 = .ok (.iconst 5, 1) := by decide +kernel
theorem dX1_tell_2 : decode cX1_tell 2 = .ok (.if_icmp .ne 16, 3) := by decide +kernel
theorem dX1_tell_5 : decode cX1_tell 5 = .ok (.aload_n 0, 1) := by decide +kernel
theorem dX1_tell_6 : decode cX1_tell 6 = .ok (.getfield 47, 3) := by decide +kernel
theorem dX1_tell_9 : decode cX1_tell 9 = .ok (.ifCond .eq 7, 3) := by decide +kernel
theorem dX1_tell_12 : decode cX1_tell 12 = .ok (.iconst 1, 1) := by decide +kernel
theorem dX1_tell_13 : decode cX1_tell 13 = .ok (.goto 4, 3) := by decide +kernel
theorem dX1_tell_16 : decode cX1_tell 16 = .ok (.iconst 0, 1) := by decide +kernel
theorem dX1_tell_17 : decode cX1_tell 17 = .ok (.ireturn, 1) := by decide +kernel
theorem dX1_tell_18 : decode cX1_tell 18 = .ok (.iload_n 1, 1) := by decide +kernel
theorem dX1_tell_19 : decode cX1_tell 19 = .ok (.bipush 6, 2) := by decide +kernel
theorem dX1_tell_21 : decode cX1_tell 21 = .ok (.if_icmp .ne 16, 3) := by decide +kernel
theorem dX1_tell_24 : decode cX1_tell 24 = .ok (.aload_n 0, 1) := by decide +kernel
theorem dX1_tell_25 : decode cX1_tell 25 = .ok (.getfield 50, 3) := by decide +kernel
theorem dX1_tell_28 : decode cX1_tell 28 = .ok (.ifCond .eq 7, 3) := by decide +kernel
theorem dX1_tell_31 : decode cX1_tell 31 = .ok (.iconst 1, 1) := by decide +kernel
theorem dX1_tell_32 : decode cX1_tell 32 = .ok (.goto 4, 3) := by decide +kernel
theorem dX1_tell_35 : decode cX1_tell 35 = .ok (.iconst 0, 1) := by decide +kernel
theorem dX1_tell_36 : decode cX1_tell 36 = .ok (.ireturn, 1) := by decide +kernel
theorem dX1_tell_37 : decode cX1_tell 37 = .ok (.aload_n 0, 1) := by decide +kernel
theorem dX1_tell_38 : decode cX1_tell 38 = .ok (.getfield 9, 3) := by decide +kernel
theorem dX1_tell_41 : decode cX1_tell 41 = .ok (.ifCond .eq 11, 3) := by decide +kernel
theorem dX1_tell_44 : decode cX1_tell 44 = .ok (.aload_n 0, 1) := by decide +kernel
theorem dX1_tell_45 : decode cX1_tell 45 = .ok (.iload_n 1, 1) := by decide +kernel
theorem dX1_tell_46 : decode cX1_tell 46 = .ok (.invokevirtual 59, 3) := by decide +kernel
theorem dX1_tell_49 : decode cX1_tell 49 = .ok (.goto 4, 3) := by decide +kernel
theorem dX1_tell_52 : decode cX1_tell 52 = .ok (.iconst (-1), 1) := by decide +kernel
theorem dX1_tell_53 : decode cX1_tell 53 = .ok (.ireturn, 1) := by decide +kernel
theorem dX1_tellSeen_0 : decode cX1_tellSeen 0 = .ok (.iload_n 1, 1) := by decide +kernel
theorem dX1_tellSeen_1 : decode cX1_tellSeen 1 = .ok (.tableswitch 60 0 4 #[35, 40, 45, 50, 55], 35) := by decide +kernel
theorem dX1_tellSeen_36 : decode cX1_tellSeen 36 = .ok (.aload_n 0, 1) := by decide +kernel
theorem dX1_tellSeen_37 : decode cX1_tellSeen 37 = .ok (.getfield 18, 3) := by decide +kernel
theorem dX1_tellSeen_40 : decode cX1_tellSeen 40 = .ok (.ireturn, 1) := by decide +kernel
theorem dX1_tellSeen_41 : decode cX1_tellSeen 41 = .ok (.aload_n 0, 1) := by decide +kernel
theorem dX1_tellSeen_42 : decode cX1_tellSeen 42 = .ok (.getfield 22, 3) := by decide +kernel
theorem dX1_tellSeen_45 : decode cX1_tellSeen 45 = .ok (.ireturn, 1) := by decide +kernel
theorem dX1_tellSeen_46 : decode cX1_tellSeen 46 = .ok (.aload_n 0, 1) := by decide +kernel
theorem dX1_tellSeen_47 : decode cX1_tellSeen 47 = .ok (.getfield 31, 3) := by decide +kernel
theorem dX1_tellSeen_50 : decode cX1_tellSeen 50 = .ok (.ireturn, 1) := by decide +kernel
theorem dX1_tellSeen_51 : decode cX1_tellSeen 51 = .ok (.aload_n 0, 1) := by decide +kernel
theorem dX1_tellSeen_52 : decode cX1_tellSeen 52 = .ok (.getfield 34, 3) := by decide +kernel
theorem dX1_tellSeen_55 : decode cX1_tellSeen 55 = .ok (.ireturn, 1) := by decide +kernel
theorem dX1_tellSeen_56 : decode cX1_tellSeen 56 = .ok (.aload_n 0, 1) := by decide +kernel
theorem dX1_tellSeen_57 : decode cX1_tellSeen 57 = .ok (.getfield 37, 3) := by decide +kernel
theorem dX1_tellSeen_60 : decode cX1_tellSeen 60 = .ok (.ireturn, 1) := by decide +kernel
theorem dX1_tellSeen_61 : decode cX1_tellSeen 61 = .ok (.aload_n 0, 1) := by decide +kernel
theorem dX1_tellSeen_62 : decode cX1_tellSeen 62 = .ok (.getfield 53, 3) := by decide +kernel
theorem dX1_tellSeen_65 : decode cX1_tellSeen 65 = .ok (.ireturn, 1) := by decide +kernel
theorem dX2_init_0 : decode cX2_init 0 = .ok (.aload_n 0, 1) := by decide +kernel
theorem dX2_init_1 : decode cX2_init 1 = .ok (.invokespecial 3, 3) := by decide +kernel
theorem dX2_init_4 : decode cX2_init 4 = .ok (.aload_n 0, 1) := by decide +kernel
theorem dX2_init_5 : decode cX2_init 5 = .ok (.bipush 8, 2) := by decide +kernel
theorem dX2_init_7 : decode cX2_init 7 = .ok (.newarray .int, 2) := by decide +kernel
theorem dX2_init_9 : decode cX2_init 9 = .ok (.putfield 9, 3) := by decide +kernel
theorem dX2_init_12 : decode cX2_init 12 = .ok (.aload_n 0, 1) := by decide +kernel
theorem dX2_init_13 : decode cX2_init 13 = .ok (.bipush 8, 2) := by decide +kernel
theorem dX2_init_15 : decode cX2_init 15 = .ok (.newarray .int, 2) := by decide +kernel
theorem dX2_init_17 : decode cX2_init 17 = .ok (.putfield 15, 3) := by decide +kernel
theorem dX2_init_20 : decode cX2_init 20 = .ok (.aload_n 0, 1) := by decide +kernel
theorem dX2_init_21 : decode cX2_init 21 = .ok (.bipush 8, 2) := by decide +kernel
theorem dX2_init_23 : decode cX2_init 23 = .ok (.newarray .int, 2) := by decide +kernel
theorem dX2_init_25 : decode cX2_init 25 = .ok (.putfield 18, 3) := by decide +kernel
theorem dX2_init_28 : decode cX2_init 28 = .ok (.aload_n 0, 1) := by decide +kernel
theorem dX2_init_29 : decode cX2_init 29 = .ok (.bipush 8, 2) := by decide +kernel
theorem dX2_init_31 : decode cX2_init 31 = .ok (.newarray .int, 2) := by decide +kernel
theorem dX2_init_33 : decode cX2_init 33 = .ok (.putfield 21, 3) := by decide +kernel
theorem dX2_init_36 : decode cX2_init 36 = .ok (.aload_n 0, 1) := by decide +kernel
theorem dX2_init_37 : decode cX2_init 37 = .ok (.bipush 8, 2) := by decide +kernel
theorem dX2_init_39 : decode cX2_init 39 = .ok (.newarray .int, 2) := by decide +kernel
theorem dX2_init_41 : decode cX2_init 41 = .ok (.putfield 24, 3) := by decide +kernel
theorem dX2_init_44 : decode cX2_init 44 = .ok (.return_, 1) := by decide +kernel
theorem dX2_clear_0 : decode cX2_clear 0 = .ok (.aload_n 0, 1) := by decide +kernel
theorem dX2_clear_1 : decode cX2_clear 1 = .ok (.iconst 0, 1) := by decide +kernel
theorem dX2_clear_2 : decode cX2_clear 2 = .ok (.putfield 27, 3) := by decide +kernel
theorem dX2_clear_5 : decode cX2_clear 5 = .ok (.return_, 1) := by decide +kernel
theorem dX2_use_0 : decode cX2_use 0 = .ok (.aload_n 0, 1) := by decide +kernel
theorem dX2_use_1 : decode cX2_use 1 = .ok (.getfield 27, 3) := by decide +kernel
theorem dX2_use_4 : decode cX2_use 4 = .ok (.bipush 8, 2) := by decide +kernel
theorem dX2_use_6 : decode cX2_use 6 = .ok (.if_icmp .lt 4, 3) := by decide +kernel
theorem dX2_use_9 : decode cX2_use 9 = .ok (.return_, 1) := by decide +kernel
theorem dX2_use_10 : decode cX2_use 10 = .ok (.aload_n 0, 1) := by decide +kernel
theorem dX2_use_11 : decode cX2_use 11 = .ok (.getfield 9, 3) := by decide +kernel
theorem dX2_use_14 : decode cX2_use 14 = .ok (.aload_n 0, 1) := by decide +kernel
theorem dX2_use_15 : decode cX2_use 15 = .ok (.getfield 27, 3) := by decide +kernel
theorem dX2_use_18 : decode cX2_use 18 = .ok (.iload_n 1, 1) := by decide +kernel
theorem dX2_use_19 : decode cX2_use 19 = .ok (.iastore, 1) := by decide +kernel
theorem dX2_use_20 : decode cX2_use 20 = .ok (.aload_n 0, 1) := by decide +kernel
theorem dX2_use_21 : decode cX2_use 21 = .ok (.getfield 15, 3) := by decide +kernel
theorem dX2_use_24 : decode cX2_use 24 = .ok (.aload_n 0, 1) := by decide +kernel
theorem dX2_use_25 : decode cX2_use 25 = .ok (.getfield 27, 3) := by decide +kernel
theorem dX2_use_28 : decode cX2_use 28 = .ok (.iload_n 2, 1) := by decide +kernel
theorem dX2_use_29 : decode cX2_use 29 = .ok (.iastore, 1) := by decide +kernel
theorem dX2_use_30 : decode cX2_use 30 = .ok (.aload_n 0, 1) := by decide +kernel
theorem dX2_use_31 : decode cX2_use 31 = .ok (.getfield 18, 3) := by decide +kernel
theorem dX2_use_34 : decode cX2_use 34 = .ok (.aload_n 0, 1) := by decide +kernel
theorem dX2_use_35 : decode cX2_use 35 = .ok (.getfield 27, 3) := by decide +kernel
theorem dX2_use_38 : decode cX2_use 38 = .ok (.iload_n 3, 1) := by decide +kernel
theorem dX2_use_39 : decode cX2_use 39 = .ok (.iastore, 1) := by decide +kernel
theorem dX2_use_40 : decode cX2_use 40 = .ok (.aload_n 0, 1) := by decide +kernel
theorem dX2_use_41 : decode cX2_use 41 = .ok (.getfield 21, 3) := by decide +kernel
theorem dX2_use_44 : decode cX2_use 44 = .ok (.aload_n 0, 1) := by decide +kernel
theorem dX2_use_45 : decode cX2_use 45 = .ok (.getfield 27, 3) := by decide +kernel
theorem dX2_use_48 : decode cX2_use 48 = .ok (.iload 4, 2) := by decide +kernel
theorem dX2_use_50 : decode cX2_use 50 = .ok (.iastore, 1) := by decide +kernel
theorem dX2_use_51 : decode cX2_use 51 = .ok (.aload_n 0, 1) := by decide +kernel
theorem dX2_use_52 : decode cX2_use 52 = .ok (.dup, 1) := by decide +kernel
theorem dX2_use_53 : decode cX2_use 53 = .ok (.getfield 27, 3) := by decide +kernel
theorem dX2_use_56 : decode cX2_use 56 = .ok (.iconst 1, 1) := by decide +kernel
theorem dX2_use_57 : decode cX2_use 57 = .ok (.iadd, 1) := by decide +kernel
theorem dX2_use_58 : decode cX2_use 58 = .ok (.putfield 27, 3) := by decide +kernel
theorem dX2_use_61 : decode cX2_use 61 = .ok (.return_, 1) := by decide +kernel
theorem dX2_hasSolution_0 : decode cX2_hasSolution 0 = .ok (.aload_n 0, 1) := by decide +kernel
theorem dX2_hasSolution_1 : decode cX2_hasSolution 1 = .ok (.getfield 27, 3) := by decide +kernel
theorem dX2_hasSolution_4 : decode cX2_hasSolution 4 = .ok (.iconst 3, 1) := by decide +kernel
theorem dX2_hasSolution_5 : decode cX2_hasSolution 5 = .ok (.if_icmp .lt 7, 3) := by decide +kernel
theorem dX2_hasSolution_8 : decode cX2_hasSolution 8 = .ok (.iconst 1, 1) := by decide +kernel
theorem dX2_hasSolution_9 : decode cX2_hasSolution 9 = .ok (.goto 4, 3) := by decide +kernel
theorem dX2_hasSolution_12 : decode cX2_hasSolution 12 = .ok (.iconst 0, 1) := by decide +kernel
theorem dX2_hasSolution_13 : decode cX2_hasSolution 13 = .ok (.ireturn, 1) := by decide +kernel
theorem dX2_solve_0 : decode cX2_solve 0 = .ok (.aload_n 0, 1) := by decide +kernel
theorem dX2_solve_1 : decode cX2_solve 1 = .ok (.bipush 99, 2) := by decide +kernel
theorem dX2_solve_3 : decode cX2_solve 3 = .ok (.putfield 31, 3) := by decide +kernel
theorem dX2_solve_6 : decode cX2_solve 6 = .ok (.aload_n 0, 1) := by decide +kernel
theorem dX2_solve_7 : decode cX2_solve 7 = .ok (.invokevirtual 34, 3) := by decide +kernel
theorem dX2_solve_10 : decode cX2_solve 10 = .ok (.ifCond .ne 4, 3) := by decide +kernel
theorem dX2_solve_13 : decode cX2_solve 13 = .ok (.return_, 1) := by decide +kernel
theorem dX2_solve_14 : decode cX2_solve 14 = .ok (.aload_n 0, 1) := by decide +kernel
theorem dX2_solve_15 : decode cX2_solve 15 = .ok (.iconst (-1), 1) := by decide +kernel
theorem dX2_solve_16 : decode cX2_solve 16 = .ok (.invokevirtual 38, 3) := by decide +kernel
theorem dX2_solve_19 : decode cX2_solve 19 = .ok (.aload_n 0, 1) := by decide +kernel
theorem dX2_solve_20 : decode cX2_solve 20 = .ok (.aload_n 0, 1) := by decide +kernel
theorem dX2_solve_21 : decode cX2_solve 21 = .ok (.getfield 42, 3) := by decide +kernel
theorem dX2_solve_24 : decode cX2_solve 24 = .ok (.putfield 45, 3) := by decide +kernel
theorem dX2_solve_27 : decode cX2_solve 27 = .ok (.aload_n 0, 1) := by decide +kernel
theorem dX2_solve_28 : decode cX2_solve 28 = .ok (.aload_n 0, 1) := by decide +kernel
theorem dX2_solve_29 : decode cX2_solve 29 = .ok (.getfield 48, 3) := by decide +kernel
theorem dX2_solve_32 : decode cX2_solve 32 = .ok (.putfield 51, 3) := by decide +kernel
theorem dX2_solve_35 : decode cX2_solve 35 = .ok (.aload_n 0, 1) := by decide +kernel
theorem dX2_solve_36 : decode cX2_solve 36 = .ok (.aload_n 0, 1) := by decide +kernel
theorem dX2_solve_37 : decode cX2_solve 37 = .ok (.getfield 54, 3) := by decide +kernel
theorem dX2_solve_40 : decode cX2_solve 40 = .ok (.putfield 57, 3) := by decide +kernel
theorem dX2_solve_43 : decode cX2_solve 43 = .ok (.aload_n 0, 1) := by decide +kernel
theorem dX2_solve_44 : decode cX2_solve 44 = .ok (.aload_n 0, 1) := by decide +kernel
theorem dX2_solve_45 : decode cX2_solve 45 = .ok (.getfield 60, 3) := by decide +kernel
theorem dX2_solve_48 : decode cX2_solve 48 = .ok (.putfield 64, 3) := by decide +kernel
theorem dX2_solve_51 : decode cX2_solve 51 = .ok (.aload_n 0, 1) := by decide +kernel
theorem dX2_solve_52 : decode cX2_solve 52 = .ok (.getfield 27, 3) := by decide +kernel
theorem dX2_solve_55 : decode cX2_solve 55 = .ok (.iconst 4, 1) := by decide +kernel
theorem dX2_solve_56 : decode cX2_solve 56 = .ok (.if_icmp .ge 4, 3) := by decide +kernel
theorem dX2_solve_59 : decode cX2_solve 59 = .ok (.return_, 1) := by decide +kernel
theorem dX2_solve_60 : decode cX2_solve 60 = .ok (.iconst 0, 1) := by decide +kernel
theorem dX2_solve_61 : decode cX2_solve 61 = .ok (.istore_n 1, 1) := by decide +kernel
theorem dX2_solve_62 : decode cX2_solve 62 = .ok (.iconst 0, 1) := by decide +kernel
theorem dX2_solve_63 : decode cX2_solve 63 = .ok (.istore_n 2, 1) := by decide +kernel
theorem dX2_solve_64 : decode cX2_solve 64 = .ok (.iload_n 2, 1) := by decide +kernel
theorem dX2_solve_65 : decode cX2_solve 65 = .ok (.aload_n 0, 1) := by decide +kernel
theorem dX2_solve_66 : decode cX2_solve 66 = .ok (.getfield 27, 3) := by decide +kernel
theorem dX2_solve_69 : decode cX2_solve 69 = .ok (.if_icmp .ge 38, 3) := by decide +kernel
theorem dX2_solve_72 : decode cX2_solve 72 = .ok (.aload_n 0, 1) := by decide +kernel
theorem dX2_solve_73 : decode cX2_solve 73 = .ok (.iload_n 2, 1) := by decide +kernel
theorem dX2_solve_74 : decode cX2_solve 74 = .ok (.invokevirtual 38, 3) := by decide +kernel
theorem dX2_solve_77 : decode cX2_solve 77 = .ok (.iload_n 1, 1) := by decide +kernel
theorem dX2_solve_78 : decode cX2_solve 78 = .ok (.aload_n 0, 1) := by decide +kernel
theorem dX2_solve_79 : decode cX2_solve 79 = .ok (.getfield 45, 3) := by decide +kernel
theorem dX2_solve_82 : decode cX2_solve 82 = .ok (.aload_n 0, 1) := by decide +kernel
theorem dX2_solve_83 : decode cX2_solve 83 = .ok (.getfield 51, 3) := by decide +kernel
theorem dX2_solve_86 : decode cX2_solve 86 = .ok (.aload_n 0, 1) := by decide +kernel
theorem dX2_solve_87 : decode cX2_solve 87 = .ok (.getfield 42, 3) := by decide +kernel
theorem dX2_solve_90 : decode cX2_solve 90 = .ok (.aload_n 0, 1) := by decide +kernel
theorem dX2_solve_91 : decode cX2_solve 91 = .ok (.getfield 48, 3) := by decide +kernel
theorem dX2_solve_94 : decode cX2_solve 94 = .ok (.invokestatic 67, 3) := by decide +kernel
theorem dX2_solve_97 : decode cX2_solve 97 = .ok (.invokestatic 71, 3) := by decide +kernel
theorem dX2_solve_100 : decode cX2_solve 100 = .ok (.istore_n 1, 1) := by decide +kernel
theorem dX2_solve_101 : decode cX2_solve 101 = .ok (.iinc 2 1, 3) := by decide +kernel
theorem dX2_solve_104 : decode cX2_solve 104 = .ok (.goto (-40), 3) := by decide +kernel
theorem dX2_solve_107 : decode cX2_solve 107 = .ok (.aload_n 0, 1) := by decide +kernel
theorem dX2_solve_108 : decode cX2_solve 108 = .ok (.iconst 3, 1) := by decide +kernel
theorem dX2_solve_109 : decode cX2_solve 109 = .ok (.iload_n 1, 1) := by decide +kernel
theorem dX2_solve_110 : decode cX2_solve 110 = .ok (.iadd, 1) := by decide +kernel
theorem dX2_solve_111 : decode cX2_solve 111 = .ok (.putfield 31, 3) := by decide +kernel
theorem dX2_solve_114 : decode cX2_solve 114 = .ok (.return_, 1) := by decide +kernel
theorem dX2_search_0 : decode cX2_search 0 = .ok (.aload_n 0, 1) := by decide +kernel
theorem dX2_search_1 : decode cX2_search 1 = .ok (.ldc2_w 79, 3) := by decide +kernel
theorem dX2_search_4 : decode cX2_search 4 = .ok (.putfield 60, 3) := by decide +kernel
theorem dX2_search_7 : decode cX2_search 7 = .ok (.iconst 0, 1) := by decide +kernel
theorem dX2_search_8 : decode cX2_search 8 = .ok (.istore_n 2, 1) := by decide +kernel
theorem dX2_search_9 : decode cX2_search 9 = .ok (.iload_n 2, 1) := by decide +kernel
theorem dX2_search_10 : decode cX2_search 10 = .ok (.bipush 12, 2) := by decide +kernel
theorem dX2_search_12 : decode cX2_search 12 = .ok (.if_icmp .gt 31, 3) := by decide +kernel
theorem dX2_search_15 : decode cX2_search 15 = .ok (.bipush (-12), 2) := by decide +kernel
theorem dX2_search_17 : decode cX2_search 17 = .ok (.istore_n 3, 1) := by decide +kernel
theorem dX2_search_18 : decode cX2_search 18 = .ok (.iload_n 3, 1) := by decide +kernel
theorem dX2_search_19 : decode cX2_search 19 = .ok (.bipush 12, 2) := by decide +kernel
theorem dX2_search_21 : decode cX2_search 21 = .ok (.if_icmp .gt 16, 3) := by decide +kernel
theorem dX2_search_24 : decode cX2_search 24 = .ok (.aload_n 0, 1) := by decide +kernel
theorem dX2_search_25 : decode cX2_search 25 = .ok (.iload_n 3, 1) := by decide +kernel
theorem dX2_search_26 : decode cX2_search 26 = .ok (.iload_n 2, 1) := by decide +kernel
theorem dX2_search_27 : decode cX2_search 27 = .ok (.iload_n 1, 1) := by decide +kernel
theorem dX2_search_28 : decode cX2_search 28 = .ok (.invokevirtual 81, 3) := by decide +kernel
theorem dX2_search_31 : decode cX2_search 31 = .ok (.iinc 3 1, 3) := by decide +kernel
theorem dX2_search_34 : decode cX2_search 34 = .ok (.goto (-16), 3) := by decide +kernel
theorem dX2_search_37 : decode cX2_search 37 = .ok (.iinc 2 1, 3) := by decide +kernel
theorem dX2_search_40 : decode cX2_search 40 = .ok (.goto (-31), 3) := by decide +kernel
theorem dX2_search_43 : decode cX2_search 43 = .ok (.return_, 1) := by decide +kernel
theorem dX2_tryPlace_0 : decode cX2_tryPlace 0 = .ok (.iconst 0, 1) := by decide +kernel
theorem dX2_tryPlace_1 : decode cX2_tryPlace 1 = .ok (.istore 4, 2) := by decide +kernel
theorem dX2_tryPlace_3 : decode cX2_tryPlace 3 = .ok (.iconst 0, 1) := by decide +kernel
theorem dX2_tryPlace_4 : decode cX2_tryPlace 4 = .ok (.istore 5, 2) := by decide +kernel
theorem dX2_tryPlace_6 : decode cX2_tryPlace 6 = .ok (.iconst 0, 1) := by decide +kernel
theorem dX2_tryPlace_7 : decode cX2_tryPlace 7 = .ok (.istore 6, 2) := by decide +kernel
theorem dX2_tryPlace_9 : decode cX2_tryPlace 9 = .ok (.iload 6, 2) := by decide +kernel
theorem dX2_tryPlace_11 : decode cX2_tryPlace 11 = .ok (.aload_n 0, 1) := by decide +kernel
theorem dX2_tryPlace_12 : decode cX2_tryPlace 12 = .ok (.getfield 27, 3) := by decide +kernel
theorem dX2_tryPlace_15 : decode cX2_tryPlace 15 = .ok (.if_icmp .ge 81, 3) := by decide +kernel
theorem dX2_tryPlace_18 : decode cX2_tryPlace 18 = .ok (.aload_n 0, 1) := by decide +kernel
theorem dX2_tryPlace_19 : decode cX2_tryPlace 19 = .ok (.getfield 24, 3) := by decide +kernel
theorem dX2_tryPlace_22 : decode cX2_tryPlace 22 = .ok (.iload 6, 2) := by decide +kernel
theorem dX2_tryPlace_24 : decode cX2_tryPlace 24 = .ok (.aload_n 0, 1) := by decide +kernel
theorem dX2_tryPlace_25 : decode cX2_tryPlace 25 = .ok (.getfield 18, 3) := by decide +kernel
theorem dX2_tryPlace_28 : decode cX2_tryPlace 28 = .ok (.iload 6, 2) := by decide +kernel
theorem dX2_tryPlace_30 : decode cX2_tryPlace 30 = .ok (.iaload, 1) := by decide +kernel
theorem dX2_tryPlace_31 : decode cX2_tryPlace 31 = .ok (.iload_n 1, 1) := by decide +kernel
theorem dX2_tryPlace_32 : decode cX2_tryPlace 32 = .ok (.iload_n 2, 1) := by decide +kernel
theorem dX2_tryPlace_33 : decode cX2_tryPlace 33 = .ok (.aload_n 0, 1) := by decide +kernel
theorem dX2_tryPlace_34 : decode cX2_tryPlace 34 = .ok (.getfield 9, 3) := by decide +kernel
theorem dX2_tryPlace_37 : decode cX2_tryPlace 37 = .ok (.iload 6, 2) := by decide +kernel
theorem dX2_tryPlace_39 : decode cX2_tryPlace 39 = .ok (.iaload, 1) := by decide +kernel
theorem dX2_tryPlace_40 : decode cX2_tryPlace 40 = .ok (.aload_n 0, 1) := by decide +kernel
theorem dX2_tryPlace_41 : decode cX2_tryPlace 41 = .ok (.getfield 15, 3) := by decide +kernel
theorem dX2_tryPlace_44 : decode cX2_tryPlace 44 = .ok (.iload 6, 2) := by decide +kernel
theorem dX2_tryPlace_46 : decode cX2_tryPlace 46 = .ok (.iaload, 1) := by decide +kernel
theorem dX2_tryPlace_47 : decode cX2_tryPlace 47 = .ok (.invokestatic 67, 3) := by decide +kernel
theorem dX2_tryPlace_50 : decode cX2_tryPlace 50 = .ok (.isub, 1) := by decide +kernel
theorem dX2_tryPlace_51 : decode cX2_tryPlace 51 = .ok (.iastore, 1) := by decide +kernel
theorem dX2_tryPlace_52 : decode cX2_tryPlace 52 = .ok (.iload 6, 2) := by decide +kernel
theorem dX2_tryPlace_54 : decode cX2_tryPlace 54 = .ok (.iload_n 3, 1) := by decide +kernel
theorem dX2_tryPlace_55 : decode cX2_tryPlace 55 = .ok (.if_icmp .eq 35, 3) := by decide +kernel
theorem dX2_tryPlace_58 : decode cX2_tryPlace 58 = .ok (.iload 4, 2) := by decide +kernel
theorem dX2_tryPlace_60 : decode cX2_tryPlace 60 = .ok (.aload_n 0, 1) := by decide +kernel
theorem dX2_tryPlace_61 : decode cX2_tryPlace 61 = .ok (.getfield 21, 3) := by decide +kernel
theorem dX2_tryPlace_64 : decode cX2_tryPlace 64 = .ok (.iload 6, 2) := by decide +kernel
theorem dX2_tryPlace_66 : decode cX2_tryPlace 66 = .ok (.iaload, 1) := by decide +kernel
theorem dX2_tryPlace_67 : decode cX2_tryPlace 67 = .ok (.aload_n 0, 1) := by decide +kernel
theorem dX2_tryPlace_68 : decode cX2_tryPlace 68 = .ok (.getfield 24, 3) := by decide +kernel
theorem dX2_tryPlace_71 : decode cX2_tryPlace 71 = .ok (.iload 6, 2) := by decide +kernel
theorem dX2_tryPlace_73 : decode cX2_tryPlace 73 = .ok (.iaload, 1) := by decide +kernel
theorem dX2_tryPlace_74 : decode cX2_tryPlace 74 = .ok (.imul, 1) := by decide +kernel
theorem dX2_tryPlace_75 : decode cX2_tryPlace 75 = .ok (.iadd, 1) := by decide +kernel
theorem dX2_tryPlace_76 : decode cX2_tryPlace 76 = .ok (.istore 4, 2) := by decide +kernel
theorem dX2_tryPlace_78 : decode cX2_tryPlace 78 = .ok (.iload 5, 2) := by decide +kernel
theorem dX2_tryPlace_80 : decode cX2_tryPlace 80 = .ok (.aload_n 0, 1) := by decide +kernel
theorem dX2_tryPlace_81 : decode cX2_tryPlace 81 = .ok (.getfield 21, 3) := by decide +kernel
theorem dX2_tryPlace_84 : decode cX2_tryPlace 84 = .ok (.iload 6, 2) := by decide +kernel
theorem dX2_tryPlace_86 : decode cX2_tryPlace 86 = .ok (.iaload, 1) := by decide +kernel
theorem dX2_tryPlace_87 : decode cX2_tryPlace 87 = .ok (.iadd, 1) := by decide +kernel
theorem dX2_tryPlace_88 : decode cX2_tryPlace 88 = .ok (.istore 5, 2) := by decide +kernel
theorem dX2_tryPlace_90 : decode cX2_tryPlace 90 = .ok (.iinc 6 1, 3) := by decide +kernel
theorem dX2_tryPlace_93 : decode cX2_tryPlace 93 = .ok (.goto (-84), 3) := by decide +kernel
theorem dX2_tryPlace_96 : decode cX2_tryPlace 96 = .ok (.iload 5, 2) := by decide +kernel
theorem dX2_tryPlace_98 : decode cX2_tryPlace 98 = .ok (.ifCond .ne 7, 3) := by decide +kernel
theorem dX2_tryPlace_101 : decode cX2_tryPlace 101 = .ok (.iconst 0, 1) := by decide +kernel
theorem dX2_tryPlace_102 : decode cX2_tryPlace 102 = .ok (.goto 10, 3) := by decide +kernel
theorem dX2_tryPlace_105 : decode cX2_tryPlace 105 = .ok (.iload 4, 2) := by decide +kernel
theorem dX2_tryPlace_107 : decode cX2_tryPlace 107 = .ok (.iload 5, 2) := by decide +kernel
theorem dX2_tryPlace_109 : decode cX2_tryPlace 109 = .ok (.invokestatic 85, 3) := by decide +kernel
theorem dX2_tryPlace_112 : decode cX2_tryPlace 112 = .ok (.istore 6, 2) := by decide +kernel
theorem dX2_tryPlace_114 : decode cX2_tryPlace 114 = .ok (.aload_n 0, 1) := by decide +kernel
theorem dX2_tryPlace_115 : decode cX2_tryPlace 115 = .ok (.iload 6, 2) := by decide +kernel
theorem dX2_tryPlace_117 : decode cX2_tryPlace 117 = .ok (.iload_n 3, 1) := by decide +kernel
theorem dX2_tryPlace_118 : decode cX2_tryPlace 118 = .ok (.invokevirtual 88, 3) := by decide +kernel
theorem dX2_tryPlace_121 : decode cX2_tryPlace 121 = .ok (.lstore 7, 2) := by decide +kernel
theorem dX2_tryPlace_123 : decode cX2_tryPlace 123 = .ok (.lload 7, 2) := by decide +kernel
theorem dX2_tryPlace_125 : decode cX2_tryPlace 125 = .ok (.aload_n 0, 1) := by decide +kernel
theorem dX2_tryPlace_126 : decode cX2_tryPlace 126 = .ok (.getfield 60, 3) := by decide +kernel
theorem dX2_tryPlace_129 : decode cX2_tryPlace 129 = .ok (.lcmp, 1) := by decide +kernel
theorem dX2_tryPlace_130 : decode cX2_tryPlace 130 = .ok (.ifCond .ge 25, 3) := by decide +kernel
theorem dX2_tryPlace_133 : decode cX2_tryPlace 133 = .ok (.aload_n 0, 1) := by decide +kernel
theorem dX2_tryPlace_134 : decode cX2_tryPlace 134 = .ok (.iload_n 1, 1) := by decide +kernel
theorem dX2_tryPlace_135 : decode cX2_tryPlace 135 = .ok (.putfield 42, 3) := by decide +kernel
theorem dX2_tryPlace_138 : decode cX2_tryPlace 138 = .ok (.aload_n 0, 1) := by decide +kernel
theorem dX2_tryPlace_139 : decode cX2_tryPlace 139 = .ok (.iload_n 2, 1) := by decide +kernel
theorem dX2_tryPlace_140 : decode cX2_tryPlace 140 = .ok (.putfield 48, 3) := by decide +kernel
theorem dX2_tryPlace_143 : decode cX2_tryPlace 143 = .ok (.aload_n 0, 1) := by decide +kernel
theorem dX2_tryPlace_144 : decode cX2_tryPlace 144 = .ok (.iload 6, 2) := by decide +kernel
theorem dX2_tryPlace_146 : decode cX2_tryPlace 146 = .ok (.putfield 54, 3) := by decide +kernel
theorem dX2_tryPlace_149 : decode cX2_tryPlace 149 = .ok (.aload_n 0, 1) := by decide +kernel
theorem dX2_tryPlace_150 : decode cX2_tryPlace 150 = .ok (.lload 7, 2) := by decide +kernel
theorem dX2_tryPlace_152 : decode cX2_tryPlace 152 = .ok (.putfield 60, 3) := by decide +kernel
theorem dX2_tryPlace_155 : decode cX2_tryPlace 155 = .ok (.return_, 1) := by decide +kernel
theorem dX2_costBy_0 : decode cX2_costBy 0 = .ok (.lconst 0, 1) := by decide +kernel
theorem dX2_costBy_1 : decode cX2_costBy 1 = .ok (.lstore_n 3, 1) := by decide +kernel
theorem dX2_costBy_2 : decode cX2_costBy 2 = .ok (.iconst 0, 1) := by decide +kernel
theorem dX2_costBy_3 : decode cX2_costBy 3 = .ok (.istore 5, 2) := by decide +kernel
theorem dX2_costBy_5 : decode cX2_costBy 5 = .ok (.iload 5, 2) := by decide +kernel
theorem dX2_costBy_7 : decode cX2_costBy 7 = .ok (.aload_n 0, 1) := by decide +kernel
theorem dX2_costBy_8 : decode cX2_costBy 8 = .ok (.getfield 27, 3) := by decide +kernel
theorem dX2_costBy_11 : decode cX2_costBy 11 = .ok (.if_icmp .ge 44, 3) := by decide +kernel
theorem dX2_costBy_14 : decode cX2_costBy 14 = .ok (.iload 5, 2) := by decide +kernel
theorem dX2_costBy_16 : decode cX2_costBy 16 = .ok (.iload_n 2, 1) := by decide +kernel
theorem dX2_costBy_17 : decode cX2_costBy 17 = .ok (.if_icmp .eq 32, 3) := by decide +kernel
theorem dX2_costBy_20 : decode cX2_costBy 20 = .ok (.aload_n 0, 1) := by decide +kernel
theorem dX2_costBy_21 : decode cX2_costBy 21 = .ok (.getfield 24, 3) := by decide +kernel
theorem dX2_costBy_24 : decode cX2_costBy 24 = .ok (.iload 5, 2) := by decide +kernel
theorem dX2_costBy_26 : decode cX2_costBy 26 = .ok (.iaload, 1) := by decide +kernel
theorem dX2_costBy_27 : decode cX2_costBy 27 = .ok (.iload_n 1, 1) := by decide +kernel
theorem dX2_costBy_28 : decode cX2_costBy 28 = .ok (.isub, 1) := by decide +kernel
theorem dX2_costBy_29 : decode cX2_costBy 29 = .ok (.i2l, 1) := by decide +kernel
theorem dX2_costBy_30 : decode cX2_costBy 30 = .ok (.lstore 6, 2) := by decide +kernel
theorem dX2_costBy_32 : decode cX2_costBy 32 = .ok (.lload_n 3, 1) := by decide +kernel
theorem dX2_costBy_33 : decode cX2_costBy 33 = .ok (.aload_n 0, 1) := by decide +kernel
theorem dX2_costBy_34 : decode cX2_costBy 34 = .ok (.getfield 21, 3) := by decide +kernel
theorem dX2_costBy_37 : decode cX2_costBy 37 = .ok (.iload 5, 2) := by decide +kernel
theorem dX2_costBy_39 : decode cX2_costBy 39 = .ok (.iaload, 1) := by decide +kernel
theorem dX2_costBy_40 : decode cX2_costBy 40 = .ok (.i2l, 1) := by decide +kernel
theorem dX2_costBy_41 : decode cX2_costBy 41 = .ok (.lload 6, 2) := by decide +kernel
theorem dX2_costBy_43 : decode cX2_costBy 43 = .ok (.lmul, 1) := by decide +kernel
theorem dX2_costBy_44 : decode cX2_costBy 44 = .ok (.lload 6, 2) := by decide +kernel
theorem dX2_costBy_46 : decode cX2_costBy 46 = .ok (.lmul, 1) := by decide +kernel
theorem dX2_costBy_47 : decode cX2_costBy 47 = .ok (.ladd, 1) := by decide +kernel
theorem dX2_costBy_48 : decode cX2_costBy 48 = .ok (.lstore_n 3, 1) := by decide +kernel
theorem dX2_costBy_49 : decode cX2_costBy 49 = .ok (.iinc 5 1, 3) := by decide +kernel
theorem dX2_costBy_52 : decode cX2_costBy 52 = .ok (.goto (-47), 3) := by decide +kernel
theorem dX2_costBy_55 : decode cX2_costBy 55 = .ok (.lload_n 3, 1) := by decide +kernel
theorem dX2_costBy_56 : decode cX2_costBy 56 = .ok (.lreturn, 1) := by decide +kernel
theorem dX3_init_0 : decode cX3_init 0 = .ok (.aload_n 0, 1) := by decide +kernel
theorem dX3_init_1 : decode cX3_init 1 = .ok (.invokespecial 3, 3) := by decide +kernel
theorem dX3_init_4 : decode cX3_init 4 = .ok (.aload_n 0, 1) := by decide +kernel
theorem dX3_init_5 : decode cX3_init 5 = .ok (.iload_n 1, 1) := by decide +kernel
theorem dX3_init_6 : decode cX3_init 6 = .ok (.putfield 9, 3) := by decide +kernel
theorem dX3_init_9 : decode cX3_init 9 = .ok (.aload_n 0, 1) := by decide +kernel
theorem dX3_init_10 : decode cX3_init 10 = .ok (.iload_n 2, 1) := by decide +kernel
theorem dX3_init_11 : decode cX3_init 11 = .ok (.putfield 15, 3) := by decide +kernel
theorem dX3_init_14 : decode cX3_init 14 = .ok (.aload_n 0, 1) := by decide +kernel
theorem dX3_init_15 : decode cX3_init 15 = .ok (.iload_n 3, 1) := by decide +kernel
theorem dX3_init_16 : decode cX3_init 16 = .ok (.putfield 18, 3) := by decide +kernel
theorem dX3_init_19 : decode cX3_init 19 = .ok (.aload_n 0, 1) := by decide +kernel
theorem dX3_init_20 : decode cX3_init 20 = .ok (.iload 4, 2) := by decide +kernel
theorem dX3_init_22 : decode cX3_init 22 = .ok (.putfield 21, 3) := by decide +kernel
theorem dX3_init_25 : decode cX3_init 25 = .ok (.aload_n 0, 1) := by decide +kernel
theorem dX3_init_26 : decode cX3_init 26 = .ok (.iload 5, 2) := by decide +kernel
theorem dX3_init_28 : decode cX3_init 28 = .ok (.putfield 24, 3) := by decide +kernel
theorem dX3_init_31 : decode cX3_init 31 = .ok (.aload_n 0, 1) := by decide +kernel
theorem dX3_init_32 : decode cX3_init 32 = .ok (.iconst 1, 1) := by decide +kernel
theorem dX3_init_33 : decode cX3_init 33 = .ok (.putfield 27, 3) := by decide +kernel
theorem dX3_init_36 : decode cX3_init 36 = .ok (.aload_n 0, 1) := by decide +kernel
theorem dX3_init_37 : decode cX3_init 37 = .ok (.iconst (-1), 1) := by decide +kernel
theorem dX3_init_38 : decode cX3_init 38 = .ok (.putfield 31, 3) := by decide +kernel
theorem dX3_init_41 : decode cX3_init 41 = .ok (.aload_n 0, 1) := by decide +kernel
theorem dX3_init_42 : decode cX3_init 42 = .ok (.iconst (-1), 1) := by decide +kernel
theorem dX3_init_43 : decode cX3_init 43 = .ok (.putfield 34, 3) := by decide +kernel
theorem dX3_init_46 : decode cX3_init 46 = .ok (.return_, 1) := by decide +kernel
theorem dX3_moveClock_0 : decode cX3_moveClock 0 = .ok (.aload_n 0, 1) := by decide +kernel
theorem dX3_moveClock_1 : decode cX3_moveClock 1 = .ok (.aload_n 0, 1) := by decide +kernel
theorem dX3_moveClock_2 : decode cX3_moveClock 2 = .ok (.getfield 21, 3) := by decide +kernel
theorem dX3_moveClock_5 : decode cX3_moveClock 5 = .ok (.iload_n 1, 1) := by decide +kernel
theorem dX3_moveClock_6 : decode cX3_moveClock 6 = .ok (.iadd, 1) := by decide +kernel
theorem dX3_moveClock_7 : decode cX3_moveClock 7 = .ok (.sipush 999, 3) := by decide +kernel
theorem dX3_moveClock_10 : decode cX3_moveClock 10 = .ok (.invokestatic 37, 3) := by decide +kernel
theorem dX3_moveClock_13 : decode cX3_moveClock 13 = .ok (.putfield 21, 3) := by decide +kernel
theorem dX3_moveClock_16 : decode cX3_moveClock 16 = .ok (.return_, 1) := by decide +kernel
theorem dX3_passOne_0 : decode cX3_passOne 0 = .ok (.aload_n 0, 1) := by decide +kernel
theorem dX3_passOne_1 : decode cX3_passOne 1 = .ok (.aload_n 0, 1) := by decide +kernel
theorem dX3_passOne_2 : decode cX3_passOne 2 = .ok (.getfield 15, 3) := by decide +kernel
theorem dX3_passOne_5 : decode cX3_passOne 5 = .ok (.aload_n 0, 1) := by decide +kernel
theorem dX3_passOne_6 : decode cX3_passOne 6 = .ok (.getfield 18, 3) := by decide +kernel
theorem dX3_passOne_9 : decode cX3_passOne 9 = .ok (.iadd, 1) := by decide +kernel
theorem dX3_passOne_10 : decode cX3_passOne 10 = .ok (.bipush 48, 2) := by decide +kernel
theorem dX3_passOne_12 : decode cX3_passOne 12 = .ok (.invokestatic 41, 3) := by decide +kernel
theorem dX3_passOne_15 : decode cX3_passOne 15 = .ok (.putfield 15, 3) := by decide +kernel
theorem dX3_passOne_18 : decode cX3_passOne 18 = .ok (.aload_n 0, 1) := by decide +kernel
theorem dX3_passOne_19 : decode cX3_passOne 19 = .ok (.aload_n 0, 1) := by decide +kernel
theorem dX3_passOne_20 : decode cX3_passOne 20 = .ok (.getfield 24, 3) := by decide +kernel
theorem dX3_passOne_23 : decode cX3_passOne 23 = .ok (.invokevirtual 46, 3) := by decide +kernel
theorem dX3_passOne_26 : decode cX3_passOne 26 = .ok (.return_, 1) := by decide +kernel
theorem dX3_xIn_0 : decode cX3_xIn 0 = .ok (.aload_n 0, 1) := by decide +kernel
theorem dX3_xIn_1 : decode cX3_xIn 1 = .ok (.getfield 9, 3) := by decide +kernel
theorem dX3_xIn_4 : decode cX3_xIn 4 = .ok (.aload_n 0, 1) := by decide +kernel
theorem dX3_xIn_5 : decode cX3_xIn 5 = .ok (.getfield 15, 3) := by decide +kernel
theorem dX3_xIn_8 : decode cX3_xIn 8 = .ok (.iload_n 1, 1) := by decide +kernel
theorem dX3_xIn_9 : decode cX3_xIn 9 = .ok (.aload_n 0, 1) := by decide +kernel
theorem dX3_xIn_10 : decode cX3_xIn 10 = .ok (.getfield 18, 3) := by decide +kernel
theorem dX3_xIn_13 : decode cX3_xIn 13 = .ok (.imul, 1) := by decide +kernel
theorem dX3_xIn_14 : decode cX3_xIn 14 = .ok (.iadd, 1) := by decide +kernel
theorem dX3_xIn_15 : decode cX3_xIn 15 = .ok (.invokestatic 50, 3) := by decide +kernel
theorem dX3_xIn_18 : decode cX3_xIn 18 = .ok (.imul, 1) := by decide +kernel
theorem dX3_xIn_19 : decode cX3_xIn 19 = .ok (.bipush 12, 2) := by decide +kernel
theorem dX3_xIn_21 : decode cX3_xIn 21 = .ok (.idiv, 1) := by decide +kernel
theorem dX3_xIn_22 : decode cX3_xIn 22 = .ok (.ireturn, 1) := by decide +kernel
theorem dX3_yIn_0 : decode cX3_yIn 0 = .ok (.aload_n 0, 1) := by decide +kernel
theorem dX3_yIn_1 : decode cX3_yIn 1 = .ok (.getfield 9, 3) := by decide +kernel
theorem dX3_yIn_4 : decode cX3_yIn 4 = .ok (.aload_n 0, 1) := by decide +kernel
theorem dX3_yIn_5 : decode cX3_yIn 5 = .ok (.getfield 15, 3) := by decide +kernel
theorem dX3_yIn_8 : decode cX3_yIn 8 = .ok (.iload_n 1, 1) := by decide +kernel
theorem dX3_yIn_9 : decode cX3_yIn 9 = .ok (.aload_n 0, 1) := by decide +kernel
theorem dX3_yIn_10 : decode cX3_yIn 10 = .ok (.getfield 18, 3) := by decide +kernel
theorem dX3_yIn_13 : decode cX3_yIn 13 = .ok (.imul, 1) := by decide +kernel
theorem dX3_yIn_14 : decode cX3_yIn 14 = .ok (.iadd, 1) := by decide +kernel
theorem dX3_yIn_15 : decode cX3_yIn 15 = .ok (.bipush 12, 2) := by decide +kernel
theorem dX3_yIn_17 : decode cX3_yIn 17 = .ok (.iadd, 1) := by decide +kernel
theorem dX3_yIn_18 : decode cX3_yIn 18 = .ok (.invokestatic 50, 3) := by decide +kernel
theorem dX3_yIn_21 : decode cX3_yIn 21 = .ok (.imul, 1) := by decide +kernel
theorem dX3_yIn_22 : decode cX3_yIn 22 = .ok (.bipush 12, 2) := by decide +kernel
theorem dX3_yIn_24 : decode cX3_yIn 24 = .ok (.idiv, 1) := by decide +kernel
theorem dX3_yIn_25 : decode cX3_yIn 25 = .ok (.ireturn, 1) := by decide +kernel
theorem dX3_takeMessage_0 : decode cX3_takeMessage 0 = .ok (.aload_n 0, 1) := by decide +kernel
theorem dX3_takeMessage_1 : decode cX3_takeMessage 1 = .ok (.getfield 21, 3) := by decide +kernel
theorem dX3_takeMessage_4 : decode cX3_takeMessage 4 = .ok (.iload_n 2, 1) := by decide +kernel
theorem dX3_takeMessage_5 : decode cX3_takeMessage 5 = .ok (.iadd, 1) := by decide +kernel
theorem dX3_takeMessage_6 : decode cX3_takeMessage 6 = .ok (.istore_n 3, 1) := by decide +kernel
theorem dX3_takeMessage_7 : decode cX3_takeMessage 7 = .ok (.iload_n 1, 1) := by decide +kernel
theorem dX3_takeMessage_8 : decode cX3_takeMessage 8 = .ok (.aload_n 0, 1) := by decide +kernel
theorem dX3_takeMessage_9 : decode cX3_takeMessage 9 = .ok (.getfield 31, 3) := by decide +kernel
theorem dX3_takeMessage_12 : decode cX3_takeMessage 12 = .ok (.isub, 1) := by decide +kernel
theorem dX3_takeMessage_13 : decode cX3_takeMessage 13 = .ok (.istore 4, 2) := by decide +kernel
theorem dX3_takeMessage_15 : decode cX3_takeMessage 15 = .ok (.aload_n 0, 1) := by decide +kernel
theorem dX3_takeMessage_16 : decode cX3_takeMessage 16 = .ok (.getfield 54, 3) := by decide +kernel
theorem dX3_takeMessage_19 : decode cX3_takeMessage 19 = .ok (.ifCond .le 26, 3) := by decide +kernel
theorem dX3_takeMessage_22 : decode cX3_takeMessage 22 = .ok (.iload 4, 2) := by decide +kernel
theorem dX3_takeMessage_24 : decode cX3_takeMessage 24 = .ok (.ifCond .eq 21, 3) := by decide +kernel
theorem dX3_takeMessage_27 : decode cX3_takeMessage 27 = .ok (.aload_n 0, 1) := by decide +kernel
theorem dX3_takeMessage_28 : decode cX3_takeMessage 28 = .ok (.iload_n 3, 1) := by decide +kernel
theorem dX3_takeMessage_29 : decode cX3_takeMessage 29 = .ok (.aload_n 0, 1) := by decide +kernel
theorem dX3_takeMessage_30 : decode cX3_takeMessage 30 = .ok (.getfield 57, 3) := by decide +kernel
theorem dX3_takeMessage_33 : decode cX3_takeMessage 33 = .ok (.isub, 1) := by decide +kernel
theorem dX3_takeMessage_34 : decode cX3_takeMessage 34 = .ok (.iload 4, 2) := by decide +kernel
theorem dX3_takeMessage_36 : decode cX3_takeMessage 36 = .ok (.idiv, 1) := by decide +kernel
theorem dX3_takeMessage_37 : decode cX3_takeMessage 37 = .ok (.bipush 9, 2) := by decide +kernel
theorem dX3_takeMessage_39 : decode cX3_takeMessage 39 = .ok (.invokestatic 37, 3) := by decide +kernel
theorem dX3_takeMessage_42 : decode cX3_takeMessage 42 = .ok (.putfield 60, 3) := by decide +kernel
theorem dX3_takeMessage_45 : decode cX3_takeMessage 45 = .ok (.aload_n 0, 1) := by decide +kernel
theorem dX3_takeMessage_46 : decode cX3_takeMessage 46 = .ok (.dup, 1) := by decide +kernel
theorem dX3_takeMessage_47 : decode cX3_takeMessage 47 = .ok (.getfield 54, 3) := by decide +kernel
theorem dX3_takeMessage_50 : decode cX3_takeMessage 50 = .ok (.iconst 1, 1) := by decide +kernel
theorem dX3_takeMessage_51 : decode cX3_takeMessage 51 = .ok (.iadd, 1) := by decide +kernel
theorem dX3_takeMessage_52 : decode cX3_takeMessage 52 = .ok (.putfield 54, 3) := by decide +kernel
theorem dX3_takeMessage_55 : decode cX3_takeMessage 55 = .ok (.aload_n 0, 1) := by decide +kernel
theorem dX3_takeMessage_56 : decode cX3_takeMessage 56 = .ok (.iload_n 1, 1) := by decide +kernel
theorem dX3_takeMessage_57 : decode cX3_takeMessage 57 = .ok (.putfield 31, 3) := by decide +kernel
theorem dX3_takeMessage_60 : decode cX3_takeMessage 60 = .ok (.aload_n 0, 1) := by decide +kernel
theorem dX3_takeMessage_61 : decode cX3_takeMessage 61 = .ok (.aload_n 0, 1) := by decide +kernel
theorem dX3_takeMessage_62 : decode cX3_takeMessage 62 = .ok (.getfield 15, 3) := by decide +kernel
theorem dX3_takeMessage_65 : decode cX3_takeMessage 65 = .ok (.putfield 34, 3) := by decide +kernel
theorem dX3_takeMessage_68 : decode cX3_takeMessage 68 = .ok (.aload_n 0, 1) := by decide +kernel
theorem dX3_takeMessage_69 : decode cX3_takeMessage 69 = .ok (.iload_n 3, 1) := by decide +kernel
theorem dX3_takeMessage_70 : decode cX3_takeMessage 70 = .ok (.putfield 57, 3) := by decide +kernel
theorem dX3_takeMessage_73 : decode cX3_takeMessage 73 = .ok (.return_, 1) := by decide +kernel
theorem dX3_messageHolds_0 : decode cX3_messageHolds 0 = .ok (.aload_n 0, 1) := by decide +kernel
theorem dX3_messageHolds_1 : decode cX3_messageHolds 1 = .ok (.getfield 54, 3) := by decide +kernel
theorem dX3_messageHolds_4 : decode cX3_messageHolds 4 = .ok (.ifCond .le 22, 3) := by decide +kernel
theorem dX3_messageHolds_7 : decode cX3_messageHolds 7 = .ok (.iload_n 1, 1) := by decide +kernel
theorem dX3_messageHolds_8 : decode cX3_messageHolds 8 = .ok (.aload_n 0, 1) := by decide +kernel
theorem dX3_messageHolds_9 : decode cX3_messageHolds 9 = .ok (.getfield 31, 3) := by decide +kernel
theorem dX3_messageHolds_12 : decode cX3_messageHolds 12 = .ok (.isub, 1) := by decide +kernel
theorem dX3_messageHolds_13 : decode cX3_messageHolds 13 = .ok (.iconst 0, 1) := by decide +kernel
theorem dX3_messageHolds_14 : decode cX3_messageHolds 14 = .ok (.bipush 12, 2) := by decide +kernel
theorem dX3_messageHolds_16 : decode cX3_messageHolds 16 = .ok (.invokestatic 63, 3) := by decide +kernel
theorem dX3_messageHolds_19 : decode cX3_messageHolds 19 = .ok (.ifCond .ne 7, 3) := by decide +kernel
theorem dX3_messageHolds_22 : decode cX3_messageHolds 22 = .ok (.iconst 1, 1) := by decide +kernel
theorem dX3_messageHolds_23 : decode cX3_messageHolds 23 = .ok (.goto 4, 3) := by decide +kernel
theorem dX3_messageHolds_26 : decode cX3_messageHolds 26 = .ok (.iconst 0, 1) := by decide +kernel
theorem dX3_messageHolds_27 : decode cX3_messageHolds 27 = .ok (.ireturn, 1) := by decide +kernel
theorem dX3_toldX_0 : decode cX3_toldX 0 = .ok (.aload_n 0, 1) := by decide +kernel
theorem dX3_toldX_1 : decode cX3_toldX 1 = .ok (.getfield 9, 3) := by decide +kernel
theorem dX3_toldX_4 : decode cX3_toldX 4 = .ok (.aload_n 0, 1) := by decide +kernel
theorem dX3_toldX_5 : decode cX3_toldX 5 = .ok (.getfield 34, 3) := by decide +kernel
theorem dX3_toldX_8 : decode cX3_toldX 8 = .ok (.iload_n 1, 1) := by decide +kernel
theorem dX3_toldX_9 : decode cX3_toldX 9 = .ok (.aload_n 0, 1) := by decide +kernel
theorem dX3_toldX_10 : decode cX3_toldX 10 = .ok (.getfield 31, 3) := by decide +kernel
theorem dX3_toldX_13 : decode cX3_toldX 13 = .ok (.isub, 1) := by decide +kernel
theorem dX3_toldX_14 : decode cX3_toldX 14 = .ok (.aload_n 0, 1) := by decide +kernel
theorem dX3_toldX_15 : decode cX3_toldX 15 = .ok (.getfield 18, 3) := by decide +kernel
theorem dX3_toldX_18 : decode cX3_toldX 18 = .ok (.imul, 1) := by decide +kernel
theorem dX3_toldX_19 : decode cX3_toldX 19 = .ok (.iadd, 1) := by decide +kernel
theorem dX3_toldX_20 : decode cX3_toldX 20 = .ok (.invokestatic 50, 3) := by decide +kernel
theorem dX3_toldX_23 : decode cX3_toldX 23 = .ok (.imul, 1) := by decide +kernel
theorem dX3_toldX_24 : decode cX3_toldX 24 = .ok (.bipush 12, 2) := by decide +kernel
theorem dX3_toldX_26 : decode cX3_toldX 26 = .ok (.idiv, 1) := by decide +kernel
theorem dX3_toldX_27 : decode cX3_toldX 27 = .ok (.ireturn, 1) := by decide +kernel
theorem dX3_toldY_0 : decode cX3_toldY 0 = .ok (.aload_n 0, 1) := by decide +kernel
theorem dX3_toldY_1 : decode cX3_toldY 1 = .ok (.getfield 9, 3) := by decide +kernel
theorem dX3_toldY_4 : decode cX3_toldY 4 = .ok (.aload_n 0, 1) := by decide +kernel
theorem dX3_toldY_5 : decode cX3_toldY 5 = .ok (.getfield 34, 3) := by decide +kernel
theorem dX3_toldY_8 : decode cX3_toldY 8 = .ok (.iload_n 1, 1) := by decide +kernel
theorem dX3_toldY_9 : decode cX3_toldY 9 = .ok (.aload_n 0, 1) := by decide +kernel
theorem dX3_toldY_10 : decode cX3_toldY 10 = .ok (.getfield 31, 3) := by decide +kernel
theorem dX3_toldY_13 : decode cX3_toldY 13 = .ok (.isub, 1) := by decide +kernel
theorem dX3_toldY_14 : decode cX3_toldY 14 = .ok (.aload_n 0, 1) := by decide +kernel
theorem dX3_toldY_15 : decode cX3_toldY 15 = .ok (.getfield 18, 3) := by decide +kernel
theorem dX3_toldY_18 : decode cX3_toldY 18 = .ok (.imul, 1) := by decide +kernel
theorem dX3_toldY_19 : decode cX3_toldY 19 = .ok (.iadd, 1) := by decide +kernel
theorem dX3_toldY_20 : decode cX3_toldY 20 = .ok (.bipush 12, 2) := by decide +kernel
theorem dX3_toldY_22 : decode cX3_toldY 22 = .ok (.iadd, 1) := by decide +kernel
theorem dX3_toldY_23 : decode cX3_toldY 23 = .ok (.invokestatic 50, 3) := by decide +kernel
theorem dX3_toldY_26 : decode cX3_toldY 26 = .ok (.imul, 1) := by decide +kernel
theorem dX3_toldY_27 : decode cX3_toldY 27 = .ok (.bipush 12, 2) := by decide +kernel
theorem dX3_toldY_29 : decode cX3_toldY 29 = .ok (.idiv, 1) := by decide +kernel
theorem dX3_toldY_30 : decode cX3_toldY 30 = .ok (.ireturn, 1) := by decide +kernel
theorem dX3_toldClock_0 : decode cX3_toldClock 0 = .ok (.aload_n 0, 1) := by decide +kernel
theorem dX3_toldClock_1 : decode cX3_toldClock 1 = .ok (.getfield 57, 3) := by decide +kernel
theorem dX3_toldClock_4 : decode cX3_toldClock 4 = .ok (.iload_n 1, 1) := by decide +kernel
theorem dX3_toldClock_5 : decode cX3_toldClock 5 = .ok (.aload_n 0, 1) := by decide +kernel
theorem dX3_toldClock_6 : decode cX3_toldClock 6 = .ok (.getfield 31, 3) := by decide +kernel
theorem dX3_toldClock_9 : decode cX3_toldClock 9 = .ok (.isub, 1) := by decide +kernel
theorem dX3_toldClock_10 : decode cX3_toldClock 10 = .ok (.aload_n 0, 1) := by decide +kernel
theorem dX3_toldClock_11 : decode cX3_toldClock 11 = .ok (.getfield 60, 3) := by decide +kernel
theorem dX3_toldClock_14 : decode cX3_toldClock 14 = .ok (.imul, 1) := by decide +kernel
theorem dX3_toldClock_15 : decode cX3_toldClock 15 = .ok (.iadd, 1) := by decide +kernel
theorem dX3_toldClock_16 : decode cX3_toldClock 16 = .ok (.ireturn, 1) := by decide +kernel
theorem dX3_tell_0 : decode cX3_tell 0 = .ok (.iload_n 1, 1) := by decide +kernel
theorem dX3_tell_1 : decode cX3_tell 1 = .ok (.tableswitch 87 0 6 #[43, 48, 53, 58, 63, 68, 81], 43) := by decide +kernel
theorem dX3_tell_44 : decode cX3_tell 44 = .ok (.aload_n 0, 1) := by decide +kernel
theorem dX3_tell_45 : decode cX3_tell 45 = .ok (.getfield 9, 3) := by decide +kernel
theorem dX3_tell_48 : decode cX3_tell 48 = .ok (.ireturn, 1) := by decide +kernel
theorem dX3_tell_49 : decode cX3_tell 49 = .ok (.aload_n 0, 1) := by decide +kernel
theorem dX3_tell_50 : decode cX3_tell 50 = .ok (.getfield 15, 3) := by decide +kernel
theorem dX3_tell_53 : decode cX3_tell 53 = .ok (.ireturn, 1) := by decide +kernel
theorem dX3_tell_54 : decode cX3_tell 54 = .ok (.aload_n 0, 1) := by decide +kernel
theorem dX3_tell_55 : decode cX3_tell 55 = .ok (.getfield 18, 3) := by decide +kernel
theorem dX3_tell_58 : decode cX3_tell 58 = .ok (.ireturn, 1) := by decide +kernel
theorem dX3_tell_59 : decode cX3_tell 59 = .ok (.aload_n 0, 1) := by decide +kernel
theorem dX3_tell_60 : decode cX3_tell 60 = .ok (.getfield 21, 3) := by decide +kernel
theorem dX3_tell_63 : decode cX3_tell 63 = .ok (.ireturn, 1) := by decide +kernel
theorem dX3_tell_64 : decode cX3_tell 64 = .ok (.aload_n 0, 1) := by decide +kernel
theorem dX3_tell_65 : decode cX3_tell 65 = .ok (.getfield 24, 3) := by decide +kernel
theorem dX3_tell_68 : decode cX3_tell 68 = .ok (.ireturn, 1) := by decide +kernel
theorem dX3_tell_69 : decode cX3_tell 69 = .ok (.aload_n 0, 1) := by decide +kernel
theorem dX3_tell_70 : decode cX3_tell 70 = .ok (.getfield 27, 3) := by decide +kernel
theorem dX3_tell_73 : decode cX3_tell 73 = .ok (.ifCond .eq 7, 3) := by decide +kernel
theorem dX3_tell_76 : decode cX3_tell 76 = .ok (.iconst 1, 1) := by decide +kernel
theorem dX3_tell_77 : decode cX3_tell 77 = .ok (.goto 4, 3) := by decide +kernel
theorem dX3_tell_80 : decode cX3_tell 80 = .ok (.iconst 0, 1) := by decide +kernel
theorem dX3_tell_81 : decode cX3_tell 81 = .ok (.ireturn, 1) := by decide +kernel
theorem dX3_tell_82 : decode cX3_tell 82 = .ok (.aload_n 0, 1) := by decide +kernel
theorem dX3_tell_83 : decode cX3_tell 83 = .ok (.iconst 0, 1) := by decide +kernel
theorem dX3_tell_84 : decode cX3_tell 84 = .ok (.invokevirtual 67, 3) := by decide +kernel
theorem dX3_tell_87 : decode cX3_tell 87 = .ok (.ireturn, 1) := by decide +kernel
theorem dX3_tell_88 : decode cX3_tell 88 = .ok (.aload_n 0, 1) := by decide +kernel
theorem dX3_tell_89 : decode cX3_tell 89 = .ok (.iconst 0, 1) := by decide +kernel
theorem dX3_tell_90 : decode cX3_tell 90 = .ok (.invokevirtual 70, 3) := by decide +kernel
theorem dX3_tell_93 : decode cX3_tell 93 = .ok (.ireturn, 1) := by decide +kernel
theorem dX3_tellMessage_0 : decode cX3_tellMessage 0 = .ok (.iload_n 1, 1) := by decide +kernel
theorem dX3_tellMessage_1 : decode cX3_tellMessage 1 = .ok (.tableswitch 107 0 6 #[43, 48, 53, 58, 63, 68, 82], 43) := by decide +kernel
theorem dX3_tellMessage_44 : decode cX3_tellMessage 44 = .ok (.aload_n 0, 1) := by decide +kernel
theorem dX3_tellMessage_45 : decode cX3_tellMessage 45 = .ok (.getfield 54, 3) := by decide +kernel
theorem dX3_tellMessage_48 : decode cX3_tellMessage 48 = .ok (.ireturn, 1) := by decide +kernel
theorem dX3_tellMessage_49 : decode cX3_tellMessage 49 = .ok (.aload_n 0, 1) := by decide +kernel
theorem dX3_tellMessage_50 : decode cX3_tellMessage 50 = .ok (.getfield 31, 3) := by decide +kernel
theorem dX3_tellMessage_53 : decode cX3_tellMessage 53 = .ok (.ireturn, 1) := by decide +kernel
theorem dX3_tellMessage_54 : decode cX3_tellMessage 54 = .ok (.aload_n 0, 1) := by decide +kernel
theorem dX3_tellMessage_55 : decode cX3_tellMessage 55 = .ok (.getfield 34, 3) := by decide +kernel
theorem dX3_tellMessage_58 : decode cX3_tellMessage 58 = .ok (.ireturn, 1) := by decide +kernel
theorem dX3_tellMessage_59 : decode cX3_tellMessage 59 = .ok (.aload_n 0, 1) := by decide +kernel
theorem dX3_tellMessage_60 : decode cX3_tellMessage 60 = .ok (.getfield 57, 3) := by decide +kernel
theorem dX3_tellMessage_63 : decode cX3_tellMessage 63 = .ok (.ireturn, 1) := by decide +kernel
theorem dX3_tellMessage_64 : decode cX3_tellMessage 64 = .ok (.aload_n 0, 1) := by decide +kernel
theorem dX3_tellMessage_65 : decode cX3_tellMessage 65 = .ok (.getfield 60, 3) := by decide +kernel
theorem dX3_tellMessage_68 : decode cX3_tellMessage 68 = .ok (.ireturn, 1) := by decide +kernel
theorem dX3_tellMessage_69 : decode cX3_tellMessage 69 = .ok (.aload_n 0, 1) := by decide +kernel
theorem dX3_tellMessage_70 : decode cX3_tellMessage 70 = .ok (.iload_n 2, 1) := by decide +kernel
theorem dX3_tellMessage_71 : decode cX3_tellMessage 71 = .ok (.invokevirtual 73, 3) := by decide +kernel
theorem dX3_tellMessage_74 : decode cX3_tellMessage 74 = .ok (.ifCond .eq 7, 3) := by decide +kernel
theorem dX3_tellMessage_77 : decode cX3_tellMessage 77 = .ok (.iconst 1, 1) := by decide +kernel
theorem dX3_tellMessage_78 : decode cX3_tellMessage 78 = .ok (.goto 4, 3) := by decide +kernel
theorem dX3_tellMessage_81 : decode cX3_tellMessage 81 = .ok (.iconst 0, 1) := by decide +kernel
theorem dX3_tellMessage_82 : decode cX3_tellMessage 82 = .ok (.ireturn, 1) := by decide +kernel
theorem dX3_tellMessage_83 : decode cX3_tellMessage 83 = .ok (.aload_n 0, 1) := by decide +kernel
theorem dX3_tellMessage_84 : decode cX3_tellMessage 84 = .ok (.getfield 54, 3) := by decide +kernel
theorem dX3_tellMessage_87 : decode cX3_tellMessage 87 = .ok (.ifCond .ne 7, 3) := by decide +kernel
theorem dX3_tellMessage_90 : decode cX3_tellMessage 90 = .ok (.iconst 0, 1) := by decide +kernel
theorem dX3_tellMessage_91 : decode cX3_tellMessage 91 = .ok (.goto 16, 3) := by decide +kernel
theorem dX3_tellMessage_94 : decode cX3_tellMessage 94 = .ok (.aload_n 0, 1) := by decide +kernel
theorem dX3_tellMessage_95 : decode cX3_tellMessage 95 = .ok (.iload_n 2, 1) := by decide +kernel
theorem dX3_tellMessage_96 : decode cX3_tellMessage 96 = .ok (.invokevirtual 77, 3) := by decide +kernel
theorem dX3_tellMessage_99 : decode cX3_tellMessage 99 = .ok (.aload_n 0, 1) := by decide +kernel
theorem dX3_tellMessage_100 : decode cX3_tellMessage 100 = .ok (.getfield 21, 3) := by decide +kernel
theorem dX3_tellMessage_103 : decode cX3_tellMessage 103 = .ok (.isub, 1) := by decide +kernel
theorem dX3_tellMessage_104 : decode cX3_tellMessage 104 = .ok (.invokestatic 80, 3) := by decide +kernel
theorem dX3_tellMessage_107 : decode cX3_tellMessage 107 = .ok (.ireturn, 1) := by decide +kernel
theorem dX3_tellMessage_108 : decode cX3_tellMessage 108 = .ok (.aload_n 0, 1) := by decide +kernel
theorem dX3_tellMessage_109 : decode cX3_tellMessage 109 = .ok (.getfield 54, 3) := by decide +kernel
theorem dX3_tellMessage_112 : decode cX3_tellMessage 112 = .ok (.ifCond .ne 7, 3) := by decide +kernel
theorem dX3_tellMessage_115 : decode cX3_tellMessage 115 = .ok (.iconst 0, 1) := by decide +kernel
theorem dX3_tellMessage_116 : decode cX3_tellMessage 116 = .ok (.goto 26, 3) := by decide +kernel
theorem dX3_tellMessage_119 : decode cX3_tellMessage 119 = .ok (.aload_n 0, 1) := by decide +kernel
theorem dX3_tellMessage_120 : decode cX3_tellMessage 120 = .ok (.iload_n 2, 1) := by decide +kernel
theorem dX3_tellMessage_121 : decode cX3_tellMessage 121 = .ok (.invokevirtual 83, 3) := by decide +kernel
theorem dX3_tellMessage_124 : decode cX3_tellMessage 124 = .ok (.aload_n 0, 1) := by decide +kernel
theorem dX3_tellMessage_125 : decode cX3_tellMessage 125 = .ok (.iload_n 2, 1) := by decide +kernel
theorem dX3_tellMessage_126 : decode cX3_tellMessage 126 = .ok (.invokevirtual 86, 3) := by decide +kernel
theorem dX3_tellMessage_129 : decode cX3_tellMessage 129 = .ok (.aload_n 0, 1) := by decide +kernel
theorem dX3_tellMessage_130 : decode cX3_tellMessage 130 = .ok (.iconst 0, 1) := by decide +kernel
theorem dX3_tellMessage_131 : decode cX3_tellMessage 131 = .ok (.invokevirtual 67, 3) := by decide +kernel
theorem dX3_tellMessage_134 : decode cX3_tellMessage 134 = .ok (.aload_n 0, 1) := by decide +kernel
theorem dX3_tellMessage_135 : decode cX3_tellMessage 135 = .ok (.iconst 0, 1) := by decide +kernel
theorem dX3_tellMessage_136 : decode cX3_tellMessage 136 = .ok (.invokevirtual 70, 3) := by decide +kernel
theorem dX3_tellMessage_139 : decode cX3_tellMessage 139 = .ok (.invokestatic 89, 3) := by decide +kernel
theorem dX3_tellMessage_142 : decode cX3_tellMessage 142 = .ok (.ireturn, 1) := by decide +kernel
theorem dX4_init_0 : decode cX4_init 0 = .ok (.aload_n 0, 1) := by decide +kernel
theorem dX4_init_1 : decode cX4_init 1 = .ok (.invokespecial 1, 3) := by decide +kernel
theorem dX4_init_4 : decode cX4_init 4 = .ok (.aload_n 0, 1) := by decide +kernel
theorem dX4_init_5 : decode cX4_init 5 = .ok (.iload_n 1, 1) := by decide +kernel
theorem dX4_init_6 : decode cX4_init 6 = .ok (.putfield 7, 3) := by decide +kernel
theorem dX4_init_9 : decode cX4_init 9 = .ok (.aload_n 0, 1) := by decide +kernel
theorem dX4_init_10 : decode cX4_init 10 = .ok (.iload_n 2, 1) := by decide +kernel
theorem dX4_init_11 : decode cX4_init 11 = .ok (.putfield 13, 3) := by decide +kernel
theorem dX4_init_14 : decode cX4_init 14 = .ok (.return_, 1) := by decide +kernel
theorem dX4_canHear_0 : decode cX4_canHear 0 = .ok (.aload_n 1, 1) := by decide +kernel
theorem dX4_canHear_1 : decode cX4_canHear 1 = .ok (.iload_n 2, 1) := by decide +kernel
theorem dX4_canHear_2 : decode cX4_canHear 2 = .ok (.invokevirtual 16, 3) := by decide +kernel
theorem dX4_canHear_5 : decode cX4_canHear 5 = .ok (.istore_n 3, 1) := by decide +kernel
theorem dX4_canHear_6 : decode cX4_canHear 6 = .ok (.aload_n 1, 1) := by decide +kernel
theorem dX4_canHear_7 : decode cX4_canHear 7 = .ok (.getfield 22, 3) := by decide +kernel
theorem dX4_canHear_10 : decode cX4_canHear 10 = .ok (.ifCond .eq 32, 3) := by decide +kernel
theorem dX4_canHear_13 : decode cX4_canHear 13 = .ok (.iload_n 3, 1) := by decide +kernel
theorem dX4_canHear_14 : decode cX4_canHear 14 = .ok (.bipush 10, 2) := by decide +kernel
theorem dX4_canHear_16 : decode cX4_canHear 16 = .ok (.if_icmp .lt 26, 3) := by decide +kernel
theorem dX4_canHear_19 : decode cX4_canHear 19 = .ok (.aload_n 1, 1) := by decide +kernel
theorem dX4_canHear_20 : decode cX4_canHear 20 = .ok (.iload_n 2, 1) := by decide +kernel
theorem dX4_canHear_21 : decode cX4_canHear 21 = .ok (.invokevirtual 26, 3) := by decide +kernel
theorem dX4_canHear_24 : decode cX4_canHear 24 = .ok (.aload_n 0, 1) := by decide +kernel
theorem dX4_canHear_25 : decode cX4_canHear 25 = .ok (.getfield 7, 3) := by decide +kernel
theorem dX4_canHear_28 : decode cX4_canHear 28 = .ok (.isub, 1) := by decide +kernel
theorem dX4_canHear_29 : decode cX4_canHear 29 = .ok (.invokestatic 29, 3) := by decide +kernel
theorem dX4_canHear_32 : decode cX4_canHear 32 = .ok (.iconst 2, 1) := by decide +kernel
theorem dX4_canHear_33 : decode cX4_canHear 33 = .ok (.iload_n 3, 1) := by decide +kernel
theorem dX4_canHear_34 : decode cX4_canHear 34 = .ok (.imul, 1) := by decide +kernel
theorem dX4_canHear_35 : decode cX4_canHear 35 = .ok (.if_icmp .gt 7, 3) := by decide +kernel
theorem dX4_canHear_38 : decode cX4_canHear 38 = .ok (.iconst 1, 1) := by decide +kernel
theorem dX4_canHear_39 : decode cX4_canHear 39 = .ok (.goto 4, 3) := by decide +kernel
theorem dX4_canHear_42 : decode cX4_canHear 42 = .ok (.iconst 0, 1) := by decide +kernel
theorem dX4_canHear_43 : decode cX4_canHear 43 = .ok (.ireturn, 1) := by decide +kernel
theorem dX5_init_0 : decode cX5_init 0 = .ok (.aload_n 0, 1) := by decide +kernel
theorem dX5_init_1 : decode cX5_init 1 = .ok (.invokespecial 3, 3) := by decide +kernel
theorem dX5_init_4 : decode cX5_init 4 = .ok (.aload_n 0, 1) := by decide +kernel
theorem dX5_init_5 : decode cX5_init 5 = .ok (.iconst (-1), 1) := by decide +kernel
theorem dX5_init_6 : decode cX5_init 6 = .ok (.putfield 9, 3) := by decide +kernel
theorem dX5_init_9 : decode cX5_init 9 = .ok (.aload_n 0, 1) := by decide +kernel
theorem dX5_init_10 : decode cX5_init 10 = .ok (.bipush 99, 2) := by decide +kernel
theorem dX5_init_12 : decode cX5_init 12 = .ok (.putfield 15, 3) := by decide +kernel
theorem dX5_init_15 : decode cX5_init 15 = .ok (.aload_n 0, 1) := by decide +kernel
theorem dX5_init_16 : decode cX5_init 16 = .ok (.iconst (-1), 1) := by decide +kernel
theorem dX5_init_17 : decode cX5_init 17 = .ok (.putfield 18, 3) := by decide +kernel
theorem dX5_init_20 : decode cX5_init 20 = .ok (.return_, 1) := by decide +kernel
theorem dX5_hasObservedIn_0 : decode cX5_hasObservedIn 0 = .ok (.aload_n 0, 1) := by decide +kernel
theorem dX5_hasObservedIn_1 : decode cX5_hasObservedIn 1 = .ok (.getfield 21, 3) := by decide +kernel
theorem dX5_hasObservedIn_4 : decode cX5_hasObservedIn 4 = .ok (.ifCond .le 15, 3) := by decide +kernel
theorem dX5_hasObservedIn_7 : decode cX5_hasObservedIn 7 = .ok (.aload_n 0, 1) := by decide +kernel
theorem dX5_hasObservedIn_8 : decode cX5_hasObservedIn 8 = .ok (.getfield 9, 3) := by decide +kernel
theorem dX5_hasObservedIn_11 : decode cX5_hasObservedIn 11 = .ok (.iload_n 1, 1) := by decide +kernel
theorem dX5_hasObservedIn_12 : decode cX5_hasObservedIn 12 = .ok (.if_icmp .ne 7, 3) := by decide +kernel
theorem dX5_hasObservedIn_15 : decode cX5_hasObservedIn 15 = .ok (.iconst 1, 1) := by decide +kernel
theorem dX5_hasObservedIn_16 : decode cX5_hasObservedIn 16 = .ok (.goto 4, 3) := by decide +kernel
theorem dX5_hasObservedIn_19 : decode cX5_hasObservedIn 19 = .ok (.iconst 0, 1) := by decide +kernel
theorem dX5_hasObservedIn_20 : decode cX5_hasObservedIn 20 = .ok (.ireturn, 1) := by decide +kernel
theorem dX5_hasObservedSince_0 : decode cX5_hasObservedSince 0 = .ok (.aload_n 0, 1) := by decide +kernel
theorem dX5_hasObservedSince_1 : decode cX5_hasObservedSince 1 = .ok (.getfield 21, 3) := by decide +kernel
theorem dX5_hasObservedSince_4 : decode cX5_hasObservedSince 4 = .ok (.ifCond .le 15, 3) := by decide +kernel
theorem dX5_hasObservedSince_7 : decode cX5_hasObservedSince 7 = .ok (.aload_n 0, 1) := by decide +kernel
theorem dX5_hasObservedSince_8 : decode cX5_hasObservedSince 8 = .ok (.getfield 9, 3) := by decide +kernel
theorem dX5_hasObservedSince_11 : decode cX5_hasObservedSince 11 = .ok (.iload_n 1, 1) := by decide +kernel
theorem dX5_hasObservedSince_12 : decode cX5_hasObservedSince 12 = .ok (.if_icmp .lt 7, 3) := by decide +kernel
theorem dX5_hasObservedSince_15 : decode cX5_hasObservedSince 15 = .ok (.iconst 1, 1) := by decide +kernel
theorem dX5_hasObservedSince_16 : decode cX5_hasObservedSince 16 = .ok (.goto 4, 3) := by decide +kernel
theorem dX5_hasObservedSince_19 : decode cX5_hasObservedSince 19 = .ok (.iconst 0, 1) := by decide +kernel
theorem dX5_hasObservedSince_20 : decode cX5_hasObservedSince 20 = .ok (.ireturn, 1) := by decide +kernel
theorem dX5_leapsTo_0 : decode cX5_leapsTo 0 = .ok (.aload_n 0, 1) := by decide +kernel
theorem dX5_leapsTo_1 : decode cX5_leapsTo 1 = .ok (.iload_n 3, 1) := by decide +kernel
theorem dX5_leapsTo_2 : decode cX5_leapsTo 2 = .ok (.iconst 1, 1) := by decide +kernel
theorem dX5_leapsTo_3 : decode cX5_leapsTo 3 = .ok (.isub, 1) := by decide +kernel
theorem dX5_leapsTo_4 : decode cX5_leapsTo 4 = .ok (.invokevirtual 24, 3) := by decide +kernel
theorem dX5_leapsTo_7 : decode cX5_leapsTo 7 = .ok (.ifCond .eq 32, 3) := by decide +kernel
theorem dX5_leapsTo_10 : decode cX5_leapsTo 10 = .ok (.aload_n 0, 1) := by decide +kernel
theorem dX5_leapsTo_11 : decode cX5_leapsTo 11 = .ok (.getfield 28, 3) := by decide +kernel
theorem dX5_leapsTo_14 : decode cX5_leapsTo 14 = .ok (.iconst 3, 1) := by decide +kernel
theorem dX5_leapsTo_15 : decode cX5_leapsTo 15 = .ok (.if_icmp .lt 24, 3) := by decide +kernel
theorem dX5_leapsTo_18 : decode cX5_leapsTo 18 = .ok (.aload_n 0, 1) := by decide +kernel
theorem dX5_leapsTo_19 : decode cX5_leapsTo 19 = .ok (.getfield 31, 3) := by decide +kernel
theorem dX5_leapsTo_22 : decode cX5_leapsTo 22 = .ok (.aload_n 0, 1) := by decide +kernel
theorem dX5_leapsTo_23 : decode cX5_leapsTo 23 = .ok (.getfield 34, 3) := by decide +kernel
theorem dX5_leapsTo_26 : decode cX5_leapsTo 26 = .ok (.iload_n 1, 1) := by decide +kernel
theorem dX5_leapsTo_27 : decode cX5_leapsTo 27 = .ok (.iload_n 2, 1) := by decide +kernel
theorem dX5_leapsTo_28 : decode cX5_leapsTo 28 = .ok (.invokestatic 37, 3) := by decide +kernel
theorem dX5_leapsTo_31 : decode cX5_leapsTo 31 = .ok (.iconst 4, 1) := by decide +kernel
theorem dX5_leapsTo_32 : decode cX5_leapsTo 32 = .ok (.if_icmp .le 7, 3) := by decide +kernel
theorem dX5_leapsTo_35 : decode cX5_leapsTo 35 = .ok (.iconst 1, 1) := by decide +kernel
theorem dX5_leapsTo_36 : decode cX5_leapsTo 36 = .ok (.goto 4, 3) := by decide +kernel
theorem dX5_leapsTo_39 : decode cX5_leapsTo 39 = .ok (.iconst 0, 1) := by decide +kernel
theorem dX5_leapsTo_40 : decode cX5_leapsTo 40 = .ok (.ireturn, 1) := by decide +kernel
theorem dX5_keepAll_0 : decode cX5_keepAll 0 = .ok (.aload_n 0, 1) := by decide +kernel
theorem dX5_keepAll_1 : decode cX5_keepAll 1 = .ok (.dup, 1) := by decide +kernel
theorem dX5_keepAll_2 : decode cX5_keepAll 2 = .ok (.getfield 21, 3) := by decide +kernel
theorem dX5_keepAll_5 : decode cX5_keepAll 5 = .ok (.iconst 1, 1) := by decide +kernel
theorem dX5_keepAll_6 : decode cX5_keepAll 6 = .ok (.iadd, 1) := by decide +kernel
theorem dX5_keepAll_7 : decode cX5_keepAll 7 = .ok (.putfield 21, 3) := by decide +kernel
theorem dX5_keepAll_10 : decode cX5_keepAll 10 = .ok (.aload_n 0, 1) := by decide +kernel
theorem dX5_keepAll_11 : decode cX5_keepAll 11 = .ok (.iload_n 1, 1) := by decide +kernel
theorem dX5_keepAll_12 : decode cX5_keepAll 12 = .ok (.putfield 9, 3) := by decide +kernel
theorem dX5_keepAll_15 : decode cX5_keepAll 15 = .ok (.aload_n 0, 1) := by decide +kernel
theorem dX5_keepAll_16 : decode cX5_keepAll 16 = .ok (.aload_n 2, 1) := by decide +kernel
theorem dX5_keepAll_17 : decode cX5_keepAll 17 = .ok (.getfield 41, 3) := by decide +kernel
theorem dX5_keepAll_20 : decode cX5_keepAll 20 = .ok (.putfield 28, 3) := by decide +kernel
theorem dX5_keepAll_23 : decode cX5_keepAll 23 = .ok (.aload_n 0, 1) := by decide +kernel
theorem dX5_keepAll_24 : decode cX5_keepAll 24 = .ok (.aload_n 2, 1) := by decide +kernel
theorem dX5_keepAll_25 : decode cX5_keepAll 25 = .ok (.getfield 44, 3) := by decide +kernel
theorem dX5_keepAll_28 : decode cX5_keepAll 28 = .ok (.putfield 15, 3) := by decide +kernel
theorem dX5_keepAll_31 : decode cX5_keepAll 31 = .ok (.aload_n 0, 1) := by decide +kernel
theorem dX5_keepAll_32 : decode cX5_keepAll 32 = .ok (.iload_n 3, 1) := by decide +kernel
theorem dX5_keepAll_33 : decode cX5_keepAll 33 = .ok (.putfield 45, 3) := by decide +kernel
theorem dX5_keepAll_36 : decode cX5_keepAll 36 = .ok (.aload_n 0, 1) := by decide +kernel
theorem dX5_keepAll_37 : decode cX5_keepAll 37 = .ok (.getfield 45, 3) := by decide +kernel
theorem dX5_keepAll_40 : decode cX5_keepAll 40 = .ok (.ifCond .le 8, 3) := by decide +kernel
theorem dX5_keepAll_43 : decode cX5_keepAll 43 = .ok (.aload_n 0, 1) := by decide +kernel
theorem dX5_keepAll_44 : decode cX5_keepAll 44 = .ok (.iload_n 1, 1) := by decide +kernel
theorem dX5_keepAll_45 : decode cX5_keepAll 45 = .ok (.putfield 18, 3) := by decide +kernel
theorem dX5_keepAll_48 : decode cX5_keepAll 48 = .ok (.aload_n 2, 1) := by decide +kernel
theorem dX5_keepAll_49 : decode cX5_keepAll 49 = .ok (.invokevirtual 48, 3) := by decide +kernel
theorem dX5_keepAll_52 : decode cX5_keepAll 52 = .ok (.ifCond .eq 12, 3) := by decide +kernel
theorem dX5_keepAll_55 : decode cX5_keepAll 55 = .ok (.aload_n 0, 1) := by decide +kernel
theorem dX5_keepAll_56 : decode cX5_keepAll 56 = .ok (.aload_n 2, 1) := by decide +kernel
theorem dX5_keepAll_57 : decode cX5_keepAll 57 = .ok (.iload 4, 2) := by decide +kernel
theorem dX5_keepAll_59 : decode cX5_keepAll 59 = .ok (.iload 5, 2) := by decide +kernel
theorem dX5_keepAll_61 : decode cX5_keepAll 61 = .ok (.invokevirtual 52, 3) := by decide +kernel
theorem dX5_keepAll_64 : decode cX5_keepAll 64 = .ok (.return_, 1) := by decide +kernel
theorem dX5_keepSolution_0 : decode cX5_keepSolution 0 = .ok (.aload_n 0, 1) := by decide +kernel
theorem dX5_keepSolution_1 : decode cX5_keepSolution 1 = .ok (.aload_n 1, 1) := by decide +kernel
theorem dX5_keepSolution_2 : decode cX5_keepSolution 2 = .ok (.getfield 56, 3) := by decide +kernel
theorem dX5_keepSolution_5 : decode cX5_keepSolution 5 = .ok (.putfield 31, 3) := by decide +kernel
theorem dX5_keepSolution_8 : decode cX5_keepSolution 8 = .ok (.aload_n 0, 1) := by decide +kernel
theorem dX5_keepSolution_9 : decode cX5_keepSolution 9 = .ok (.aload_n 1, 1) := by decide +kernel
theorem dX5_keepSolution_10 : decode cX5_keepSolution 10 = .ok (.getfield 57, 3) := by decide +kernel
theorem dX5_keepSolution_13 : decode cX5_keepSolution 13 = .ok (.putfield 34, 3) := by decide +kernel
theorem dX5_keepSolution_16 : decode cX5_keepSolution 16 = .ok (.aload_n 0, 1) := by decide +kernel
theorem dX5_keepSolution_17 : decode cX5_keepSolution 17 = .ok (.aload_n 1, 1) := by decide +kernel
theorem dX5_keepSolution_18 : decode cX5_keepSolution 18 = .ok (.getfield 58, 3) := by decide +kernel
theorem dX5_keepSolution_21 : decode cX5_keepSolution 21 = .ok (.putfield 61, 3) := by decide +kernel
theorem dX5_keepSolution_24 : decode cX5_keepSolution 24 = .ok (.aload_n 0, 1) := by decide +kernel
theorem dX5_keepSolution_25 : decode cX5_keepSolution 25 = .ok (.aload_n 1, 1) := by decide +kernel
theorem dX5_keepSolution_26 : decode cX5_keepSolution 26 = .ok (.getfield 62, 3) := by decide +kernel
theorem dX5_keepSolution_29 : decode cX5_keepSolution 29 = .ok (.l2i, 1) := by decide +kernel
theorem dX5_keepSolution_30 : decode cX5_keepSolution 30 = .ok (.putfield 66, 3) := by decide +kernel
theorem dX5_keepSolution_33 : decode cX5_keepSolution 33 = .ok (.aload_n 0, 1) := by decide +kernel
theorem dX5_keepSolution_34 : decode cX5_keepSolution 34 = .ok (.dup, 1) := by decide +kernel
theorem dX5_keepSolution_35 : decode cX5_keepSolution 35 = .ok (.getfield 68, 3) := by decide +kernel
theorem dX5_keepSolution_38 : decode cX5_keepSolution 38 = .ok (.iconst 1, 1) := by decide +kernel
theorem dX5_keepSolution_39 : decode cX5_keepSolution 39 = .ok (.iadd, 1) := by decide +kernel
theorem dX5_keepSolution_40 : decode cX5_keepSolution 40 = .ok (.putfield 68, 3) := by decide +kernel
theorem dX5_keepSolution_43 : decode cX5_keepSolution 43 = .ok (.aload_n 0, 1) := by decide +kernel
theorem dX5_keepSolution_44 : decode cX5_keepSolution 44 = .ok (.iload_n 2, 1) := by decide +kernel
theorem dX5_keepSolution_45 : decode cX5_keepSolution 45 = .ok (.iload_n 3, 1) := by decide +kernel
theorem dX5_keepSolution_46 : decode cX5_keepSolution 46 = .ok (.invokevirtual 71, 3) := by decide +kernel
theorem dX5_keepSolution_49 : decode cX5_keepSolution 49 = .ok (.istore 4, 2) := by decide +kernel
theorem dX5_keepSolution_51 : decode cX5_keepSolution 51 = .ok (.aload_n 0, 1) := by decide +kernel
theorem dX5_keepSolution_52 : decode cX5_keepSolution 52 = .ok (.dup, 1) := by decide +kernel
theorem dX5_keepSolution_53 : decode cX5_keepSolution 53 = .ok (.getfield 75, 3) := by decide +kernel
theorem dX5_keepSolution_56 : decode cX5_keepSolution 56 = .ok (.iload 4, 2) := by decide +kernel
theorem dX5_keepSolution_58 : decode cX5_keepSolution 58 = .ok (.iadd, 1) := by decide +kernel
theorem dX5_keepSolution_59 : decode cX5_keepSolution 59 = .ok (.putfield 75, 3) := by decide +kernel
theorem dX5_keepSolution_62 : decode cX5_keepSolution 62 = .ok (.aload_n 0, 1) := by decide +kernel
theorem dX5_keepSolution_63 : decode cX5_keepSolution 63 = .ok (.getfield 45, 3) := by decide +kernel
theorem dX5_keepSolution_66 : decode cX5_keepSolution 66 = .ok (.ifCond .ne 22, 3) := by decide +kernel
theorem dX5_keepSolution_69 : decode cX5_keepSolution 69 = .ok (.iload 4, 2) := by decide +kernel
theorem dX5_keepSolution_71 : decode cX5_keepSolution 71 = .ok (.aload_n 0, 1) := by decide +kernel
theorem dX5_keepSolution_72 : decode cX5_keepSolution 72 = .ok (.getfield 15, 3) := by decide +kernel
theorem dX5_keepSolution_75 : decode cX5_keepSolution 75 = .ok (.if_icmp .le 13, 3) := by decide +kernel
theorem dX5_keepSolution_78 : decode cX5_keepSolution 78 = .ok (.aload_n 0, 1) := by decide +kernel
theorem dX5_keepSolution_79 : decode cX5_keepSolution 79 = .ok (.dup, 1) := by decide +kernel
theorem dX5_keepSolution_80 : decode cX5_keepSolution 80 = .ok (.getfield 78, 3) := by decide +kernel
theorem dX5_keepSolution_83 : decode cX5_keepSolution 83 = .ok (.iconst 1, 1) := by decide +kernel
theorem dX5_keepSolution_84 : decode cX5_keepSolution 84 = .ok (.iadd, 1) := by decide +kernel
theorem dX5_keepSolution_85 : decode cX5_keepSolution 85 = .ok (.putfield 78, 3) := by decide +kernel
theorem dX5_keepSolution_88 : decode cX5_keepSolution 88 = .ok (.return_, 1) := by decide +kernel
theorem dX5_errorAt_0 : decode cX5_errorAt 0 = .ok (.aload_n 0, 1) := by decide +kernel
theorem dX5_errorAt_1 : decode cX5_errorAt 1 = .ok (.getfield 68, 3) := by decide +kernel
theorem dX5_errorAt_4 : decode cX5_errorAt 4 = .ok (.ifCond .ne 7, 3) := by decide +kernel
theorem dX5_errorAt_7 : decode cX5_errorAt 7 = .ok (.iconst 0, 1) := by decide +kernel
theorem dX5_errorAt_8 : decode cX5_errorAt 8 = .ok (.goto 16, 3) := by decide +kernel
theorem dX5_errorAt_11 : decode cX5_errorAt 11 = .ok (.aload_n 0, 1) := by decide +kernel
theorem dX5_errorAt_12 : decode cX5_errorAt 12 = .ok (.getfield 31, 3) := by decide +kernel
theorem dX5_errorAt_15 : decode cX5_errorAt 15 = .ok (.aload_n 0, 1) := by decide +kernel
theorem dX5_errorAt_16 : decode cX5_errorAt 16 = .ok (.getfield 34, 3) := by decide +kernel
theorem dX5_errorAt_19 : decode cX5_errorAt 19 = .ok (.iload_n 1, 1) := by decide +kernel
theorem dX5_errorAt_20 : decode cX5_errorAt 20 = .ok (.iload_n 2, 1) := by decide +kernel
theorem dX5_errorAt_21 : decode cX5_errorAt 21 = .ok (.invokestatic 37, 3) := by decide +kernel
theorem dX5_errorAt_24 : decode cX5_errorAt 24 = .ok (.ireturn, 1) := by decide +kernel
theorem dX5_meanOfErrors_0 : decode cX5_meanOfErrors 0 = .ok (.aload_n 0, 1) := by decide +kernel
theorem dX5_meanOfErrors_1 : decode cX5_meanOfErrors 1 = .ok (.getfield 68, 3) := by decide +kernel
theorem dX5_meanOfErrors_4 : decode cX5_meanOfErrors 4 = .ok (.ifCond .ne 7, 3) := by decide +kernel
theorem dX5_meanOfErrors_7 : decode cX5_meanOfErrors 7 = .ok (.dconst 0, 1) := by decide +kernel
theorem dX5_meanOfErrors_8 : decode cX5_meanOfErrors 8 = .ok (.goto 14, 3) := by decide +kernel
theorem dX5_meanOfErrors_11 : decode cX5_meanOfErrors 11 = .ok (.aload_n 0, 1) := by decide +kernel
theorem dX5_meanOfErrors_12 : decode cX5_meanOfErrors 12 = .ok (.getfield 75, 3) := by decide +kernel
theorem dX5_meanOfErrors_15 : decode cX5_meanOfErrors 15 = .ok (.i2d, 1) := by decide +kernel
theorem dX5_meanOfErrors_16 : decode cX5_meanOfErrors 16 = .ok (.aload_n 0, 1) := by decide +kernel
theorem dX5_meanOfErrors_17 : decode cX5_meanOfErrors 17 = .ok (.getfield 68, 3) := by decide +kernel
theorem dX5_meanOfErrors_20 : decode cX5_meanOfErrors 20 = .ok (.i2d, 1) := by decide +kernel
theorem dX5_meanOfErrors_21 : decode cX5_meanOfErrors 21 = .ok (.ddiv, 1) := by decide +kernel
theorem dX5_meanOfErrors_22 : decode cX5_meanOfErrors 22 = .ok (.dreturn, 1) := by decide +kernel
theorem dX5_tell_0 : decode cX5_tell 0 = .ok (.iload_n 1, 1) := by decide +kernel
theorem dX5_tell_1 : decode cX5_tell 1 = .ok (.tableswitch 96 3 11 #[51, 56, 61, 66, 71, 76, 81, 86, 91], 51) := by decide +kernel
theorem dX5_tell_52 : decode cX5_tell 52 = .ok (.aload_n 0, 1) := by decide +kernel
theorem dX5_tell_53 : decode cX5_tell 53 = .ok (.getfield 9, 3) := by decide +kernel
theorem dX5_tell_56 : decode cX5_tell 56 = .ok (.ireturn, 1) := by decide +kernel
theorem dX5_tell_57 : decode cX5_tell 57 = .ok (.aload_n 0, 1) := by decide +kernel
theorem dX5_tell_58 : decode cX5_tell 58 = .ok (.getfield 28, 3) := by decide +kernel
theorem dX5_tell_61 : decode cX5_tell 61 = .ok (.ireturn, 1) := by decide +kernel
theorem dX5_tell_62 : decode cX5_tell 62 = .ok (.aload_n 0, 1) := by decide +kernel
theorem dX5_tell_63 : decode cX5_tell 63 = .ok (.getfield 31, 3) := by decide +kernel
theorem dX5_tell_66 : decode cX5_tell 66 = .ok (.ireturn, 1) := by decide +kernel
theorem dX5_tell_67 : decode cX5_tell 67 = .ok (.aload_n 0, 1) := by decide +kernel
theorem dX5_tell_68 : decode cX5_tell 68 = .ok (.getfield 34, 3) := by decide +kernel
theorem dX5_tell_71 : decode cX5_tell 71 = .ok (.ireturn, 1) := by decide +kernel
theorem dX5_tell_72 : decode cX5_tell 72 = .ok (.aload_n 0, 1) := by decide +kernel
theorem dX5_tell_73 : decode cX5_tell 73 = .ok (.getfield 61, 3) := by decide +kernel
theorem dX5_tell_76 : decode cX5_tell 76 = .ok (.ireturn, 1) := by decide +kernel
theorem dX5_tell_77 : decode cX5_tell 77 = .ok (.aload_n 0, 1) := by decide +kernel
theorem dX5_tell_78 : decode cX5_tell 78 = .ok (.getfield 66, 3) := by decide +kernel
theorem dX5_tell_81 : decode cX5_tell 81 = .ok (.ireturn, 1) := by decide +kernel
theorem dX5_tell_82 : decode cX5_tell 82 = .ok (.aload_n 0, 1) := by decide +kernel
theorem dX5_tell_83 : decode cX5_tell 83 = .ok (.getfield 15, 3) := by decide +kernel
theorem dX5_tell_86 : decode cX5_tell 86 = .ok (.ireturn, 1) := by decide +kernel
theorem dX5_tell_87 : decode cX5_tell 87 = .ok (.aload_n 0, 1) := by decide +kernel
theorem dX5_tell_88 : decode cX5_tell 88 = .ok (.getfield 45, 3) := by decide +kernel
theorem dX5_tell_91 : decode cX5_tell 91 = .ok (.ireturn, 1) := by decide +kernel
theorem dX5_tell_92 : decode cX5_tell 92 = .ok (.aload_n 0, 1) := by decide +kernel
theorem dX5_tell_93 : decode cX5_tell 93 = .ok (.getfield 78, 3) := by decide +kernel
theorem dX5_tell_96 : decode cX5_tell 96 = .ok (.ireturn, 1) := by decide +kernel
theorem dX5_tell_97 : decode cX5_tell 97 = .ok (.aload_n 0, 1) := by decide +kernel
theorem dX5_tell_98 : decode cX5_tell 98 = .ok (.getfield 18, 3) := by decide +kernel
theorem dX5_tell_101 : decode cX5_tell 101 = .ok (.ireturn, 1) := by decide +kernel
theorem dJ6_bitCount_0f7a4_0 : decode cJ6_bitCount_0f7a4 0 = .ok (.iload_n 0, 1) := by decide +kernel
theorem dJ6_bitCount_0f7a4_1 : decode cJ6_bitCount_0f7a4 1 = .ok (.iload_n 0, 1) := by decide +kernel
theorem dJ6_bitCount_0f7a4_2 : decode cJ6_bitCount_0f7a4 2 = .ok (.iconst 1, 1) := by decide +kernel
theorem dJ6_bitCount_0f7a4_3 : decode cJ6_bitCount_0f7a4 3 = .ok (.iushr, 1) := by decide +kernel
theorem dJ6_bitCount_0f7a4_4 : decode cJ6_bitCount_0f7a4 4 = .ok (.ldc_w 265, 3) := by decide +kernel
theorem dJ6_bitCount_0f7a4_7 : decode cJ6_bitCount_0f7a4 7 = .ok (.iand, 1) := by decide +kernel
theorem dJ6_bitCount_0f7a4_8 : decode cJ6_bitCount_0f7a4 8 = .ok (.isub, 1) := by decide +kernel
theorem dJ6_bitCount_0f7a4_9 : decode cJ6_bitCount_0f7a4 9 = .ok (.istore_n 0, 1) := by decide +kernel
theorem dJ6_bitCount_0f7a4_10 : decode cJ6_bitCount_0f7a4 10 = .ok (.iload_n 0, 1) := by decide +kernel
theorem dJ6_bitCount_0f7a4_11 : decode cJ6_bitCount_0f7a4 11 = .ok (.ldc_w 266, 3) := by decide +kernel
theorem dJ6_bitCount_0f7a4_14 : decode cJ6_bitCount_0f7a4 14 = .ok (.iand, 1) := by decide +kernel
theorem dJ6_bitCount_0f7a4_15 : decode cJ6_bitCount_0f7a4 15 = .ok (.iload_n 0, 1) := by decide +kernel
theorem dJ6_bitCount_0f7a4_16 : decode cJ6_bitCount_0f7a4 16 = .ok (.iconst 2, 1) := by decide +kernel
theorem dJ6_bitCount_0f7a4_17 : decode cJ6_bitCount_0f7a4 17 = .ok (.iushr, 1) := by decide +kernel
theorem dJ6_bitCount_0f7a4_18 : decode cJ6_bitCount_0f7a4 18 = .ok (.ldc_w 266, 3) := by decide +kernel
theorem dJ6_bitCount_0f7a4_21 : decode cJ6_bitCount_0f7a4 21 = .ok (.iand, 1) := by decide +kernel
theorem dJ6_bitCount_0f7a4_22 : decode cJ6_bitCount_0f7a4 22 = .ok (.iadd, 1) := by decide +kernel
theorem dJ6_bitCount_0f7a4_23 : decode cJ6_bitCount_0f7a4 23 = .ok (.istore_n 0, 1) := by decide +kernel
theorem dJ6_bitCount_0f7a4_24 : decode cJ6_bitCount_0f7a4 24 = .ok (.iload_n 0, 1) := by decide +kernel
theorem dJ6_bitCount_0f7a4_25 : decode cJ6_bitCount_0f7a4 25 = .ok (.iload_n 0, 1) := by decide +kernel
theorem dJ6_bitCount_0f7a4_26 : decode cJ6_bitCount_0f7a4 26 = .ok (.iconst 4, 1) := by decide +kernel
theorem dJ6_bitCount_0f7a4_27 : decode cJ6_bitCount_0f7a4 27 = .ok (.iushr, 1) := by decide +kernel
theorem dJ6_bitCount_0f7a4_28 : decode cJ6_bitCount_0f7a4 28 = .ok (.iadd, 1) := by decide +kernel
theorem dJ6_bitCount_0f7a4_29 : decode cJ6_bitCount_0f7a4 29 = .ok (.ldc_w 267, 3) := by decide +kernel
theorem dJ6_bitCount_0f7a4_32 : decode cJ6_bitCount_0f7a4 32 = .ok (.iand, 1) := by decide +kernel
theorem dJ6_bitCount_0f7a4_33 : decode cJ6_bitCount_0f7a4 33 = .ok (.istore_n 0, 1) := by decide +kernel
theorem dJ6_bitCount_0f7a4_34 : decode cJ6_bitCount_0f7a4 34 = .ok (.iload_n 0, 1) := by decide +kernel
theorem dJ6_bitCount_0f7a4_35 : decode cJ6_bitCount_0f7a4 35 = .ok (.iload_n 0, 1) := by decide +kernel
theorem dJ6_bitCount_0f7a4_36 : decode cJ6_bitCount_0f7a4 36 = .ok (.bipush 8, 2) := by decide +kernel
theorem dJ6_bitCount_0f7a4_38 : decode cJ6_bitCount_0f7a4 38 = .ok (.iushr, 1) := by decide +kernel
theorem dJ6_bitCount_0f7a4_39 : decode cJ6_bitCount_0f7a4 39 = .ok (.iadd, 1) := by decide +kernel
theorem dJ6_bitCount_0f7a4_40 : decode cJ6_bitCount_0f7a4 40 = .ok (.istore_n 0, 1) := by decide +kernel
theorem dJ6_bitCount_0f7a4_41 : decode cJ6_bitCount_0f7a4 41 = .ok (.iload_n 0, 1) := by decide +kernel
theorem dJ6_bitCount_0f7a4_42 : decode cJ6_bitCount_0f7a4 42 = .ok (.iload_n 0, 1) := by decide +kernel
theorem dJ6_bitCount_0f7a4_43 : decode cJ6_bitCount_0f7a4 43 = .ok (.bipush 16, 2) := by decide +kernel
theorem dJ6_bitCount_0f7a4_45 : decode cJ6_bitCount_0f7a4 45 = .ok (.iushr, 1) := by decide +kernel
theorem dJ6_bitCount_0f7a4_46 : decode cJ6_bitCount_0f7a4 46 = .ok (.iadd, 1) := by decide +kernel
theorem dJ6_bitCount_0f7a4_47 : decode cJ6_bitCount_0f7a4 47 = .ok (.istore_n 0, 1) := by decide +kernel
theorem dJ6_bitCount_0f7a4_48 : decode cJ6_bitCount_0f7a4 48 = .ok (.iload_n 0, 1) := by decide +kernel
theorem dJ6_bitCount_0f7a4_49 : decode cJ6_bitCount_0f7a4 49 = .ok (.bipush 63, 2) := by decide +kernel
theorem dJ6_bitCount_0f7a4_51 : decode cJ6_bitCount_0f7a4 51 = .ok (.iand, 1) := by decide +kernel
theorem dJ6_bitCount_0f7a4_52 : decode cJ6_bitCount_0f7a4 52 = .ok (.ireturn, 1) := by decide +kernel
theorem dJ9_floorDiv_7cf53_0 : decode cJ9_floorDiv_7cf53 0 = .ok (.iload_n 0, 1) := by decide +kernel
theorem dJ9_floorDiv_7cf53_1 : decode cJ9_floorDiv_7cf53 1 = .ok (.iload_n 1, 1) := by decide +kernel
theorem dJ9_floorDiv_7cf53_2 : decode cJ9_floorDiv_7cf53 2 = .ok (.idiv, 1) := by decide +kernel
theorem dJ9_floorDiv_7cf53_3 : decode cJ9_floorDiv_7cf53 3 = .ok (.istore_n 2, 1) := by decide +kernel
theorem dJ9_floorDiv_7cf53_4 : decode cJ9_floorDiv_7cf53 4 = .ok (.iload_n 0, 1) := by decide +kernel
theorem dJ9_floorDiv_7cf53_5 : decode cJ9_floorDiv_7cf53 5 = .ok (.iload_n 1, 1) := by decide +kernel
theorem dJ9_floorDiv_7cf53_6 : decode cJ9_floorDiv_7cf53 6 = .ok (.ixor, 1) := by decide +kernel
theorem dJ9_floorDiv_7cf53_7 : decode cJ9_floorDiv_7cf53 7 = .ok (.ifCond .ge 14, 3) := by decide +kernel
theorem dJ9_floorDiv_7cf53_10 : decode cJ9_floorDiv_7cf53 10 = .ok (.iload_n 2, 1) := by decide +kernel
theorem dJ9_floorDiv_7cf53_11 : decode cJ9_floorDiv_7cf53 11 = .ok (.iload_n 1, 1) := by decide +kernel
theorem dJ9_floorDiv_7cf53_12 : decode cJ9_floorDiv_7cf53 12 = .ok (.imul, 1) := by decide +kernel
theorem dJ9_floorDiv_7cf53_13 : decode cJ9_floorDiv_7cf53 13 = .ok (.iload_n 0, 1) := by decide +kernel
theorem dJ9_floorDiv_7cf53_14 : decode cJ9_floorDiv_7cf53 14 = .ok (.if_icmp .eq 7, 3) := by decide +kernel
theorem dJ9_floorDiv_7cf53_17 : decode cJ9_floorDiv_7cf53 17 = .ok (.iload_n 2, 1) := by decide +kernel
theorem dJ9_floorDiv_7cf53_18 : decode cJ9_floorDiv_7cf53 18 = .ok (.iconst 1, 1) := by decide +kernel
theorem dJ9_floorDiv_7cf53_19 : decode cJ9_floorDiv_7cf53 19 = .ok (.isub, 1) := by decide +kernel
theorem dJ9_floorDiv_7cf53_20 : decode cJ9_floorDiv_7cf53 20 = .ok (.ireturn, 1) := by decide +kernel
theorem dJ9_floorDiv_7cf53_21 : decode cJ9_floorDiv_7cf53 21 = .ok (.iload_n 2, 1) := by decide +kernel
theorem dJ9_floorDiv_7cf53_22 : decode cJ9_floorDiv_7cf53 22 = .ok (.ireturn, 1) := by decide +kernel
theorem dJ9_floorMod_7cf53_0 : decode cJ9_floorMod_7cf53 0 = .ok (.iload_n 0, 1) := by decide +kernel
theorem dJ9_floorMod_7cf53_1 : decode cJ9_floorMod_7cf53 1 = .ok (.iload_n 1, 1) := by decide +kernel
theorem dJ9_floorMod_7cf53_2 : decode cJ9_floorMod_7cf53 2 = .ok (.irem, 1) := by decide +kernel
theorem dJ9_floorMod_7cf53_3 : decode cJ9_floorMod_7cf53 3 = .ok (.istore_n 2, 1) := by decide +kernel
theorem dJ9_floorMod_7cf53_4 : decode cJ9_floorMod_7cf53 4 = .ok (.iload_n 0, 1) := by decide +kernel
theorem dJ9_floorMod_7cf53_5 : decode cJ9_floorMod_7cf53 5 = .ok (.iload_n 1, 1) := by decide +kernel
theorem dJ9_floorMod_7cf53_6 : decode cJ9_floorMod_7cf53 6 = .ok (.ixor, 1) := by decide +kernel
theorem dJ9_floorMod_7cf53_7 : decode cJ9_floorMod_7cf53 7 = .ok (.ifCond .ge 11, 3) := by decide +kernel
theorem dJ9_floorMod_7cf53_10 : decode cJ9_floorMod_7cf53 10 = .ok (.iload_n 2, 1) := by decide +kernel
theorem dJ9_floorMod_7cf53_11 : decode cJ9_floorMod_7cf53 11 = .ok (.ifCond .eq 7, 3) := by decide +kernel
theorem dJ9_floorMod_7cf53_14 : decode cJ9_floorMod_7cf53 14 = .ok (.iload_n 2, 1) := by decide +kernel
theorem dJ9_floorMod_7cf53_15 : decode cJ9_floorMod_7cf53 15 = .ok (.iload_n 1, 1) := by decide +kernel
theorem dJ9_floorMod_7cf53_16 : decode cJ9_floorMod_7cf53 16 = .ok (.iadd, 1) := by decide +kernel
theorem dJ9_floorMod_7cf53_17 : decode cJ9_floorMod_7cf53 17 = .ok (.ireturn, 1) := by decide +kernel
theorem dJ9_floorMod_7cf53_18 : decode cJ9_floorMod_7cf53 18 = .ok (.iload_n 2, 1) := by decide +kernel
theorem dJ9_floorMod_7cf53_19 : decode cJ9_floorMod_7cf53 19 = .ok (.ireturn, 1) := by decide +kernel
theorem dJ9_abs_0f7a4_0 : decode cJ9_abs_0f7a4 0 = .ok (.iload_n 0, 1) := by decide +kernel
theorem dJ9_abs_0f7a4_1 : decode cJ9_abs_0f7a4 1 = .ok (.ifCond .ge 8, 3) := by decide +kernel
theorem dJ9_abs_0f7a4_4 : decode cJ9_abs_0f7a4 4 = .ok (.iload_n 0, 1) := by decide +kernel
theorem dJ9_abs_0f7a4_5 : decode cJ9_abs_0f7a4 5 = .ok (.ineg, 1) := by decide +kernel
theorem dJ9_abs_0f7a4_6 : decode cJ9_abs_0f7a4 6 = .ok (.goto 4, 3) := by decide +kernel
theorem dJ9_abs_0f7a4_9 : decode cJ9_abs_0f7a4 9 = .ok (.iload_n 0, 1) := by decide +kernel
theorem dJ9_abs_0f7a4_10 : decode cJ9_abs_0f7a4 10 = .ok (.ireturn, 1) := by decide +kernel
theorem dJ9_max_7cf53_0 : decode cJ9_max_7cf53 0 = .ok (.iload_n 0, 1) := by decide +kernel
theorem dJ9_max_7cf53_1 : decode cJ9_max_7cf53 1 = .ok (.iload_n 1, 1) := by decide +kernel
theorem dJ9_max_7cf53_2 : decode cJ9_max_7cf53 2 = .ok (.if_icmp .lt 7, 3) := by decide +kernel
theorem dJ9_max_7cf53_5 : decode cJ9_max_7cf53 5 = .ok (.iload_n 0, 1) := by decide +kernel
theorem dJ9_max_7cf53_6 : decode cJ9_max_7cf53 6 = .ok (.goto 4, 3) := by decide +kernel
theorem dJ9_max_7cf53_9 : decode cJ9_max_7cf53 9 = .ok (.iload_n 1, 1) := by decide +kernel
theorem dJ9_max_7cf53_10 : decode cJ9_max_7cf53 10 = .ok (.ireturn, 1) := by decide +kernel
theorem dJ9_min_7cf53_0 : decode cJ9_min_7cf53 0 = .ok (.iload_n 0, 1) := by decide +kernel
theorem dJ9_min_7cf53_1 : decode cJ9_min_7cf53 1 = .ok (.iload_n 1, 1) := by decide +kernel
theorem dJ9_min_7cf53_2 : decode cJ9_min_7cf53 2 = .ok (.if_icmp .gt 7, 3) := by decide +kernel
theorem dJ9_min_7cf53_5 : decode cJ9_min_7cf53 5 = .ok (.iload_n 0, 1) := by decide +kernel
theorem dJ9_min_7cf53_6 : decode cJ9_min_7cf53 6 = .ok (.goto 4, 3) := by decide +kernel
theorem dJ9_min_7cf53_9 : decode cJ9_min_7cf53 9 = .ok (.iload_n 1, 1) := by decide +kernel
theorem dJ9_min_7cf53_10 : decode cJ9_min_7cf53 10 = .ok (.ireturn, 1) := by decide +kernel
end
section
theorem dX6_init_0 : decode cX6_init 0 = .ok (.aload_n 0, 1) := by decide +kernel
theorem dX6_init_1 : decode cX6_init 1 = .ok (.invokespecial 1, 3) := by decide +kernel
theorem dX6_init_4 : decode cX6_init 4 = .ok (.aload_n 0, 1) := by decide +kernel
theorem dX6_init_5 : decode cX6_init 5 = .ok (.bipush 8, 2) := by decide +kernel
theorem dX6_init_7 : decode cX6_init 7 = .ok (.anewarray 9, 3) := by decide +kernel
theorem dX6_init_10 : decode cX6_init 10 = .ok (.putfield 11, 3) := by decide +kernel
theorem dX6_init_13 : decode cX6_init 13 = .ok (.aload_n 0, 1) := by decide +kernel
theorem dX6_init_14 : decode cX6_init 14 = .ok (.iconst 3, 1) := by decide +kernel
theorem dX6_init_15 : decode cX6_init 15 = .ok (.anewarray 15, 3) := by decide +kernel
theorem dX6_init_18 : decode cX6_init 18 = .ok (.putfield 17, 3) := by decide +kernel
theorem dX6_init_21 : decode cX6_init 21 = .ok (.aload_n 0, 1) := by decide +kernel
theorem dX6_init_22 : decode cX6_init 22 = .ok (.iconst 3, 1) := by decide +kernel
theorem dX6_init_23 : decode cX6_init 23 = .ok (.anewarray 21, 3) := by decide +kernel
theorem dX6_init_26 : decode cX6_init 26 = .ok (.putfield 23, 3) := by decide +kernel
theorem dX6_init_29 : decode cX6_init 29 = .ok (.aload_n 0, 1) := by decide +kernel
theorem dX6_init_30 : decode cX6_init 30 = .ok (.new 27, 3) := by decide +kernel
theorem dX6_init_33 : decode cX6_init 33 = .ok (.dup, 1) := by decide +kernel
theorem dX6_init_34 : decode cX6_init 34 = .ok (.invokespecial 29, 3) := by decide +kernel
theorem dX6_init_37 : decode cX6_init 37 = .ok (.putfield 30, 3) := by decide +kernel
theorem dX6_init_40 : decode cX6_init 40 = .ok (.return_, 1) := by decide +kernel
theorem dX6_star_0 : decode cX6_star 0 = .ok (.iload_n 1, 1) := by decide +kernel
theorem dX6_star_1 : decode cX6_star 1 = .ok (.bipush 60, 2) := by decide +kernel
theorem dX6_star_3 : decode cX6_star 3 = .ok (.sipush 200, 3) := by decide +kernel
theorem dX6_star_6 : decode cX6_star 6 = .ok (.invokestatic 34, 3) := by decide +kernel
theorem dX6_star_9 : decode cX6_star 9 = .ok (.ifCond .ne 23, 3) := by decide +kernel
theorem dX6_star_12 : decode cX6_star 12 = .ok (.iload_n 2, 1) := by decide +kernel
theorem dX6_star_13 : decode cX6_star 13 = .ok (.iconst 0, 1) := by decide +kernel
theorem dX6_star_14 : decode cX6_star 14 = .ok (.bipush 47, 2) := by decide +kernel
theorem dX6_star_16 : decode cX6_star 16 = .ok (.invokestatic 34, 3) := by decide +kernel
theorem dX6_star_19 : decode cX6_star 19 = .ok (.ifCond .ne 13, 3) := by decide +kernel
theorem dX6_star_22 : decode cX6_star 22 = .ok (.iload_n 3, 1) := by decide +kernel
theorem dX6_star_23 : decode cX6_star 23 = .ok (.bipush (-3), 2) := by decide +kernel
theorem dX6_star_25 : decode cX6_star 25 = .ok (.iconst 3, 1) := by decide +kernel
theorem dX6_star_26 : decode cX6_star 26 = .ok (.invokestatic 34, 3) := by decide +kernel
theorem dX6_star_29 : decode cX6_star 29 = .ok (.ifCond .eq 13, 3) := by decide +kernel
theorem dX6_star_32 : decode cX6_star 32 = .ok (.new 38, 3) := by decide +kernel
theorem dX6_star_35 : decode cX6_star 35 = .ok (.dup, 1) := by decide +kernel
theorem dX6_star_36 : decode cX6_star 36 = .ok (.ldc 40, 2) := by decide +kernel
theorem dX6_star_38 : decode cX6_star 38 = .ok (.invokespecial 42, 3) := by decide +kernel
theorem dX6_star_41 : decode cX6_star 41 = .ok (.athrow, 1) := by decide +kernel
theorem dX6_star_42 : decode cX6_star 42 = .ok (.iload 4, 2) := by decide +kernel
theorem dX6_star_44 : decode cX6_star 44 = .ok (.sipush (-500), 3) := by decide +kernel
theorem dX6_star_47 : decode cX6_star 47 = .ok (.sipush 500, 3) := by decide +kernel
theorem dX6_star_50 : decode cX6_star 50 = .ok (.invokestatic 34, 3) := by decide +kernel
theorem dX6_star_53 : decode cX6_star 53 = .ok (.ifCond .ne 14, 3) := by decide +kernel
theorem dX6_star_56 : decode cX6_star 56 = .ok (.iload 5, 2) := by decide +kernel
theorem dX6_star_58 : decode cX6_star 58 = .ok (.bipush (-3), 2) := by decide +kernel
theorem dX6_star_60 : decode cX6_star 60 = .ok (.iconst 3, 1) := by decide +kernel
theorem dX6_star_61 : decode cX6_star 61 = .ok (.invokestatic 34, 3) := by decide +kernel
theorem dX6_star_64 : decode cX6_star 64 = .ok (.ifCond .eq 13, 3) := by decide +kernel
theorem dX6_star_67 : decode cX6_star 67 = .ok (.new 38, 3) := by decide +kernel
theorem dX6_star_70 : decode cX6_star 70 = .ok (.dup, 1) := by decide +kernel
theorem dX6_star_71 : decode cX6_star 71 = .ok (.ldc 45, 2) := by decide +kernel
theorem dX6_star_73 : decode cX6_star 73 = .ok (.invokespecial 42, 3) := by decide +kernel
theorem dX6_star_76 : decode cX6_star 76 = .ok (.athrow, 1) := by decide +kernel
theorem dX6_star_77 : decode cX6_star 77 = .ok (.aload_n 0, 1) := by decide +kernel
theorem dX6_star_78 : decode cX6_star 78 = .ok (.getfield 47, 3) := by decide +kernel
theorem dX6_star_81 : decode cX6_star 81 = .ok (.bipush 8, 2) := by decide +kernel
theorem dX6_star_83 : decode cX6_star 83 = .ok (.if_icmp .lt 13, 3) := by decide +kernel
theorem dX6_star_86 : decode cX6_star 86 = .ok (.new 51, 3) := by decide +kernel
theorem dX6_star_89 : decode cX6_star 89 = .ok (.dup, 1) := by decide +kernel
theorem dX6_star_90 : decode cX6_star 90 = .ok (.ldc 53, 2) := by decide +kernel
theorem dX6_star_92 : decode cX6_star 92 = .ok (.invokespecial 55, 3) := by decide +kernel
theorem dX6_star_95 : decode cX6_star 95 = .ok (.athrow, 1) := by decide +kernel
theorem dX6_star_96 : decode cX6_star 96 = .ok (.aload_n 0, 1) := by decide +kernel
theorem dX6_star_97 : decode cX6_star 97 = .ok (.getfield 11, 3) := by decide +kernel
theorem dX6_star_100 : decode cX6_star 100 = .ok (.aload_n 0, 1) := by decide +kernel
theorem dX6_star_101 : decode cX6_star 101 = .ok (.getfield 47, 3) := by decide +kernel
theorem dX6_star_104 : decode cX6_star 104 = .ok (.new 9, 3) := by decide +kernel
theorem dX6_star_107 : decode cX6_star 107 = .ok (.dup, 1) := by decide +kernel
theorem dX6_star_108 : decode cX6_star 108 = .ok (.iload_n 1, 1) := by decide +kernel
theorem dX6_star_109 : decode cX6_star 109 = .ok (.iload_n 2, 1) := by decide +kernel
theorem dX6_star_110 : decode cX6_star 110 = .ok (.iload_n 3, 1) := by decide +kernel
theorem dX6_star_111 : decode cX6_star 111 = .ok (.iload 4, 2) := by decide +kernel
theorem dX6_star_113 : decode cX6_star 113 = .ok (.iload 5, 2) := by decide +kernel
theorem dX6_star_115 : decode cX6_star 115 = .ok (.invokespecial 56, 3) := by decide +kernel
theorem dX6_star_118 : decode cX6_star 118 = .ok (.aastore, 1) := by decide +kernel
theorem dX6_star_119 : decode cX6_star 119 = .ok (.aload_n 0, 1) := by decide +kernel
theorem dX6_star_120 : decode cX6_star 120 = .ok (.dup, 1) := by decide +kernel
theorem dX6_star_121 : decode cX6_star 121 = .ok (.getfield 47, 3) := by decide +kernel
theorem dX6_star_124 : decode cX6_star 124 = .ok (.iconst 1, 1) := by decide +kernel
theorem dX6_star_125 : decode cX6_star 125 = .ok (.iadd, 1) := by decide +kernel
theorem dX6_star_126 : decode cX6_star 126 = .ok (.putfield 47, 3) := by decide +kernel
theorem dX6_star_129 : decode cX6_star 129 = .ok (.aload_n 0, 1) := by decide +kernel
theorem dX6_star_130 : decode cX6_star 130 = .ok (.getfield 47, 3) := by decide +kernel
theorem dX6_star_133 : decode cX6_star 133 = .ok (.iconst 1, 1) := by decide +kernel
theorem dX6_star_134 : decode cX6_star 134 = .ok (.isub, 1) := by decide +kernel
theorem dX6_star_135 : decode cX6_star 135 = .ok (.ireturn, 1) := by decide +kernel
theorem dX6_push_0 : decode cX6_push 0 = .ok (.aload_n 0, 1) := by decide +kernel
theorem dX6_push_1 : decode cX6_push 1 = .ok (.iload_n 1, 1) := by decide +kernel
theorem dX6_push_2 : decode cX6_push 2 = .ok (.invokevirtual 59, 3) := by decide +kernel
theorem dX6_push_5 : decode cX6_push 5 = .ok (.ifCond .eq 13, 3) := by decide +kernel
theorem dX6_push_8 : decode cX6_push 8 = .ok (.new 63, 3) := by decide +kernel
theorem dX6_push_11 : decode cX6_push 11 = .ok (.dup, 1) := by decide +kernel
theorem dX6_push_12 : decode cX6_push 12 = .ok (.ldc 65, 2) := by decide +kernel
theorem dX6_push_14 : decode cX6_push 14 = .ok (.invokespecial 67, 3) := by decide +kernel
theorem dX6_push_17 : decode cX6_push 17 = .ok (.athrow, 1) := by decide +kernel
theorem dX6_push_18 : decode cX6_push 18 = .ok (.iload_n 2, 1) := by decide +kernel
theorem dX6_push_19 : decode cX6_push 19 = .ok (.bipush (-5), 2) := by decide +kernel
theorem dX6_push_21 : decode cX6_push 21 = .ok (.iconst 5, 1) := by decide +kernel
theorem dX6_push_22 : decode cX6_push 22 = .ok (.invokestatic 34, 3) := by decide +kernel
theorem dX6_push_25 : decode cX6_push 25 = .ok (.ifCond .eq 13, 3) := by decide +kernel
theorem dX6_push_28 : decode cX6_push 28 = .ok (.new 38, 3) := by decide +kernel
theorem dX6_push_31 : decode cX6_push 31 = .ok (.dup, 1) := by decide +kernel
theorem dX6_push_32 : decode cX6_push 32 = .ok (.ldc 68, 2) := by decide +kernel
theorem dX6_push_34 : decode cX6_push 34 = .ok (.invokespecial 42, 3) := by decide +kernel
theorem dX6_push_37 : decode cX6_push 37 = .ok (.athrow, 1) := by decide +kernel
theorem dX6_push_38 : decode cX6_push 38 = .ok (.aload_n 0, 1) := by decide +kernel
theorem dX6_push_39 : decode cX6_push 39 = .ok (.getfield 11, 3) := by decide +kernel
theorem dX6_push_42 : decode cX6_push 42 = .ok (.iload_n 1, 1) := by decide +kernel
theorem dX6_push_43 : decode cX6_push 43 = .ok (.aaload, 1) := by decide +kernel
theorem dX6_push_44 : decode cX6_push 44 = .ok (.astore_n 3, 1) := by decide +kernel
theorem dX6_push_45 : decode cX6_push 45 = .ok (.aload_n 3, 1) := by decide +kernel
theorem dX6_push_46 : decode cX6_push 46 = .ok (.aload_n 3, 1) := by decide +kernel
theorem dX6_push_47 : decode cX6_push 47 = .ok (.getfield 70, 3) := by decide +kernel
theorem dX6_push_50 : decode cX6_push 50 = .ok (.iload_n 2, 1) := by decide +kernel
theorem dX6_push_51 : decode cX6_push 51 = .ok (.iadd, 1) := by decide +kernel
theorem dX6_push_52 : decode cX6_push 52 = .ok (.bipush 48, 2) := by decide +kernel
theorem dX6_push_54 : decode cX6_push 54 = .ok (.invokestatic 73, 3) := by decide +kernel
theorem dX6_push_57 : decode cX6_push 57 = .ok (.putfield 70, 3) := by decide +kernel
theorem dX6_push_60 : decode cX6_push 60 = .ok (.aload_n 3, 1) := by decide +kernel
theorem dX6_push_61 : decode cX6_push 61 = .ok (.getfield 70, 3) := by decide +kernel
theorem dX6_push_64 : decode cX6_push 64 = .ok (.ireturn, 1) := by decide +kernel
theorem dX6_jump_0 : decode cX6_jump 0 = .ok (.aload_n 0, 1) := by decide +kernel
theorem dX6_jump_1 : decode cX6_jump 1 = .ok (.iload_n 1, 1) := by decide +kernel
theorem dX6_jump_2 : decode cX6_jump 2 = .ok (.invokevirtual 59, 3) := by decide +kernel
theorem dX6_jump_5 : decode cX6_jump 5 = .ok (.ifCond .eq 13, 3) := by decide +kernel
theorem dX6_jump_8 : decode cX6_jump 8 = .ok (.new 63, 3) := by decide +kernel
theorem dX6_jump_11 : decode cX6_jump 11 = .ok (.dup, 1) := by decide +kernel
theorem dX6_jump_12 : decode cX6_jump 12 = .ok (.ldc 65, 2) := by decide +kernel
theorem dX6_jump_14 : decode cX6_jump 14 = .ok (.invokespecial 67, 3) := by decide +kernel
theorem dX6_jump_17 : decode cX6_jump 17 = .ok (.athrow, 1) := by decide +kernel
theorem dX6_jump_18 : decode cX6_jump 18 = .ok (.iload_n 2, 1) := by decide +kernel
theorem dX6_jump_19 : decode cX6_jump 19 = .ok (.bipush (-99), 2) := by decide +kernel
theorem dX6_jump_21 : decode cX6_jump 21 = .ok (.bipush 99, 2) := by decide +kernel
theorem dX6_jump_23 : decode cX6_jump 23 = .ok (.invokestatic 34, 3) := by decide +kernel
theorem dX6_jump_26 : decode cX6_jump 26 = .ok (.ifCond .ne 13, 3) := by decide +kernel
theorem dX6_jump_29 : decode cX6_jump 29 = .ok (.iload_n 3, 1) := by decide +kernel
theorem dX6_jump_30 : decode cX6_jump 30 = .ok (.bipush (-3), 2) := by decide +kernel
theorem dX6_jump_32 : decode cX6_jump 32 = .ok (.iconst 3, 1) := by decide +kernel
theorem dX6_jump_33 : decode cX6_jump 33 = .ok (.invokestatic 34, 3) := by decide +kernel
theorem dX6_jump_36 : decode cX6_jump 36 = .ok (.ifCond .eq 13, 3) := by decide +kernel
theorem dX6_jump_39 : decode cX6_jump 39 = .ok (.new 38, 3) := by decide +kernel
theorem dX6_jump_42 : decode cX6_jump 42 = .ok (.dup, 1) := by decide +kernel
theorem dX6_jump_43 : decode cX6_jump 43 = .ok (.ldc 45, 2) := by decide +kernel
theorem dX6_jump_45 : decode cX6_jump 45 = .ok (.invokespecial 42, 3) := by decide +kernel
theorem dX6_jump_48 : decode cX6_jump 48 = .ok (.athrow, 1) := by decide +kernel
theorem dX6_jump_49 : decode cX6_jump 49 = .ok (.aload_n 0, 1) := by decide +kernel
theorem dX6_jump_50 : decode cX6_jump 50 = .ok (.getfield 11, 3) := by decide +kernel
theorem dX6_jump_53 : decode cX6_jump 53 = .ok (.iload_n 1, 1) := by decide +kernel
theorem dX6_jump_54 : decode cX6_jump 54 = .ok (.aaload, 1) := by decide +kernel
theorem dX6_jump_55 : decode cX6_jump 55 = .ok (.astore 4, 2) := by decide +kernel
theorem dX6_jump_57 : decode cX6_jump 57 = .ok (.aload 4, 2) := by decide +kernel
theorem dX6_jump_59 : decode cX6_jump 59 = .ok (.iload_n 2, 1) := by decide +kernel
theorem dX6_jump_60 : decode cX6_jump 60 = .ok (.invokevirtual 79, 3) := by decide +kernel
theorem dX6_jump_63 : decode cX6_jump 63 = .ok (.aload 4, 2) := by decide +kernel
theorem dX6_jump_65 : decode cX6_jump 65 = .ok (.iload_n 3, 1) := by decide +kernel
theorem dX6_jump_66 : decode cX6_jump 66 = .ok (.putfield 83, 3) := by decide +kernel
theorem dX6_jump_69 : decode cX6_jump 69 = .ok (.aload 4, 2) := by decide +kernel
theorem dX6_jump_71 : decode cX6_jump 71 = .ok (.getfield 86, 3) := by decide +kernel
theorem dX6_jump_74 : decode cX6_jump 74 = .ok (.ireturn, 1) := by decide +kernel
theorem dX6_health_0 : decode cX6_health 0 = .ok (.aload_n 0, 1) := by decide +kernel
theorem dX6_health_1 : decode cX6_health 1 = .ok (.iload_n 1, 1) := by decide +kernel
theorem dX6_health_2 : decode cX6_health 2 = .ok (.invokevirtual 59, 3) := by decide +kernel
theorem dX6_health_5 : decode cX6_health 5 = .ok (.ifCond .eq 13, 3) := by decide +kernel
theorem dX6_health_8 : decode cX6_health 8 = .ok (.new 63, 3) := by decide +kernel
theorem dX6_health_11 : decode cX6_health 11 = .ok (.dup, 1) := by decide +kernel
theorem dX6_health_12 : decode cX6_health 12 = .ok (.ldc 65, 2) := by decide +kernel
theorem dX6_health_14 : decode cX6_health 14 = .ok (.invokespecial 67, 3) := by decide +kernel
theorem dX6_health_17 : decode cX6_health 17 = .ok (.athrow, 1) := by decide +kernel
theorem dX6_health_18 : decode cX6_health 18 = .ok (.aload_n 0, 1) := by decide +kernel
theorem dX6_health_19 : decode cX6_health 19 = .ok (.getfield 11, 3) := by decide +kernel
theorem dX6_health_22 : decode cX6_health 22 = .ok (.iload_n 1, 1) := by decide +kernel
theorem dX6_health_23 : decode cX6_health 23 = .ok (.aaload, 1) := by decide +kernel
theorem dX6_health_24 : decode cX6_health 24 = .ok (.getfield 89, 3) := by decide +kernel
theorem dX6_health_27 : decode cX6_health 27 = .ok (.istore_n 3, 1) := by decide +kernel
theorem dX6_health_28 : decode cX6_health 28 = .ok (.aload_n 0, 1) := by decide +kernel
theorem dX6_health_29 : decode cX6_health 29 = .ok (.getfield 11, 3) := by decide +kernel
theorem dX6_health_32 : decode cX6_health 32 = .ok (.iload_n 1, 1) := by decide +kernel
theorem dX6_health_33 : decode cX6_health 33 = .ok (.aaload, 1) := by decide +kernel
theorem dX6_health_34 : decode cX6_health 34 = .ok (.iload_n 2, 1) := by decide +kernel
theorem dX6_health_35 : decode cX6_health 35 = .ok (.putfield 89, 3) := by decide +kernel
theorem dX6_health_38 : decode cX6_health 38 = .ok (.iload_n 3, 1) := by decide +kernel
theorem dX6_health_39 : decode cX6_health 39 = .ok (.ireturn, 1) := by decide +kernel
theorem dX6_station_0 : decode cX6_station 0 = .ok (.iload_n 1, 1) := by decide +kernel
theorem dX6_station_1 : decode cX6_station 1 = .ok (.bipush (-50), 2) := by decide +kernel
theorem dX6_station_3 : decode cX6_station 3 = .ok (.bipush 50, 2) := by decide +kernel
theorem dX6_station_5 : decode cX6_station 5 = .ok (.invokestatic 34, 3) := by decide +kernel
theorem dX6_station_8 : decode cX6_station 8 = .ok (.ifCond .ne 13, 3) := by decide +kernel
theorem dX6_station_11 : decode cX6_station 11 = .ok (.iload_n 2, 1) := by decide +kernel
theorem dX6_station_12 : decode cX6_station 12 = .ok (.iconst 0, 1) := by decide +kernel
theorem dX6_station_13 : decode cX6_station 13 = .ok (.bipush 9, 2) := by decide +kernel
theorem dX6_station_15 : decode cX6_station 15 = .ok (.invokestatic 34, 3) := by decide +kernel
theorem dX6_station_18 : decode cX6_station 18 = .ok (.ifCond .eq 13, 3) := by decide +kernel
theorem dX6_station_21 : decode cX6_station 21 = .ok (.new 38, 3) := by decide +kernel
theorem dX6_station_24 : decode cX6_station 24 = .ok (.dup, 1) := by decide +kernel
theorem dX6_station_25 : decode cX6_station 25 = .ok (.ldc 93, 2) := by decide +kernel
theorem dX6_station_27 : decode cX6_station 27 = .ok (.invokespecial 42, 3) := by decide +kernel
theorem dX6_station_30 : decode cX6_station 30 = .ok (.athrow, 1) := by decide +kernel
theorem dX6_station_31 : decode cX6_station 31 = .ok (.aload_n 0, 1) := by decide +kernel
theorem dX6_station_32 : decode cX6_station 32 = .ok (.getfield 95, 3) := by decide +kernel
theorem dX6_station_35 : decode cX6_station 35 = .ok (.iconst 3, 1) := by decide +kernel
theorem dX6_station_36 : decode cX6_station 36 = .ok (.if_icmp .lt 13, 3) := by decide +kernel
theorem dX6_station_39 : decode cX6_station 39 = .ok (.new 51, 3) := by decide +kernel
theorem dX6_station_42 : decode cX6_station 42 = .ok (.dup, 1) := by decide +kernel
theorem dX6_station_43 : decode cX6_station 43 = .ok (.ldc 98, 2) := by decide +kernel
theorem dX6_station_45 : decode cX6_station 45 = .ok (.invokespecial 55, 3) := by decide +kernel
theorem dX6_station_48 : decode cX6_station 48 = .ok (.athrow, 1) := by decide +kernel
theorem dX6_station_49 : decode cX6_station 49 = .ok (.aload_n 0, 1) := by decide +kernel
theorem dX6_station_50 : decode cX6_station 50 = .ok (.getfield 17, 3) := by decide +kernel
theorem dX6_station_53 : decode cX6_station 53 = .ok (.aload_n 0, 1) := by decide +kernel
theorem dX6_station_54 : decode cX6_station 54 = .ok (.getfield 95, 3) := by decide +kernel
theorem dX6_station_57 : decode cX6_station 57 = .ok (.new 15, 3) := by decide +kernel
theorem dX6_station_60 : decode cX6_station 60 = .ok (.dup, 1) := by decide +kernel
theorem dX6_station_61 : decode cX6_station 61 = .ok (.iload_n 1, 1) := by decide +kernel
theorem dX6_station_62 : decode cX6_station 62 = .ok (.iload_n 2, 1) := by decide +kernel
theorem dX6_station_63 : decode cX6_station 63 = .ok (.invokespecial 100, 3) := by decide +kernel
theorem dX6_station_66 : decode cX6_station 66 = .ok (.aastore, 1) := by decide +kernel
theorem dX6_station_67 : decode cX6_station 67 = .ok (.aload_n 0, 1) := by decide +kernel
theorem dX6_station_68 : decode cX6_station 68 = .ok (.dup, 1) := by decide +kernel
theorem dX6_station_69 : decode cX6_station 69 = .ok (.getfield 95, 3) := by decide +kernel
theorem dX6_station_72 : decode cX6_station 72 = .ok (.iconst 1, 1) := by decide +kernel
theorem dX6_station_73 : decode cX6_station 73 = .ok (.iadd, 1) := by decide +kernel
theorem dX6_station_74 : decode cX6_station 74 = .ok (.putfield 95, 3) := by decide +kernel
theorem dX6_station_77 : decode cX6_station 77 = .ok (.aload_n 0, 1) := by decide +kernel
theorem dX6_station_78 : decode cX6_station 78 = .ok (.getfield 95, 3) := by decide +kernel
theorem dX6_station_81 : decode cX6_station 81 = .ok (.iconst 1, 1) := by decide +kernel
theorem dX6_station_82 : decode cX6_station 82 = .ok (.isub, 1) := by decide +kernel
theorem dX6_station_83 : decode cX6_station 83 = .ok (.ireturn, 1) := by decide +kernel
theorem dX6_listen_0 : decode cX6_listen 0 = .ok (.aload_n 0, 1) := by decide +kernel
theorem dX6_listen_1 : decode cX6_listen 1 = .ok (.iload_n 1, 1) := by decide +kernel
theorem dX6_listen_2 : decode cX6_listen 2 = .ok (.invokevirtual 103, 3) := by decide +kernel
theorem dX6_listen_5 : decode cX6_listen 5 = .ok (.ifCond .ne 11, 3) := by decide +kernel
theorem dX6_listen_8 : decode cX6_listen 8 = .ok (.aload_n 0, 1) := by decide +kernel
theorem dX6_listen_9 : decode cX6_listen 9 = .ok (.iload_n 2, 1) := by decide +kernel
theorem dX6_listen_10 : decode cX6_listen 10 = .ok (.invokevirtual 59, 3) := by decide +kernel
theorem dX6_listen_13 : decode cX6_listen 13 = .ok (.ifCond .eq 13, 3) := by decide +kernel
theorem dX6_listen_16 : decode cX6_listen 16 = .ok (.new 63, 3) := by decide +kernel
theorem dX6_listen_19 : decode cX6_listen 19 = .ok (.dup, 1) := by decide +kernel
theorem dX6_listen_20 : decode cX6_listen 20 = .ok (.ldc 106, 2) := by decide +kernel
theorem dX6_listen_22 : decode cX6_listen 22 = .ok (.invokespecial 67, 3) := by decide +kernel
theorem dX6_listen_25 : decode cX6_listen 25 = .ok (.athrow, 1) := by decide +kernel
theorem dX6_listen_26 : decode cX6_listen 26 = .ok (.aload_n 0, 1) := by decide +kernel
theorem dX6_listen_27 : decode cX6_listen 27 = .ok (.getfield 11, 3) := by decide +kernel
theorem dX6_listen_30 : decode cX6_listen 30 = .ok (.iload_n 2, 1) := by decide +kernel
theorem dX6_listen_31 : decode cX6_listen 31 = .ok (.aaload, 1) := by decide +kernel
theorem dX6_listen_32 : decode cX6_listen 32 = .ok (.astore_n 3, 1) := by decide +kernel
theorem dX6_listen_33 : decode cX6_listen 33 = .ok (.aload_n 0, 1) := by decide +kernel
theorem dX6_listen_34 : decode cX6_listen 34 = .ok (.getfield 17, 3) := by decide +kernel
theorem dX6_listen_37 : decode cX6_listen 37 = .ok (.iload_n 1, 1) := by decide +kernel
theorem dX6_listen_38 : decode cX6_listen 38 = .ok (.aaload, 1) := by decide +kernel
theorem dX6_listen_39 : decode cX6_listen 39 = .ok (.astore 4, 2) := by decide +kernel
theorem dX6_listen_41 : decode cX6_listen 41 = .ok (.aload 4, 2) := by decide +kernel
theorem dX6_listen_43 : decode cX6_listen 43 = .ok (.aload_n 3, 1) := by decide +kernel
theorem dX6_listen_44 : decode cX6_listen 44 = .ok (.iconst 0, 1) := by decide +kernel
theorem dX6_listen_45 : decode cX6_listen 45 = .ok (.invokevirtual 108, 3) := by decide +kernel
theorem dX6_listen_48 : decode cX6_listen 48 = .ok (.ifCond .ne 13, 3) := by decide +kernel
theorem dX6_listen_51 : decode cX6_listen 51 = .ok (.new 51, 3) := by decide +kernel
theorem dX6_listen_54 : decode cX6_listen 54 = .ok (.dup, 1) := by decide +kernel
theorem dX6_listen_55 : decode cX6_listen 55 = .ok (.ldc 112, 2) := by decide +kernel
theorem dX6_listen_57 : decode cX6_listen 57 = .ok (.invokespecial 55, 3) := by decide +kernel
theorem dX6_listen_60 : decode cX6_listen 60 = .ok (.athrow, 1) := by decide +kernel
theorem dX6_listen_61 : decode cX6_listen 61 = .ok (.aload_n 3, 1) := by decide +kernel
theorem dX6_listen_62 : decode cX6_listen 62 = .ok (.aload_n 0, 1) := by decide +kernel
theorem dX6_listen_63 : decode cX6_listen 63 = .ok (.getfield 114, 3) := by decide +kernel
theorem dX6_listen_66 : decode cX6_listen 66 = .ok (.aload 4, 2) := by decide +kernel
theorem dX6_listen_68 : decode cX6_listen 68 = .ok (.getfield 117, 3) := by decide +kernel
theorem dX6_listen_71 : decode cX6_listen 71 = .ok (.invokevirtual 120, 3) := by decide +kernel
theorem dX6_listen_74 : decode cX6_listen 74 = .ok (.aload_n 3, 1) := by decide +kernel
theorem dX6_listen_75 : decode cX6_listen 75 = .ok (.getfield 123, 3) := by decide +kernel
theorem dX6_listen_78 : decode cX6_listen 78 = .ok (.ireturn, 1) := by decide +kernel
theorem dX6_receiver_0 : decode cX6_receiver 0 = .ok (.iload_n 1, 1) := by decide +kernel
theorem dX6_receiver_1 : decode cX6_receiver 1 = .ok (.iload_n 2, 1) := by decide +kernel
theorem dX6_receiver_2 : decode cX6_receiver 2 = .ok (.invokestatic 126, 3) := by decide +kernel
theorem dX6_receiver_5 : decode cX6_receiver 5 = .ok (.ifCond .ne 14, 3) := by decide +kernel
theorem dX6_receiver_8 : decode cX6_receiver 8 = .ok (.iload_n 3, 1) := by decide +kernel
theorem dX6_receiver_9 : decode cX6_receiver 9 = .ok (.bipush (-99), 2) := by decide +kernel
theorem dX6_receiver_11 : decode cX6_receiver 11 = .ok (.bipush 99, 2) := by decide +kernel
theorem dX6_receiver_13 : decode cX6_receiver 13 = .ok (.invokestatic 34, 3) := by decide +kernel
theorem dX6_receiver_16 : decode cX6_receiver 16 = .ok (.ifCond .eq 13, 3) := by decide +kernel
theorem dX6_receiver_19 : decode cX6_receiver 19 = .ok (.new 38, 3) := by decide +kernel
theorem dX6_receiver_22 : decode cX6_receiver 22 = .ok (.dup, 1) := by decide +kernel
theorem dX6_receiver_23 : decode cX6_receiver 23 = .ok (.ldc 130, 2) := by decide +kernel
theorem dX6_receiver_25 : decode cX6_receiver 25 = .ok (.invokespecial 42, 3) := by decide +kernel
theorem dX6_receiver_28 : decode cX6_receiver 28 = .ok (.athrow, 1) := by decide +kernel
theorem dX6_receiver_29 : decode cX6_receiver 29 = .ok (.aload_n 0, 1) := by decide +kernel
theorem dX6_receiver_30 : decode cX6_receiver 30 = .ok (.getfield 132, 3) := by decide +kernel
theorem dX6_receiver_33 : decode cX6_receiver 33 = .ok (.iconst 3, 1) := by decide +kernel
theorem dX6_receiver_34 : decode cX6_receiver 34 = .ok (.if_icmp .lt 13, 3) := by decide +kernel
theorem dX6_receiver_37 : decode cX6_receiver 37 = .ok (.new 51, 3) := by decide +kernel
theorem dX6_receiver_40 : decode cX6_receiver 40 = .ok (.dup, 1) := by decide +kernel
theorem dX6_receiver_41 : decode cX6_receiver 41 = .ok (.ldc 135, 2) := by decide +kernel
theorem dX6_receiver_43 : decode cX6_receiver 43 = .ok (.invokespecial 55, 3) := by decide +kernel
theorem dX6_receiver_46 : decode cX6_receiver 46 = .ok (.athrow, 1) := by decide +kernel
theorem dX6_receiver_47 : decode cX6_receiver 47 = .ok (.aload_n 0, 1) := by decide +kernel
theorem dX6_receiver_48 : decode cX6_receiver 48 = .ok (.getfield 23, 3) := by decide +kernel
theorem dX6_receiver_51 : decode cX6_receiver 51 = .ok (.aload_n 0, 1) := by decide +kernel
theorem dX6_receiver_52 : decode cX6_receiver 52 = .ok (.getfield 132, 3) := by decide +kernel
theorem dX6_receiver_55 : decode cX6_receiver 55 = .ok (.new 21, 3) := by decide +kernel
theorem dX6_receiver_58 : decode cX6_receiver 58 = .ok (.dup, 1) := by decide +kernel
theorem dX6_receiver_59 : decode cX6_receiver 59 = .ok (.aload_n 0, 1) := by decide +kernel
theorem dX6_receiver_60 : decode cX6_receiver 60 = .ok (.getfield 132, 3) := by decide +kernel
theorem dX6_receiver_63 : decode cX6_receiver 63 = .ok (.iload_n 1, 1) := by decide +kernel
theorem dX6_receiver_64 : decode cX6_receiver 64 = .ok (.iload_n 2, 1) := by decide +kernel
theorem dX6_receiver_65 : decode cX6_receiver 65 = .ok (.iload_n 3, 1) := by decide +kernel
theorem dX6_receiver_66 : decode cX6_receiver 66 = .ok (.invokespecial 137, 3) := by decide +kernel
theorem dX6_receiver_69 : decode cX6_receiver 69 = .ok (.aastore, 1) := by decide +kernel
theorem dX6_receiver_70 : decode cX6_receiver 70 = .ok (.aload_n 0, 1) := by decide +kernel
theorem dX6_receiver_71 : decode cX6_receiver 71 = .ok (.dup, 1) := by decide +kernel
theorem dX6_receiver_72 : decode cX6_receiver 72 = .ok (.getfield 132, 3) := by decide +kernel
theorem dX6_receiver_75 : decode cX6_receiver 75 = .ok (.iconst 1, 1) := by decide +kernel
theorem dX6_receiver_76 : decode cX6_receiver 76 = .ok (.iadd, 1) := by decide +kernel
theorem dX6_receiver_77 : decode cX6_receiver 77 = .ok (.putfield 132, 3) := by decide +kernel
theorem dX6_receiver_80 : decode cX6_receiver 80 = .ok (.aload_n 0, 1) := by decide +kernel
theorem dX6_receiver_81 : decode cX6_receiver 81 = .ok (.getfield 132, 3) := by decide +kernel
theorem dX6_receiver_84 : decode cX6_receiver 84 = .ok (.iconst 1, 1) := by decide +kernel
theorem dX6_receiver_85 : decode cX6_receiver 85 = .ok (.isub, 1) := by decide +kernel
theorem dX6_receiver_86 : decode cX6_receiver 86 = .ok (.ireturn, 1) := by decide +kernel
theorem dX6_go_0 : decode cX6_go 0 = .ok (.aload_n 0, 1) := by decide +kernel
theorem dX6_go_1 : decode cX6_go 1 = .ok (.iload_n 1, 1) := by decide +kernel
theorem dX6_go_2 : decode cX6_go 2 = .ok (.invokevirtual 140, 3) := by decide +kernel
theorem dX6_go_5 : decode cX6_go 5 = .ok (.ifCond .eq 13, 3) := by decide +kernel
theorem dX6_go_8 : decode cX6_go 8 = .ok (.new 63, 3) := by decide +kernel
theorem dX6_go_11 : decode cX6_go 11 = .ok (.dup, 1) := by decide +kernel
theorem dX6_go_12 : decode cX6_go 12 = .ok (.ldc 143, 2) := by decide +kernel
theorem dX6_go_14 : decode cX6_go 14 = .ok (.invokespecial 67, 3) := by decide +kernel
theorem dX6_go_17 : decode cX6_go 17 = .ok (.athrow, 1) := by decide +kernel
theorem dX6_go_18 : decode cX6_go 18 = .ok (.iload_n 2, 1) := by decide +kernel
theorem dX6_go_19 : decode cX6_go 19 = .ok (.iload_n 3, 1) := by decide +kernel
theorem dX6_go_20 : decode cX6_go 20 = .ok (.invokestatic 126, 3) := by decide +kernel
theorem dX6_go_23 : decode cX6_go 23 = .ok (.ifCond .eq 13, 3) := by decide +kernel
theorem dX6_go_26 : decode cX6_go 26 = .ok (.new 38, 3) := by decide +kernel
theorem dX6_go_29 : decode cX6_go 29 = .ok (.dup, 1) := by decide +kernel
theorem dX6_go_30 : decode cX6_go 30 = .ok (.ldc 145, 2) := by decide +kernel
theorem dX6_go_32 : decode cX6_go 32 = .ok (.invokespecial 42, 3) := by decide +kernel
theorem dX6_go_35 : decode cX6_go 35 = .ok (.athrow, 1) := by decide +kernel
theorem dX6_go_36 : decode cX6_go 36 = .ok (.aload_n 0, 1) := by decide +kernel
theorem dX6_go_37 : decode cX6_go 37 = .ok (.getfield 23, 3) := by decide +kernel
theorem dX6_go_40 : decode cX6_go 40 = .ok (.iload_n 1, 1) := by decide +kernel
theorem dX6_go_41 : decode cX6_go 41 = .ok (.aaload, 1) := by decide +kernel
theorem dX6_go_42 : decode cX6_go 42 = .ok (.astore 4, 2) := by decide +kernel
theorem dX6_go_44 : decode cX6_go 44 = .ok (.aload 4, 2) := by decide +kernel
theorem dX6_go_46 : decode cX6_go 46 = .ok (.getfield 147, 3) := by decide +kernel
theorem dX6_go_49 : decode cX6_go 49 = .ok (.aload 4, 2) := by decide +kernel
theorem dX6_go_51 : decode cX6_go 51 = .ok (.getfield 150, 3) := by decide +kernel
theorem dX6_go_54 : decode cX6_go 54 = .ok (.iload_n 2, 1) := by decide +kernel
theorem dX6_go_55 : decode cX6_go 55 = .ok (.iload_n 3, 1) := by decide +kernel
theorem dX6_go_56 : decode cX6_go 56 = .ok (.invokestatic 153, 3) := by decide +kernel
theorem dX6_go_59 : decode cX6_go 59 = .ok (.istore 5, 2) := by decide +kernel
theorem dX6_go_61 : decode cX6_go 61 = .ok (.aload 4, 2) := by decide +kernel
theorem dX6_go_63 : decode cX6_go 63 = .ok (.iload_n 2, 1) := by decide +kernel
theorem dX6_go_64 : decode cX6_go 64 = .ok (.putfield 147, 3) := by decide +kernel
theorem dX6_go_67 : decode cX6_go 67 = .ok (.aload 4, 2) := by decide +kernel
theorem dX6_go_69 : decode cX6_go 69 = .ok (.iload_n 3, 1) := by decide +kernel
theorem dX6_go_70 : decode cX6_go 70 = .ok (.putfield 150, 3) := by decide +kernel
theorem dX6_go_73 : decode cX6_go 73 = .ok (.iload 5, 2) := by decide +kernel
theorem dX6_go_75 : decode cX6_go 75 = .ok (.ireturn, 1) := by decide +kernel
theorem dX6_hills_0 : decode cX6_hills 0 = .ok (.aload_n 0, 1) := by decide +kernel
theorem dX6_hills_1 : decode cX6_hills 1 = .ok (.iload_n 1, 1) := by decide +kernel
theorem dX6_hills_2 : decode cX6_hills 2 = .ok (.invokevirtual 140, 3) := by decide +kernel
theorem dX6_hills_5 : decode cX6_hills 5 = .ok (.ifCond .eq 13, 3) := by decide +kernel
theorem dX6_hills_8 : decode cX6_hills 8 = .ok (.new 63, 3) := by decide +kernel
theorem dX6_hills_11 : decode cX6_hills 11 = .ok (.dup, 1) := by decide +kernel
theorem dX6_hills_12 : decode cX6_hills 12 = .ok (.ldc 143, 2) := by decide +kernel
theorem dX6_hills_14 : decode cX6_hills 14 = .ok (.invokespecial 67, 3) := by decide +kernel
theorem dX6_hills_17 : decode cX6_hills 17 = .ok (.athrow, 1) := by decide +kernel
theorem dX6_hills_18 : decode cX6_hills 18 = .ok (.iload_n 2, 1) := by decide +kernel
theorem dX6_hills_19 : decode cX6_hills 19 = .ok (.iconst 0, 1) := by decide +kernel
theorem dX6_hills_20 : decode cX6_hills 20 = .ok (.bipush 60, 2) := by decide +kernel
theorem dX6_hills_22 : decode cX6_hills 22 = .ok (.invokestatic 34, 3) := by decide +kernel
theorem dX6_hills_25 : decode cX6_hills 25 = .ok (.ifCond .ne 13, 3) := by decide +kernel
theorem dX6_hills_28 : decode cX6_hills 28 = .ok (.iload_n 3, 1) := by decide +kernel
theorem dX6_hills_29 : decode cX6_hills 29 = .ok (.iconst 0, 1) := by decide +kernel
theorem dX6_hills_30 : decode cX6_hills 30 = .ok (.bipush 60, 2) := by decide +kernel
theorem dX6_hills_32 : decode cX6_hills 32 = .ok (.invokestatic 34, 3) := by decide +kernel
theorem dX6_hills_35 : decode cX6_hills 35 = .ok (.ifCond .eq 13, 3) := by decide +kernel
theorem dX6_hills_38 : decode cX6_hills 38 = .ok (.new 38, 3) := by decide +kernel
theorem dX6_hills_41 : decode cX6_hills 41 = .ok (.dup, 1) := by decide +kernel
theorem dX6_hills_42 : decode cX6_hills 42 = .ok (.ldc 157, 2) := by decide +kernel
theorem dX6_hills_44 : decode cX6_hills 44 = .ok (.invokespecial 42, 3) := by decide +kernel
theorem dX6_hills_47 : decode cX6_hills 47 = .ok (.athrow, 1) := by decide +kernel
theorem dX6_hills_48 : decode cX6_hills 48 = .ok (.aload_n 0, 1) := by decide +kernel
theorem dX6_hills_49 : decode cX6_hills 49 = .ok (.getfield 23, 3) := by decide +kernel
theorem dX6_hills_52 : decode cX6_hills 52 = .ok (.iload_n 1, 1) := by decide +kernel
theorem dX6_hills_53 : decode cX6_hills 53 = .ok (.aaload, 1) := by decide +kernel
theorem dX6_hills_54 : decode cX6_hills 54 = .ok (.astore 4, 2) := by decide +kernel
theorem dX6_hills_56 : decode cX6_hills 56 = .ok (.aload 4, 2) := by decide +kernel
theorem dX6_hills_58 : decode cX6_hills 58 = .ok (.iload_n 2, 1) := by decide +kernel
theorem dX6_hills_59 : decode cX6_hills 59 = .ok (.putfield 159, 3) := by decide +kernel
theorem dX6_hills_62 : decode cX6_hills 62 = .ok (.aload 4, 2) := by decide +kernel
theorem dX6_hills_64 : decode cX6_hills 64 = .ok (.iload_n 3, 1) := by decide +kernel
theorem dX6_hills_65 : decode cX6_hills 65 = .ok (.putfield 162, 3) := by decide +kernel
theorem dX6_hills_68 : decode cX6_hills 68 = .ok (.aload_n 0, 1) := by decide +kernel
theorem dX6_hills_69 : decode cX6_hills 69 = .ok (.aload 4, 2) := by decide +kernel
theorem dX6_hills_71 : decode cX6_hills 71 = .ok (.iconst 0, 1) := by decide +kernel
theorem dX6_hills_72 : decode cX6_hills 72 = .ok (.invokevirtual 165, 3) := by decide +kernel
theorem dX6_hills_75 : decode cX6_hills 75 = .ok (.invokestatic 169, 3) := by decide +kernel
theorem dX6_hills_78 : decode cX6_hills 78 = .ok (.ireturn, 1) := by decide +kernel
theorem dX6_air_0 : decode cX6_air 0 = .ok (.aload_n 0, 1) := by decide +kernel
theorem dX6_air_1 : decode cX6_air 1 = .ok (.iload_n 1, 1) := by decide +kernel
theorem dX6_air_2 : decode cX6_air 2 = .ok (.invokevirtual 140, 3) := by decide +kernel
theorem dX6_air_5 : decode cX6_air 5 = .ok (.ifCond .eq 13, 3) := by decide +kernel
theorem dX6_air_8 : decode cX6_air 8 = .ok (.new 63, 3) := by decide +kernel
theorem dX6_air_11 : decode cX6_air 11 = .ok (.dup, 1) := by decide +kernel
theorem dX6_air_12 : decode cX6_air 12 = .ok (.ldc 143, 2) := by decide +kernel
theorem dX6_air_14 : decode cX6_air 14 = .ok (.invokespecial 67, 3) := by decide +kernel
theorem dX6_air_17 : decode cX6_air 17 = .ok (.athrow, 1) := by decide +kernel
theorem dX6_air_18 : decode cX6_air 18 = .ok (.iload_n 2, 1) := by decide +kernel
theorem dX6_air_19 : decode cX6_air 19 = .ok (.iconst 0, 1) := by decide +kernel
theorem dX6_air_20 : decode cX6_air 20 = .ok (.bipush 9, 2) := by decide +kernel
theorem dX6_air_22 : decode cX6_air 22 = .ok (.invokestatic 34, 3) := by decide +kernel
theorem dX6_air_25 : decode cX6_air 25 = .ok (.ifCond .eq 13, 3) := by decide +kernel
theorem dX6_air_28 : decode cX6_air 28 = .ok (.new 38, 3) := by decide +kernel
theorem dX6_air_31 : decode cX6_air 31 = .ok (.dup, 1) := by decide +kernel
theorem dX6_air_32 : decode cX6_air 32 = .ok (.ldc 175, 2) := by decide +kernel
theorem dX6_air_34 : decode cX6_air 34 = .ok (.invokespecial 42, 3) := by decide +kernel
theorem dX6_air_37 : decode cX6_air 37 = .ok (.athrow, 1) := by decide +kernel
theorem dX6_air_38 : decode cX6_air 38 = .ok (.aload_n 0, 1) := by decide +kernel
theorem dX6_air_39 : decode cX6_air 39 = .ok (.getfield 23, 3) := by decide +kernel
theorem dX6_air_42 : decode cX6_air 42 = .ok (.iload_n 1, 1) := by decide +kernel
theorem dX6_air_43 : decode cX6_air 43 = .ok (.aaload, 1) := by decide +kernel
theorem dX6_air_44 : decode cX6_air 44 = .ok (.astore 4, 2) := by decide +kernel
theorem dX6_air_46 : decode cX6_air 46 = .ok (.aload 4, 2) := by decide +kernel
theorem dX6_air_48 : decode cX6_air 48 = .ok (.getfield 177, 3) := by decide +kernel
theorem dX6_air_51 : decode cX6_air 51 = .ok (.istore 5, 2) := by decide +kernel
theorem dX6_air_53 : decode cX6_air 53 = .ok (.aload 4, 2) := by decide +kernel
theorem dX6_air_55 : decode cX6_air 55 = .ok (.iload_n 2, 1) := by decide +kernel
theorem dX6_air_56 : decode cX6_air 56 = .ok (.putfield 177, 3) := by decide +kernel
theorem dX6_air_59 : decode cX6_air 59 = .ok (.aload 4, 2) := by decide +kernel
theorem dX6_air_61 : decode cX6_air 61 = .ok (.iload_n 3, 1) := by decide +kernel
theorem dX6_air_62 : decode cX6_air 62 = .ok (.putfield 179, 3) := by decide +kernel
theorem dX6_air_65 : decode cX6_air 65 = .ok (.iload 5, 2) := by decide +kernel
theorem dX6_air_67 : decode cX6_air 67 = .ok (.ireturn, 1) := by decide +kernel
theorem dX6_alert_0 : decode cX6_alert 0 = .ok (.aload_n 0, 1) := by decide +kernel
theorem dX6_alert_1 : decode cX6_alert 1 = .ok (.iload_n 1, 1) := by decide +kernel
theorem dX6_alert_2 : decode cX6_alert 2 = .ok (.invokevirtual 140, 3) := by decide +kernel
theorem dX6_alert_5 : decode cX6_alert 5 = .ok (.ifCond .eq 13, 3) := by decide +kernel
theorem dX6_alert_8 : decode cX6_alert 8 = .ok (.new 63, 3) := by decide +kernel
theorem dX6_alert_11 : decode cX6_alert 11 = .ok (.dup, 1) := by decide +kernel
theorem dX6_alert_12 : decode cX6_alert 12 = .ok (.ldc 143, 2) := by decide +kernel
theorem dX6_alert_14 : decode cX6_alert 14 = .ok (.invokespecial 67, 3) := by decide +kernel
theorem dX6_alert_17 : decode cX6_alert 17 = .ok (.athrow, 1) := by decide +kernel
theorem dX6_alert_18 : decode cX6_alert 18 = .ok (.iload_n 2, 1) := by decide +kernel
theorem dX6_alert_19 : decode cX6_alert 19 = .ok (.iconst 1, 1) := by decide +kernel
theorem dX6_alert_20 : decode cX6_alert 20 = .ok (.bipush 24, 2) := by decide +kernel
theorem dX6_alert_22 : decode cX6_alert 22 = .ok (.invokestatic 34, 3) := by decide +kernel
theorem dX6_alert_25 : decode cX6_alert 25 = .ok (.ifCond .eq 13, 3) := by decide +kernel
theorem dX6_alert_28 : decode cX6_alert 28 = .ok (.new 38, 3) := by decide +kernel
theorem dX6_alert_31 : decode cX6_alert 31 = .ok (.dup, 1) := by decide +kernel
theorem dX6_alert_32 : decode cX6_alert 32 = .ok (.ldc 182, 2) := by decide +kernel
theorem dX6_alert_34 : decode cX6_alert 34 = .ok (.invokespecial 42, 3) := by decide +kernel
theorem dX6_alert_37 : decode cX6_alert 37 = .ok (.athrow, 1) := by decide +kernel
theorem dX6_alert_38 : decode cX6_alert 38 = .ok (.aload_n 0, 1) := by decide +kernel
theorem dX6_alert_39 : decode cX6_alert 39 = .ok (.getfield 23, 3) := by decide +kernel
theorem dX6_alert_42 : decode cX6_alert 42 = .ok (.iload_n 1, 1) := by decide +kernel
theorem dX6_alert_43 : decode cX6_alert 43 = .ok (.aaload, 1) := by decide +kernel
theorem dX6_alert_44 : decode cX6_alert 44 = .ok (.getfield 184, 3) := by decide +kernel
theorem dX6_alert_47 : decode cX6_alert 47 = .ok (.istore_n 3, 1) := by decide +kernel
theorem dX6_alert_48 : decode cX6_alert 48 = .ok (.aload_n 0, 1) := by decide +kernel
theorem dX6_alert_49 : decode cX6_alert 49 = .ok (.getfield 23, 3) := by decide +kernel
theorem dX6_alert_52 : decode cX6_alert 52 = .ok (.iload_n 1, 1) := by decide +kernel
theorem dX6_alert_53 : decode cX6_alert 53 = .ok (.aaload, 1) := by decide +kernel
theorem dX6_alert_54 : decode cX6_alert 54 = .ok (.iload_n 2, 1) := by decide +kernel
theorem dX6_alert_55 : decode cX6_alert 55 = .ok (.putfield 184, 3) := by decide +kernel
theorem dX6_alert_58 : decode cX6_alert 58 = .ok (.iload_n 3, 1) := by decide +kernel
theorem dX6_alert_59 : decode cX6_alert 59 = .ok (.ireturn, 1) := by decide +kernel
theorem dX6_spoof_0 : decode cX6_spoof 0 = .ok (.aload_n 0, 1) := by decide +kernel
theorem dX6_spoof_1 : decode cX6_spoof 1 = .ok (.iload_n 1, 1) := by decide +kernel
theorem dX6_spoof_2 : decode cX6_spoof 2 = .ok (.invokevirtual 140, 3) := by decide +kernel
theorem dX6_spoof_5 : decode cX6_spoof 5 = .ok (.ifCond .eq 13, 3) := by decide +kernel
theorem dX6_spoof_8 : decode cX6_spoof 8 = .ok (.new 63, 3) := by decide +kernel
theorem dX6_spoof_11 : decode cX6_spoof 11 = .ok (.dup, 1) := by decide +kernel
theorem dX6_spoof_12 : decode cX6_spoof 12 = .ok (.ldc 143, 2) := by decide +kernel
theorem dX6_spoof_14 : decode cX6_spoof 14 = .ok (.invokespecial 67, 3) := by decide +kernel
theorem dX6_spoof_17 : decode cX6_spoof 17 = .ok (.athrow, 1) := by decide +kernel
theorem dX6_spoof_18 : decode cX6_spoof 18 = .ok (.iload_n 2, 1) := by decide +kernel
theorem dX6_spoof_19 : decode cX6_spoof 19 = .ok (.bipush (-30), 2) := by decide +kernel
theorem dX6_spoof_21 : decode cX6_spoof 21 = .ok (.bipush 30, 2) := by decide +kernel
theorem dX6_spoof_23 : decode cX6_spoof 23 = .ok (.invokestatic 34, 3) := by decide +kernel
theorem dX6_spoof_26 : decode cX6_spoof 26 = .ok (.ifCond .eq 13, 3) := by decide +kernel
theorem dX6_spoof_29 : decode cX6_spoof 29 = .ok (.new 38, 3) := by decide +kernel
theorem dX6_spoof_32 : decode cX6_spoof 32 = .ok (.dup, 1) := by decide +kernel
theorem dX6_spoof_33 : decode cX6_spoof 33 = .ok (.ldc 68, 2) := by decide +kernel
theorem dX6_spoof_35 : decode cX6_spoof 35 = .ok (.invokespecial 42, 3) := by decide +kernel
theorem dX6_spoof_38 : decode cX6_spoof 38 = .ok (.athrow, 1) := by decide +kernel
theorem dX6_spoof_39 : decode cX6_spoof 39 = .ok (.aload_n 0, 1) := by decide +kernel
theorem dX6_spoof_40 : decode cX6_spoof 40 = .ok (.getfield 23, 3) := by decide +kernel
theorem dX6_spoof_43 : decode cX6_spoof 43 = .ok (.iload_n 1, 1) := by decide +kernel
theorem dX6_spoof_44 : decode cX6_spoof 44 = .ok (.aaload, 1) := by decide +kernel
theorem dX6_spoof_45 : decode cX6_spoof 45 = .ok (.getfield 187, 3) := by decide +kernel
theorem dX6_spoof_48 : decode cX6_spoof 48 = .ok (.istore_n 3, 1) := by decide +kernel
theorem dX6_spoof_49 : decode cX6_spoof 49 = .ok (.aload_n 0, 1) := by decide +kernel
theorem dX6_spoof_50 : decode cX6_spoof 50 = .ok (.getfield 23, 3) := by decide +kernel
theorem dX6_spoof_53 : decode cX6_spoof 53 = .ok (.iload_n 1, 1) := by decide +kernel
theorem dX6_spoof_54 : decode cX6_spoof 54 = .ok (.aaload, 1) := by decide +kernel
theorem dX6_spoof_55 : decode cX6_spoof 55 = .ok (.iload_n 2, 1) := by decide +kernel
theorem dX6_spoof_56 : decode cX6_spoof 56 = .ok (.putfield 187, 3) := by decide +kernel
theorem dX6_spoof_59 : decode cX6_spoof 59 = .ok (.iload_n 3, 1) := by decide +kernel
theorem dX6_spoof_60 : decode cX6_spoof 60 = .ok (.ireturn, 1) := by decide +kernel
theorem dX6_refer_0 : decode cX6_refer 0 = .ok (.aload_n 0, 1) := by decide +kernel
theorem dX6_refer_1 : decode cX6_refer 1 = .ok (.iload_n 1, 1) := by decide +kernel
theorem dX6_refer_2 : decode cX6_refer 2 = .ok (.invokevirtual 140, 3) := by decide +kernel
theorem dX6_refer_5 : decode cX6_refer 5 = .ok (.ifCond .ne 16, 3) := by decide +kernel
theorem dX6_refer_8 : decode cX6_refer 8 = .ok (.iload_n 2, 1) := by decide +kernel
theorem dX6_refer_9 : decode cX6_refer 9 = .ok (.iconst (-1), 1) := by decide +kernel
theorem dX6_refer_10 : decode cX6_refer 10 = .ok (.if_icmp .eq 21, 3) := by decide +kernel
theorem dX6_refer_13 : decode cX6_refer 13 = .ok (.aload_n 0, 1) := by decide +kernel
theorem dX6_refer_14 : decode cX6_refer 14 = .ok (.iload_n 2, 1) := by decide +kernel
theorem dX6_refer_15 : decode cX6_refer 15 = .ok (.invokevirtual 140, 3) := by decide +kernel
theorem dX6_refer_18 : decode cX6_refer 18 = .ok (.ifCond .eq 13, 3) := by decide +kernel
theorem dX6_refer_21 : decode cX6_refer 21 = .ok (.new 63, 3) := by decide +kernel
theorem dX6_refer_24 : decode cX6_refer 24 = .ok (.dup, 1) := by decide +kernel
theorem dX6_refer_25 : decode cX6_refer 25 = .ok (.ldc 190, 2) := by decide +kernel
theorem dX6_refer_27 : decode cX6_refer 27 = .ok (.invokespecial 67, 3) := by decide +kernel
theorem dX6_refer_30 : decode cX6_refer 30 = .ok (.athrow, 1) := by decide +kernel
theorem dX6_refer_31 : decode cX6_refer 31 = .ok (.iload_n 1, 1) := by decide +kernel
theorem dX6_refer_32 : decode cX6_refer 32 = .ok (.iload_n 2, 1) := by decide +kernel
theorem dX6_refer_33 : decode cX6_refer 33 = .ok (.if_icmp .ne 13, 3) := by decide +kernel
theorem dX6_refer_36 : decode cX6_refer 36 = .ok (.new 38, 3) := by decide +kernel
theorem dX6_refer_39 : decode cX6_refer 39 = .ok (.dup, 1) := by decide +kernel
theorem dX6_refer_40 : decode cX6_refer 40 = .ok (.ldc 192, 2) := by decide +kernel
theorem dX6_refer_42 : decode cX6_refer 42 = .ok (.invokespecial 42, 3) := by decide +kernel
theorem dX6_refer_45 : decode cX6_refer 45 = .ok (.athrow, 1) := by decide +kernel
theorem dX6_refer_46 : decode cX6_refer 46 = .ok (.aload_n 0, 1) := by decide +kernel
theorem dX6_refer_47 : decode cX6_refer 47 = .ok (.getfield 23, 3) := by decide +kernel
theorem dX6_refer_50 : decode cX6_refer 50 = .ok (.iload_n 1, 1) := by decide +kernel
theorem dX6_refer_51 : decode cX6_refer 51 = .ok (.aaload, 1) := by decide +kernel
theorem dX6_refer_52 : decode cX6_refer 52 = .ok (.getfield 194, 3) := by decide +kernel
theorem dX6_refer_55 : decode cX6_refer 55 = .ok (.istore_n 3, 1) := by decide +kernel
theorem dX6_refer_56 : decode cX6_refer 56 = .ok (.aload_n 0, 1) := by decide +kernel
theorem dX6_refer_57 : decode cX6_refer 57 = .ok (.getfield 23, 3) := by decide +kernel
theorem dX6_refer_60 : decode cX6_refer 60 = .ok (.iload_n 1, 1) := by decide +kernel
theorem dX6_refer_61 : decode cX6_refer 61 = .ok (.aaload, 1) := by decide +kernel
theorem dX6_refer_62 : decode cX6_refer 62 = .ok (.iload_n 2, 1) := by decide +kernel
theorem dX6_refer_63 : decode cX6_refer 63 = .ok (.putfield 194, 3) := by decide +kernel
theorem dX6_refer_66 : decode cX6_refer 66 = .ok (.iload_n 3, 1) := by decide +kernel
theorem dX6_refer_67 : decode cX6_refer 67 = .ok (.ireturn, 1) := by decide +kernel
theorem dX6_pass_0 : decode cX6_pass 0 = .ok (.iload_n 1, 1) := by decide +kernel
theorem dX6_pass_1 : decode cX6_pass 1 = .ok (.iconst 1, 1) := by decide +kernel
theorem dX6_pass_2 : decode cX6_pass 2 = .ok (.bipush 48, 2) := by decide +kernel
theorem dX6_pass_4 : decode cX6_pass 4 = .ok (.invokestatic 34, 3) := by decide +kernel
theorem dX6_pass_7 : decode cX6_pass 7 = .ok (.ifCond .eq 13, 3) := by decide +kernel
theorem dX6_pass_10 : decode cX6_pass 10 = .ok (.new 38, 3) := by decide +kernel
theorem dX6_pass_13 : decode cX6_pass 13 = .ok (.dup, 1) := by decide +kernel
theorem dX6_pass_14 : decode cX6_pass 14 = .ok (.ldc 197, 2) := by decide +kernel
theorem dX6_pass_16 : decode cX6_pass 16 = .ok (.invokespecial 42, 3) := by decide +kernel
theorem dX6_pass_19 : decode cX6_pass 19 = .ok (.athrow, 1) := by decide +kernel
theorem dX6_pass_20 : decode cX6_pass 20 = .ok (.iconst 0, 1) := by decide +kernel
theorem dX6_pass_21 : decode cX6_pass 21 = .ok (.istore_n 2, 1) := by decide +kernel
theorem dX6_pass_22 : decode cX6_pass 22 = .ok (.iload_n 2, 1) := by decide +kernel
theorem dX6_pass_23 : decode cX6_pass 23 = .ok (.iload_n 1, 1) := by decide +kernel
theorem dX6_pass_24 : decode cX6_pass 24 = .ok (.if_icmp .ge 13, 3) := by decide +kernel
theorem dX6_pass_27 : decode cX6_pass 27 = .ok (.aload_n 0, 1) := by decide +kernel
theorem dX6_pass_28 : decode cX6_pass 28 = .ok (.invokevirtual 199, 3) := by decide +kernel
theorem dX6_pass_31 : decode cX6_pass 31 = .ok (.iinc 2 1, 3) := by decide +kernel
theorem dX6_pass_34 : decode cX6_pass 34 = .ok (.goto (-12), 3) := by decide +kernel
theorem dX6_pass_37 : decode cX6_pass 37 = .ok (.aload_n 0, 1) := by decide +kernel
theorem dX6_pass_38 : decode cX6_pass 38 = .ok (.getfield 114, 3) := by decide +kernel
theorem dX6_pass_41 : decode cX6_pass 41 = .ok (.ireturn, 1) := by decide +kernel
theorem dX6_observe_0 : decode cX6_observe 0 = .ok (.aload_n 0, 1) := by decide +kernel
theorem dX6_observe_1 : decode cX6_observe 1 = .ok (.iload_n 1, 1) := by decide +kernel
theorem dX6_observe_2 : decode cX6_observe 2 = .ok (.invokevirtual 140, 3) := by decide +kernel
theorem dX6_observe_5 : decode cX6_observe 5 = .ok (.ifCond .eq 13, 3) := by decide +kernel
theorem dX6_observe_8 : decode cX6_observe 8 = .ok (.new 63, 3) := by decide +kernel
theorem dX6_observe_11 : decode cX6_observe 11 = .ok (.dup, 1) := by decide +kernel
theorem dX6_observe_12 : decode cX6_observe 12 = .ok (.ldc 143, 2) := by decide +kernel
theorem dX6_observe_14 : decode cX6_observe 14 = .ok (.invokespecial 67, 3) := by decide +kernel
theorem dX6_observe_17 : decode cX6_observe 17 = .ok (.athrow, 1) := by decide +kernel
theorem dX6_observe_18 : decode cX6_observe 18 = .ok (.aload_n 0, 1) := by decide +kernel
theorem dX6_observe_19 : decode cX6_observe 19 = .ok (.getfield 23, 3) := by decide +kernel
theorem dX6_observe_22 : decode cX6_observe 22 = .ok (.iload_n 1, 1) := by decide +kernel
theorem dX6_observe_23 : decode cX6_observe 23 = .ok (.aaload, 1) := by decide +kernel
theorem dX6_observe_24 : decode cX6_observe 24 = .ok (.astore_n 2, 1) := by decide +kernel
theorem dX6_observe_25 : decode cX6_observe 25 = .ok (.aload_n 2, 1) := by decide +kernel
theorem dX6_observe_26 : decode cX6_observe 26 = .ok (.getfield 202, 3) := by decide +kernel
theorem dX6_observe_29 : decode cX6_observe 29 = .ok (.astore_n 3, 1) := by decide +kernel
theorem dX6_observe_30 : decode cX6_observe 30 = .ok (.aload_n 3, 1) := by decide +kernel
theorem dX6_observe_31 : decode cX6_observe 31 = .ok (.aload_n 0, 1) := by decide +kernel
theorem dX6_observe_32 : decode cX6_observe 32 = .ok (.getfield 114, 3) := by decide +kernel
theorem dX6_observe_35 : decode cX6_observe 35 = .ok (.invokevirtual 206, 3) := by decide +kernel
theorem dX6_observe_38 : decode cX6_observe 38 = .ok (.ifCond .eq 13, 3) := by decide +kernel
theorem dX6_observe_41 : decode cX6_observe 41 = .ok (.new 51, 3) := by decide +kernel
theorem dX6_observe_44 : decode cX6_observe 44 = .ok (.dup, 1) := by decide +kernel
theorem dX6_observe_45 : decode cX6_observe 45 = .ok (.ldc 211, 2) := by decide +kernel
theorem dX6_observe_47 : decode cX6_observe 47 = .ok (.invokespecial 55, 3) := by decide +kernel
theorem dX6_observe_50 : decode cX6_observe 50 = .ok (.athrow, 1) := by decide +kernel
theorem dX6_observe_51 : decode cX6_observe 51 = .ok (.aload_n 0, 1) := by decide +kernel
theorem dX6_observe_52 : decode cX6_observe 52 = .ok (.aload_n 2, 1) := by decide +kernel
theorem dX6_observe_53 : decode cX6_observe 53 = .ok (.invokevirtual 213, 3) := by decide +kernel
theorem dX6_observe_56 : decode cX6_observe 56 = .ok (.aload_n 0, 1) := by decide +kernel
theorem dX6_observe_57 : decode cX6_observe 57 = .ok (.aload_n 2, 1) := by decide +kernel
theorem dX6_observe_58 : decode cX6_observe 58 = .ok (.invokevirtual 217, 3) := by decide +kernel
theorem dX6_observe_61 : decode cX6_observe 61 = .ok (.aload_n 0, 1) := by decide +kernel
theorem dX6_observe_62 : decode cX6_observe 62 = .ok (.aload_n 2, 1) := by decide +kernel
theorem dX6_observe_63 : decode cX6_observe 63 = .ok (.invokevirtual 220, 3) := by decide +kernel
theorem dX6_observe_66 : decode cX6_observe 66 = .ok (.aload_n 0, 1) := by decide +kernel
theorem dX6_observe_67 : decode cX6_observe 67 = .ok (.getfield 30, 3) := by decide +kernel
theorem dX6_observe_70 : decode cX6_observe 70 = .ok (.invokevirtual 223, 3) := by decide +kernel
theorem dX6_observe_73 : decode cX6_observe 73 = .ok (.aload_n 3, 1) := by decide +kernel
theorem dX6_observe_74 : decode cX6_observe 74 = .ok (.aload_n 0, 1) := by decide +kernel
theorem dX6_observe_75 : decode cX6_observe 75 = .ok (.getfield 114, 3) := by decide +kernel
theorem dX6_observe_78 : decode cX6_observe 78 = .ok (.aload_n 0, 1) := by decide +kernel
theorem dX6_observe_79 : decode cX6_observe 79 = .ok (.getfield 30, 3) := by decide +kernel
theorem dX6_observe_82 : decode cX6_observe 82 = .ok (.aload_n 0, 1) := by decide +kernel
theorem dX6_observe_83 : decode cX6_observe 83 = .ok (.aload_n 2, 1) := by decide +kernel
theorem dX6_observe_84 : decode cX6_observe 84 = .ok (.iconst 1, 1) := by decide +kernel
theorem dX6_observe_85 : decode cX6_observe 85 = .ok (.invokevirtual 226, 3) := by decide +kernel
theorem dX6_observe_88 : decode cX6_observe 88 = .ok (.aload_n 2, 1) := by decide +kernel
theorem dX6_observe_89 : decode cX6_observe 89 = .ok (.getfield 147, 3) := by decide +kernel
theorem dX6_observe_92 : decode cX6_observe 92 = .ok (.aload_n 2, 1) := by decide +kernel
theorem dX6_observe_93 : decode cX6_observe 93 = .ok (.getfield 150, 3) := by decide +kernel
theorem dX6_observe_96 : decode cX6_observe 96 = .ok (.invokevirtual 230, 3) := by decide +kernel
theorem dX6_observe_99 : decode cX6_observe 99 = .ok (.aload_n 3, 1) := by decide +kernel
theorem dX6_observe_100 : decode cX6_observe 100 = .ok (.getfield 234, 3) := by decide +kernel
theorem dX6_observe_103 : decode cX6_observe 103 = .ok (.ireturn, 1) := by decide +kernel
theorem dX6_ofStar_0 : decode cX6_ofStar 0 = .ok (.aload_n 0, 1) := by decide +kernel
theorem dX6_ofStar_1 : decode cX6_ofStar 1 = .ok (.iload_n 1, 1) := by decide +kernel
theorem dX6_ofStar_2 : decode cX6_ofStar 2 = .ok (.invokevirtual 59, 3) := by decide +kernel
theorem dX6_ofStar_5 : decode cX6_ofStar 5 = .ok (.ifCond .eq 13, 3) := by decide +kernel
theorem dX6_ofStar_8 : decode cX6_ofStar 8 = .ok (.new 63, 3) := by decide +kernel
theorem dX6_ofStar_11 : decode cX6_ofStar 11 = .ok (.dup, 1) := by decide +kernel
theorem dX6_ofStar_12 : decode cX6_ofStar 12 = .ok (.ldc 65, 2) := by decide +kernel
theorem dX6_ofStar_14 : decode cX6_ofStar 14 = .ok (.invokespecial 67, 3) := by decide +kernel
theorem dX6_ofStar_17 : decode cX6_ofStar 17 = .ok (.athrow, 1) := by decide +kernel
theorem dX6_ofStar_18 : decode cX6_ofStar 18 = .ok (.iload_n 2, 1) := by decide +kernel
theorem dX6_ofStar_19 : decode cX6_ofStar 19 = .ok (.iconst 0, 1) := by decide +kernel
theorem dX6_ofStar_20 : decode cX6_ofStar 20 = .ok (.bipush 7, 2) := by decide +kernel
theorem dX6_ofStar_22 : decode cX6_ofStar 22 = .ok (.invokestatic 34, 3) := by decide +kernel
theorem dX6_ofStar_25 : decode cX6_ofStar 25 = .ok (.ifCond .eq 13, 3) := by decide +kernel
theorem dX6_ofStar_28 : decode cX6_ofStar 28 = .ok (.new 38, 3) := by decide +kernel
theorem dX6_ofStar_31 : decode cX6_ofStar 31 = .ok (.dup, 1) := by decide +kernel
theorem dX6_ofStar_32 : decode cX6_ofStar 32 = .ok (.ldc 237, 2) := by decide +kernel
theorem dX6_ofStar_34 : decode cX6_ofStar 34 = .ok (.invokespecial 42, 3) := by decide +kernel
theorem dX6_ofStar_37 : decode cX6_ofStar 37 = .ok (.athrow, 1) := by decide +kernel
theorem dX6_ofStar_38 : decode cX6_ofStar 38 = .ok (.aload_n 0, 1) := by decide +kernel
theorem dX6_ofStar_39 : decode cX6_ofStar 39 = .ok (.getfield 11, 3) := by decide +kernel
theorem dX6_ofStar_42 : decode cX6_ofStar 42 = .ok (.iload_n 1, 1) := by decide +kernel
theorem dX6_ofStar_43 : decode cX6_ofStar 43 = .ok (.aaload, 1) := by decide +kernel
theorem dX6_ofStar_44 : decode cX6_ofStar 44 = .ok (.iload_n 2, 1) := by decide +kernel
theorem dX6_ofStar_45 : decode cX6_ofStar 45 = .ok (.invokevirtual 239, 3) := by decide +kernel
theorem dX6_ofStar_48 : decode cX6_ofStar 48 = .ok (.ireturn, 1) := by decide +kernel
theorem dX6_message_0 : decode cX6_message 0 = .ok (.aload_n 0, 1) := by decide +kernel
theorem dX6_message_1 : decode cX6_message 1 = .ok (.iload_n 1, 1) := by decide +kernel
theorem dX6_message_2 : decode cX6_message 2 = .ok (.invokevirtual 59, 3) := by decide +kernel
theorem dX6_message_5 : decode cX6_message 5 = .ok (.ifCond .eq 13, 3) := by decide +kernel
theorem dX6_message_8 : decode cX6_message 8 = .ok (.new 63, 3) := by decide +kernel
theorem dX6_message_11 : decode cX6_message 11 = .ok (.dup, 1) := by decide +kernel
theorem dX6_message_12 : decode cX6_message 12 = .ok (.ldc 65, 2) := by decide +kernel
theorem dX6_message_14 : decode cX6_message 14 = .ok (.invokespecial 67, 3) := by decide +kernel
theorem dX6_message_17 : decode cX6_message 17 = .ok (.athrow, 1) := by decide +kernel
theorem dX6_message_18 : decode cX6_message 18 = .ok (.iload_n 2, 1) := by decide +kernel
theorem dX6_message_19 : decode cX6_message 19 = .ok (.iconst 0, 1) := by decide +kernel
theorem dX6_message_20 : decode cX6_message 20 = .ok (.bipush 7, 2) := by decide +kernel
theorem dX6_message_22 : decode cX6_message 22 = .ok (.invokestatic 34, 3) := by decide +kernel
theorem dX6_message_25 : decode cX6_message 25 = .ok (.ifCond .eq 13, 3) := by decide +kernel
theorem dX6_message_28 : decode cX6_message 28 = .ok (.new 38, 3) := by decide +kernel
theorem dX6_message_31 : decode cX6_message 31 = .ok (.dup, 1) := by decide +kernel
theorem dX6_message_32 : decode cX6_message 32 = .ok (.ldc 237, 2) := by decide +kernel
theorem dX6_message_34 : decode cX6_message 34 = .ok (.invokespecial 42, 3) := by decide +kernel
theorem dX6_message_37 : decode cX6_message 37 = .ok (.athrow, 1) := by decide +kernel
theorem dX6_message_38 : decode cX6_message 38 = .ok (.aload_n 0, 1) := by decide +kernel
theorem dX6_message_39 : decode cX6_message 39 = .ok (.getfield 11, 3) := by decide +kernel
theorem dX6_message_42 : decode cX6_message 42 = .ok (.iload_n 1, 1) := by decide +kernel
theorem dX6_message_43 : decode cX6_message 43 = .ok (.aaload, 1) := by decide +kernel
theorem dX6_message_44 : decode cX6_message 44 = .ok (.iload_n 2, 1) := by decide +kernel
theorem dX6_message_45 : decode cX6_message 45 = .ok (.aload_n 0, 1) := by decide +kernel
theorem dX6_message_46 : decode cX6_message 46 = .ok (.getfield 114, 3) := by decide +kernel
theorem dX6_message_49 : decode cX6_message 49 = .ok (.invokevirtual 242, 3) := by decide +kernel
theorem dX6_message_52 : decode cX6_message 52 = .ok (.ireturn, 1) := by decide +kernel
theorem dX6_seen_0 : decode cX6_seen 0 = .ok (.aload_n 0, 1) := by decide +kernel
theorem dX6_seen_1 : decode cX6_seen 1 = .ok (.iload_n 1, 1) := by decide +kernel
theorem dX6_seen_2 : decode cX6_seen 2 = .ok (.invokevirtual 140, 3) := by decide +kernel
theorem dX6_seen_5 : decode cX6_seen 5 = .ok (.ifCond .ne 11, 3) := by decide +kernel
theorem dX6_seen_8 : decode cX6_seen 8 = .ok (.aload_n 0, 1) := by decide +kernel
theorem dX6_seen_9 : decode cX6_seen 9 = .ok (.iload_n 2, 1) := by decide +kernel
theorem dX6_seen_10 : decode cX6_seen 10 = .ok (.invokevirtual 59, 3) := by decide +kernel
theorem dX6_seen_13 : decode cX6_seen 13 = .ok (.ifCond .eq 13, 3) := by decide +kernel
theorem dX6_seen_16 : decode cX6_seen 16 = .ok (.new 63, 3) := by decide +kernel
theorem dX6_seen_19 : decode cX6_seen 19 = .ok (.dup, 1) := by decide +kernel
theorem dX6_seen_20 : decode cX6_seen 20 = .ok (.ldc 245, 2) := by decide +kernel
theorem dX6_seen_22 : decode cX6_seen 22 = .ok (.invokespecial 67, 3) := by decide +kernel
theorem dX6_seen_25 : decode cX6_seen 25 = .ok (.athrow, 1) := by decide +kernel
theorem dX6_seen_26 : decode cX6_seen 26 = .ok (.iload_n 3, 1) := by decide +kernel
theorem dX6_seen_27 : decode cX6_seen 27 = .ok (.iconst 0, 1) := by decide +kernel
theorem dX6_seen_28 : decode cX6_seen 28 = .ok (.bipush 7, 2) := by decide +kernel
theorem dX6_seen_30 : decode cX6_seen 30 = .ok (.invokestatic 34, 3) := by decide +kernel
theorem dX6_seen_33 : decode cX6_seen 33 = .ok (.ifCond .eq 13, 3) := by decide +kernel
theorem dX6_seen_36 : decode cX6_seen 36 = .ok (.new 38, 3) := by decide +kernel
theorem dX6_seen_39 : decode cX6_seen 39 = .ok (.dup, 1) := by decide +kernel
theorem dX6_seen_40 : decode cX6_seen 40 = .ok (.ldc 237, 2) := by decide +kernel
theorem dX6_seen_42 : decode cX6_seen 42 = .ok (.invokespecial 42, 3) := by decide +kernel
theorem dX6_seen_45 : decode cX6_seen 45 = .ok (.athrow, 1) := by decide +kernel
theorem dX6_seen_46 : decode cX6_seen 46 = .ok (.aload_n 0, 1) := by decide +kernel
theorem dX6_seen_47 : decode cX6_seen 47 = .ok (.getfield 23, 3) := by decide +kernel
theorem dX6_seen_50 : decode cX6_seen 50 = .ok (.iload_n 1, 1) := by decide +kernel
theorem dX6_seen_51 : decode cX6_seen 51 = .ok (.aaload, 1) := by decide +kernel
theorem dX6_seen_52 : decode cX6_seen 52 = .ok (.getfield 247, 3) := by decide +kernel
theorem dX6_seen_55 : decode cX6_seen 55 = .ok (.iload_n 2, 1) := by decide +kernel
theorem dX6_seen_56 : decode cX6_seen 56 = .ok (.aaload, 1) := by decide +kernel
theorem dX6_seen_57 : decode cX6_seen 57 = .ok (.iload_n 3, 1) := by decide +kernel
theorem dX6_seen_58 : decode cX6_seen 58 = .ok (.invokevirtual 251, 3) := by decide +kernel
theorem dX6_seen_61 : decode cX6_seen 61 = .ok (.ireturn, 1) := by decide +kernel
theorem dX6_ofReceiver_0 : decode cX6_ofReceiver 0 = .ok (.aload_n 0, 1) := by decide +kernel
theorem dX6_ofReceiver_1 : decode cX6_ofReceiver 1 = .ok (.iload_n 1, 1) := by decide +kernel
theorem dX6_ofReceiver_2 : decode cX6_ofReceiver 2 = .ok (.invokevirtual 140, 3) := by decide +kernel
theorem dX6_ofReceiver_5 : decode cX6_ofReceiver 5 = .ok (.ifCond .eq 13, 3) := by decide +kernel
theorem dX6_ofReceiver_8 : decode cX6_ofReceiver 8 = .ok (.new 63, 3) := by decide +kernel
theorem dX6_ofReceiver_11 : decode cX6_ofReceiver 11 = .ok (.dup, 1) := by decide +kernel
theorem dX6_ofReceiver_12 : decode cX6_ofReceiver 12 = .ok (.ldc 143, 2) := by decide +kernel
theorem dX6_ofReceiver_14 : decode cX6_ofReceiver 14 = .ok (.invokespecial 67, 3) := by decide +kernel
theorem dX6_ofReceiver_17 : decode cX6_ofReceiver 17 = .ok (.athrow, 1) := by decide +kernel
theorem dX6_ofReceiver_18 : decode cX6_ofReceiver 18 = .ok (.iload_n 2, 1) := by decide +kernel
theorem dX6_ofReceiver_19 : decode cX6_ofReceiver 19 = .ok (.iconst 0, 1) := by decide +kernel
theorem dX6_ofReceiver_20 : decode cX6_ofReceiver 20 = .ok (.bipush 13, 2) := by decide +kernel
theorem dX6_ofReceiver_22 : decode cX6_ofReceiver 22 = .ok (.invokestatic 34, 3) := by decide +kernel
theorem dX6_ofReceiver_25 : decode cX6_ofReceiver 25 = .ok (.ifCond .eq 13, 3) := by decide +kernel
theorem dX6_ofReceiver_28 : decode cX6_ofReceiver 28 = .ok (.new 38, 3) := by decide +kernel
theorem dX6_ofReceiver_31 : decode cX6_ofReceiver 31 = .ok (.dup, 1) := by decide +kernel
theorem dX6_ofReceiver_32 : decode cX6_ofReceiver 32 = .ok (.ldc 237, 2) := by decide +kernel
theorem dX6_ofReceiver_34 : decode cX6_ofReceiver 34 = .ok (.invokespecial 42, 3) := by decide +kernel
theorem dX6_ofReceiver_37 : decode cX6_ofReceiver 37 = .ok (.athrow, 1) := by decide +kernel
theorem dX6_ofReceiver_38 : decode cX6_ofReceiver 38 = .ok (.aload_n 0, 1) := by decide +kernel
theorem dX6_ofReceiver_39 : decode cX6_ofReceiver 39 = .ok (.aload_n 0, 1) := by decide +kernel
theorem dX6_ofReceiver_40 : decode cX6_ofReceiver 40 = .ok (.getfield 23, 3) := by decide +kernel
theorem dX6_ofReceiver_43 : decode cX6_ofReceiver 43 = .ok (.iload_n 1, 1) := by decide +kernel
theorem dX6_ofReceiver_44 : decode cX6_ofReceiver 44 = .ok (.aaload, 1) := by decide +kernel
theorem dX6_ofReceiver_45 : decode cX6_ofReceiver 45 = .ok (.iload_n 2, 1) := by decide +kernel
theorem dX6_ofReceiver_46 : decode cX6_ofReceiver 46 = .ok (.invokevirtual 254, 3) := by decide +kernel
theorem dX6_ofReceiver_49 : decode cX6_ofReceiver 49 = .ok (.ireturn, 1) := by decide +kernel
theorem dX6_many_0 : decode cX6_many 0 = .ok (.iload_n 1, 1) := by decide +kernel
theorem dX6_many_1 : decode cX6_many 1 = .ok (.iconst 0, 1) := by decide +kernel
theorem dX6_many_2 : decode cX6_many 2 = .ok (.bipush 8, 2) := by decide +kernel
theorem dX6_many_4 : decode cX6_many 4 = .ok (.invokestatic 34, 3) := by decide +kernel
theorem dX6_many_7 : decode cX6_many 7 = .ok (.ifCond .eq 13, 3) := by decide +kernel
theorem dX6_many_10 : decode cX6_many 10 = .ok (.new 38, 3) := by decide +kernel
theorem dX6_many_13 : decode cX6_many 13 = .ok (.dup, 1) := by decide +kernel
theorem dX6_many_14 : decode cX6_many 14 = .ok (.ldc 237, 2) := by decide +kernel
theorem dX6_many_16 : decode cX6_many 16 = .ok (.invokespecial 42, 3) := by decide +kernel
theorem dX6_many_19 : decode cX6_many 19 = .ok (.athrow, 1) := by decide +kernel
theorem dX6_many_20 : decode cX6_many 20 = .ok (.aload_n 0, 1) := by decide +kernel
theorem dX6_many_21 : decode cX6_many 21 = .ok (.iload_n 1, 1) := by decide +kernel
theorem dX6_many_22 : decode cX6_many 22 = .ok (.invokevirtual 257, 3) := by decide +kernel
theorem dX6_many_25 : decode cX6_many 25 = .ok (.ireturn, 1) := by decide +kernel
theorem dX6_meanError_0 : decode cX6_meanError 0 = .ok (.aload_n 0, 1) := by decide +kernel
theorem dX6_meanError_1 : decode cX6_meanError 1 = .ok (.iload_n 1, 1) := by decide +kernel
theorem dX6_meanError_2 : decode cX6_meanError 2 = .ok (.invokevirtual 140, 3) := by decide +kernel
theorem dX6_meanError_5 : decode cX6_meanError 5 = .ok (.ifCond .eq 13, 3) := by decide +kernel
theorem dX6_meanError_8 : decode cX6_meanError 8 = .ok (.new 63, 3) := by decide +kernel
theorem dX6_meanError_11 : decode cX6_meanError 11 = .ok (.dup, 1) := by decide +kernel
theorem dX6_meanError_12 : decode cX6_meanError 12 = .ok (.ldc 143, 2) := by decide +kernel
theorem dX6_meanError_14 : decode cX6_meanError 14 = .ok (.invokespecial 67, 3) := by decide +kernel
theorem dX6_meanError_17 : decode cX6_meanError 17 = .ok (.athrow, 1) := by decide +kernel
theorem dX6_meanError_18 : decode cX6_meanError 18 = .ok (.aload_n 0, 1) := by decide +kernel
theorem dX6_meanError_19 : decode cX6_meanError 19 = .ok (.getfield 23, 3) := by decide +kernel
theorem dX6_meanError_22 : decode cX6_meanError 22 = .ok (.iload_n 1, 1) := by decide +kernel
theorem dX6_meanError_23 : decode cX6_meanError 23 = .ok (.aaload, 1) := by decide +kernel
theorem dX6_meanError_24 : decode cX6_meanError 24 = .ok (.getfield 202, 3) := by decide +kernel
theorem dX6_meanError_27 : decode cX6_meanError 27 = .ok (.invokevirtual 260, 3) := by decide +kernel
theorem dX6_meanError_30 : decode cX6_meanError 30 = .ok (.dreturn, 1) := by decide +kernel
theorem dX6_wouldSee_0 : decode cX6_wouldSee 0 = .ok (.aload_n 0, 1) := by decide +kernel
theorem dX6_wouldSee_1 : decode cX6_wouldSee 1 = .ok (.iload_n 1, 1) := by decide +kernel
theorem dX6_wouldSee_2 : decode cX6_wouldSee 2 = .ok (.invokevirtual 140, 3) := by decide +kernel
theorem dX6_wouldSee_5 : decode cX6_wouldSee 5 = .ok (.ifCond .eq 13, 3) := by decide +kernel
theorem dX6_wouldSee_8 : decode cX6_wouldSee 8 = .ok (.new 63, 3) := by decide +kernel
theorem dX6_wouldSee_11 : decode cX6_wouldSee 11 = .ok (.dup, 1) := by decide +kernel
theorem dX6_wouldSee_12 : decode cX6_wouldSee 12 = .ok (.ldc 143, 2) := by decide +kernel
theorem dX6_wouldSee_14 : decode cX6_wouldSee 14 = .ok (.invokespecial 67, 3) := by decide +kernel
theorem dX6_wouldSee_17 : decode cX6_wouldSee 17 = .ok (.athrow, 1) := by decide +kernel
theorem dX6_wouldSee_18 : decode cX6_wouldSee 18 = .ok (.iload_n 2, 1) := by decide +kernel
theorem dX6_wouldSee_19 : decode cX6_wouldSee 19 = .ok (.iconst 0, 1) := by decide +kernel
theorem dX6_wouldSee_20 : decode cX6_wouldSee 20 = .ok (.bipush 48, 2) := by decide +kernel
theorem dX6_wouldSee_22 : decode cX6_wouldSee 22 = .ok (.invokestatic 34, 3) := by decide +kernel
theorem dX6_wouldSee_25 : decode cX6_wouldSee 25 = .ok (.ifCond .eq 13, 3) := by decide +kernel
theorem dX6_wouldSee_28 : decode cX6_wouldSee 28 = .ok (.new 38, 3) := by decide +kernel
theorem dX6_wouldSee_31 : decode cX6_wouldSee 31 = .ok (.dup, 1) := by decide +kernel
theorem dX6_wouldSee_32 : decode cX6_wouldSee 32 = .ok (.ldc 197, 2) := by decide +kernel
theorem dX6_wouldSee_34 : decode cX6_wouldSee 34 = .ok (.invokespecial 42, 3) := by decide +kernel
theorem dX6_wouldSee_37 : decode cX6_wouldSee 37 = .ok (.athrow, 1) := by decide +kernel
theorem dX6_wouldSee_38 : decode cX6_wouldSee 38 = .ok (.aload_n 0, 1) := by decide +kernel
theorem dX6_wouldSee_39 : decode cX6_wouldSee 39 = .ok (.aload_n 0, 1) := by decide +kernel
theorem dX6_wouldSee_40 : decode cX6_wouldSee 40 = .ok (.getfield 23, 3) := by decide +kernel
theorem dX6_wouldSee_43 : decode cX6_wouldSee 43 = .ok (.iload_n 1, 1) := by decide +kernel
theorem dX6_wouldSee_44 : decode cX6_wouldSee 44 = .ok (.aaload, 1) := by decide +kernel
theorem dX6_wouldSee_45 : decode cX6_wouldSee 45 = .ok (.iload_n 2, 1) := by decide +kernel
theorem dX6_wouldSee_46 : decode cX6_wouldSee 46 = .ok (.invokevirtual 165, 3) := by decide +kernel
theorem dX6_wouldSee_49 : decode cX6_wouldSee 49 = .ok (.ireturn, 1) := by decide +kernel
theorem dX6_heardIn_0 : decode cX6_heardIn 0 = .ok (.aload_n 0, 1) := by decide +kernel
theorem dX6_heardIn_1 : decode cX6_heardIn 1 = .ok (.iload_n 1, 1) := by decide +kernel
theorem dX6_heardIn_2 : decode cX6_heardIn 2 = .ok (.invokevirtual 59, 3) := by decide +kernel
theorem dX6_heardIn_5 : decode cX6_heardIn 5 = .ok (.ifCond .ne 11, 3) := by decide +kernel
theorem dX6_heardIn_8 : decode cX6_heardIn 8 = .ok (.aload_n 0, 1) := by decide +kernel
theorem dX6_heardIn_9 : decode cX6_heardIn 9 = .ok (.iload_n 2, 1) := by decide +kernel
theorem dX6_heardIn_10 : decode cX6_heardIn 10 = .ok (.invokevirtual 103, 3) := by decide +kernel
theorem dX6_heardIn_13 : decode cX6_heardIn 13 = .ok (.ifCond .eq 14, 3) := by decide +kernel
theorem dX6_heardIn_16 : decode cX6_heardIn 16 = .ok (.new 63, 3) := by decide +kernel
theorem dX6_heardIn_19 : decode cX6_heardIn 19 = .ok (.dup, 1) := by decide +kernel
theorem dX6_heardIn_20 : decode cX6_heardIn 20 = .ok (.ldc_w 264, 3) := by decide +kernel
theorem dX6_heardIn_23 : decode cX6_heardIn 23 = .ok (.invokespecial 67, 3) := by decide +kernel
theorem dX6_heardIn_26 : decode cX6_heardIn 26 = .ok (.athrow, 1) := by decide +kernel
theorem dX6_heardIn_27 : decode cX6_heardIn 27 = .ok (.aload_n 0, 1) := by decide +kernel
theorem dX6_heardIn_28 : decode cX6_heardIn 28 = .ok (.getfield 11, 3) := by decide +kernel
theorem dX6_heardIn_31 : decode cX6_heardIn 31 = .ok (.iload_n 1, 1) := by decide +kernel
theorem dX6_heardIn_32 : decode cX6_heardIn 32 = .ok (.aaload, 1) := by decide +kernel
theorem dX6_heardIn_33 : decode cX6_heardIn 33 = .ok (.aload_n 0, 1) := by decide +kernel
theorem dX6_heardIn_34 : decode cX6_heardIn 34 = .ok (.getfield 17, 3) := by decide +kernel
theorem dX6_heardIn_37 : decode cX6_heardIn 37 = .ok (.iload_n 2, 1) := by decide +kernel
theorem dX6_heardIn_38 : decode cX6_heardIn 38 = .ok (.aaload, 1) := by decide +kernel
theorem dX6_heardIn_39 : decode cX6_heardIn 39 = .ok (.invokestatic 266, 3) := by decide +kernel
theorem dX6_heardIn_42 : decode cX6_heardIn 42 = .ok (.ireturn, 1) := by decide +kernel
theorem dX6_without_0 : decode cX6_without 0 = .ok (.aload_n 0, 1) := by decide +kernel
theorem dX6_without_1 : decode cX6_without 1 = .ok (.iload_n 1, 1) := by decide +kernel
theorem dX6_without_2 : decode cX6_without 2 = .ok (.invokevirtual 140, 3) := by decide +kernel
theorem dX6_without_5 : decode cX6_without 5 = .ok (.ifCond .ne 11, 3) := by decide +kernel
theorem dX6_without_8 : decode cX6_without 8 = .ok (.aload_n 0, 1) := by decide +kernel
theorem dX6_without_9 : decode cX6_without 9 = .ok (.iload_n 2, 1) := by decide +kernel
theorem dX6_without_10 : decode cX6_without 10 = .ok (.invokevirtual 59, 3) := by decide +kernel
theorem dX6_without_13 : decode cX6_without 13 = .ok (.ifCond .eq 13, 3) := by decide +kernel
theorem dX6_without_16 : decode cX6_without 16 = .ok (.new 63, 3) := by decide +kernel
theorem dX6_without_19 : decode cX6_without 19 = .ok (.dup, 1) := by decide +kernel
theorem dX6_without_20 : decode cX6_without 20 = .ok (.ldc 245, 2) := by decide +kernel
theorem dX6_without_22 : decode cX6_without 22 = .ok (.invokespecial 67, 3) := by decide +kernel
theorem dX6_without_25 : decode cX6_without 25 = .ok (.athrow, 1) := by decide +kernel
theorem dX6_without_26 : decode cX6_without 26 = .ok (.aload_n 0, 1) := by decide +kernel
theorem dX6_without_27 : decode cX6_without 27 = .ok (.aload_n 0, 1) := by decide +kernel
theorem dX6_without_28 : decode cX6_without 28 = .ok (.getfield 23, 3) := by decide +kernel
theorem dX6_without_31 : decode cX6_without 31 = .ok (.iload_n 1, 1) := by decide +kernel
theorem dX6_without_32 : decode cX6_without 32 = .ok (.aaload, 1) := by decide +kernel
theorem dX6_without_33 : decode cX6_without 33 = .ok (.iload_n 2, 1) := by decide +kernel
theorem dX6_without_34 : decode cX6_without 34 = .ok (.invokevirtual 270, 3) := by decide +kernel
theorem dX6_without_37 : decode cX6_without 37 = .ok (.aload_n 0, 1) := by decide +kernel
theorem dX6_without_38 : decode cX6_without 38 = .ok (.getfield 30, 3) := by decide +kernel
theorem dX6_without_41 : decode cX6_without 41 = .ok (.invokevirtual 223, 3) := by decide +kernel
theorem dX6_without_44 : decode cX6_without 44 = .ok (.aload_n 0, 1) := by decide +kernel
theorem dX6_without_45 : decode cX6_without 45 = .ok (.getfield 30, 3) := by decide +kernel
theorem dX6_without_48 : decode cX6_without 48 = .ok (.invokevirtual 274, 3) := by decide +kernel
theorem dX6_without_51 : decode cX6_without 51 = .ok (.ifCond .ne 5, 3) := by decide +kernel
theorem dX6_without_54 : decode cX6_without 54 = .ok (.iconst (-1), 1) := by decide +kernel
theorem dX6_without_55 : decode cX6_without 55 = .ok (.ireturn, 1) := by decide +kernel
theorem dX6_without_56 : decode cX6_without 56 = .ok (.bipush 100, 2) := by decide +kernel
theorem dX6_without_58 : decode cX6_without 58 = .ok (.aload_n 0, 1) := by decide +kernel
theorem dX6_without_59 : decode cX6_without 59 = .ok (.getfield 30, 3) := by decide +kernel
theorem dX6_without_62 : decode cX6_without 62 = .ok (.getfield 278, 3) := by decide +kernel
theorem dX6_without_65 : decode cX6_without 65 = .ok (.bipush 12, 2) := by decide +kernel
theorem dX6_without_67 : decode cX6_without 67 = .ok (.iadd, 1) := by decide +kernel
theorem dX6_without_68 : decode cX6_without 68 = .ok (.imul, 1) := by decide +kernel
theorem dX6_without_69 : decode cX6_without 69 = .ok (.aload_n 0, 1) := by decide +kernel
theorem dX6_without_70 : decode cX6_without 70 = .ok (.getfield 30, 3) := by decide +kernel
theorem dX6_without_73 : decode cX6_without 73 = .ok (.getfield 279, 3) := by decide +kernel
theorem dX6_without_76 : decode cX6_without 76 = .ok (.iadd, 1) := by decide +kernel
theorem dX6_without_77 : decode cX6_without 77 = .ok (.ireturn, 1) := by decide +kernel
theorem dX6_wouldAlarm_0 : decode cX6_wouldAlarm 0 = .ok (.aload_n 0, 1) := by decide +kernel
theorem dX6_wouldAlarm_1 : decode cX6_wouldAlarm 1 = .ok (.iload_n 1, 1) := by decide +kernel
theorem dX6_wouldAlarm_2 : decode cX6_wouldAlarm 2 = .ok (.invokevirtual 140, 3) := by decide +kernel
theorem dX6_wouldAlarm_5 : decode cX6_wouldAlarm 5 = .ok (.ifCond .eq 13, 3) := by decide +kernel
theorem dX6_wouldAlarm_8 : decode cX6_wouldAlarm 8 = .ok (.new 63, 3) := by decide +kernel
theorem dX6_wouldAlarm_11 : decode cX6_wouldAlarm 11 = .ok (.dup, 1) := by decide +kernel
theorem dX6_wouldAlarm_12 : decode cX6_wouldAlarm 12 = .ok (.ldc 143, 2) := by decide +kernel
theorem dX6_wouldAlarm_14 : decode cX6_wouldAlarm 14 = .ok (.invokespecial 67, 3) := by decide +kernel
theorem dX6_wouldAlarm_17 : decode cX6_wouldAlarm 17 = .ok (.athrow, 1) := by decide +kernel
theorem dX6_wouldAlarm_18 : decode cX6_wouldAlarm 18 = .ok (.aload_n 0, 1) := by decide +kernel
theorem dX6_wouldAlarm_19 : decode cX6_wouldAlarm 19 = .ok (.aload_n 0, 1) := by decide +kernel
theorem dX6_wouldAlarm_20 : decode cX6_wouldAlarm 20 = .ok (.getfield 23, 3) := by decide +kernel
theorem dX6_wouldAlarm_23 : decode cX6_wouldAlarm 23 = .ok (.iload_n 1, 1) := by decide +kernel
theorem dX6_wouldAlarm_24 : decode cX6_wouldAlarm 24 = .ok (.aaload, 1) := by decide +kernel
theorem dX6_wouldAlarm_25 : decode cX6_wouldAlarm 25 = .ok (.invokevirtual 280, 3) := by decide +kernel
theorem dX6_wouldAlarm_28 : decode cX6_wouldAlarm 28 = .ok (.ireturn, 1) := by decide +kernel
theorem dX6_digest_0 : decode cX6_digest 0 = .ok (.ldc2_w 284, 3) := by decide +kernel
theorem dX6_digest_3 : decode cX6_digest 3 = .ok (.lstore_n 1, 1) := by decide +kernel
theorem dX6_digest_4 : decode cX6_digest 4 = .ok (.iconst 0, 1) := by decide +kernel
theorem dX6_digest_5 : decode cX6_digest 5 = .ok (.istore_n 3, 1) := by decide +kernel
theorem dX6_digest_6 : decode cX6_digest 6 = .ok (.iload_n 3, 1) := by decide +kernel
theorem dX6_digest_7 : decode cX6_digest 7 = .ok (.bipush 8, 2) := by decide +kernel
theorem dX6_digest_9 : decode cX6_digest 9 = .ok (.if_icmp .gt 22, 3) := by decide +kernel
theorem dX6_digest_12 : decode cX6_digest 12 = .ok (.lload_n 1, 1) := by decide +kernel
theorem dX6_digest_13 : decode cX6_digest 13 = .ok (.ldc2_w 286, 3) := by decide +kernel
theorem dX6_digest_16 : decode cX6_digest 16 = .ok (.lmul, 1) := by decide +kernel
theorem dX6_digest_17 : decode cX6_digest 17 = .ok (.aload_n 0, 1) := by decide +kernel
theorem dX6_digest_18 : decode cX6_digest 18 = .ok (.iload_n 3, 1) := by decide +kernel
theorem dX6_digest_19 : decode cX6_digest 19 = .ok (.invokevirtual 257, 3) := by decide +kernel
theorem dX6_digest_22 : decode cX6_digest 22 = .ok (.i2l, 1) := by decide +kernel
theorem dX6_digest_23 : decode cX6_digest 23 = .ok (.ladd, 1) := by decide +kernel
theorem dX6_digest_24 : decode cX6_digest 24 = .ok (.lstore_n 1, 1) := by decide +kernel
theorem dX6_digest_25 : decode cX6_digest 25 = .ok (.iinc 3 1, 3) := by decide +kernel
theorem dX6_digest_28 : decode cX6_digest 28 = .ok (.goto (-22), 3) := by decide +kernel
theorem dX6_digest_31 : decode cX6_digest 31 = .ok (.iconst 0, 1) := by decide +kernel
theorem dX6_digest_32 : decode cX6_digest 32 = .ok (.istore_n 3, 1) := by decide +kernel
theorem dX6_digest_33 : decode cX6_digest 33 = .ok (.iload_n 3, 1) := by decide +kernel
theorem dX6_digest_34 : decode cX6_digest 34 = .ok (.aload_n 0, 1) := by decide +kernel
theorem dX6_digest_35 : decode cX6_digest 35 = .ok (.getfield 47, 3) := by decide +kernel
theorem dX6_digest_38 : decode cX6_digest 38 = .ok (.if_icmp .ge 21, 3) := by decide +kernel
theorem dX6_digest_41 : decode cX6_digest 41 = .ok (.aload_n 0, 1) := by decide +kernel
theorem dX6_digest_42 : decode cX6_digest 42 = .ok (.lload_n 1, 1) := by decide +kernel
theorem dX6_digest_43 : decode cX6_digest 43 = .ok (.aload_n 0, 1) := by decide +kernel
theorem dX6_digest_44 : decode cX6_digest 44 = .ok (.getfield 11, 3) := by decide +kernel
theorem dX6_digest_47 : decode cX6_digest 47 = .ok (.iload_n 3, 1) := by decide +kernel
theorem dX6_digest_48 : decode cX6_digest 48 = .ok (.aaload, 1) := by decide +kernel
theorem dX6_digest_49 : decode cX6_digest 49 = .ok (.invokevirtual 288, 3) := by decide +kernel
theorem dX6_digest_52 : decode cX6_digest 52 = .ok (.lstore_n 1, 1) := by decide +kernel
theorem dX6_digest_53 : decode cX6_digest 53 = .ok (.iinc 3 1, 3) := by decide +kernel
theorem dX6_digest_56 : decode cX6_digest 56 = .ok (.goto (-23), 3) := by decide +kernel
theorem dX6_digest_59 : decode cX6_digest 59 = .ok (.iconst 0, 1) := by decide +kernel
theorem dX6_digest_60 : decode cX6_digest 60 = .ok (.istore_n 3, 1) := by decide +kernel
theorem dX6_digest_61 : decode cX6_digest 61 = .ok (.iload_n 3, 1) := by decide +kernel
theorem dX6_digest_62 : decode cX6_digest 62 = .ok (.aload_n 0, 1) := by decide +kernel
theorem dX6_digest_63 : decode cX6_digest 63 = .ok (.getfield 132, 3) := by decide +kernel
theorem dX6_digest_66 : decode cX6_digest 66 = .ok (.if_icmp .ge 21, 3) := by decide +kernel
theorem dX6_digest_69 : decode cX6_digest 69 = .ok (.aload_n 0, 1) := by decide +kernel
theorem dX6_digest_70 : decode cX6_digest 70 = .ok (.lload_n 1, 1) := by decide +kernel
theorem dX6_digest_71 : decode cX6_digest 71 = .ok (.aload_n 0, 1) := by decide +kernel
theorem dX6_digest_72 : decode cX6_digest 72 = .ok (.getfield 23, 3) := by decide +kernel
theorem dX6_digest_75 : decode cX6_digest 75 = .ok (.iload_n 3, 1) := by decide +kernel
theorem dX6_digest_76 : decode cX6_digest 76 = .ok (.aaload, 1) := by decide +kernel
theorem dX6_digest_77 : decode cX6_digest 77 = .ok (.invokevirtual 292, 3) := by decide +kernel
theorem dX6_digest_80 : decode cX6_digest 80 = .ok (.lstore_n 1, 1) := by decide +kernel
theorem dX6_digest_81 : decode cX6_digest 81 = .ok (.iinc 3 1, 3) := by decide +kernel
theorem dX6_digest_84 : decode cX6_digest 84 = .ok (.goto (-23), 3) := by decide +kernel
theorem dX6_digest_87 : decode cX6_digest 87 = .ok (.aload_n 0, 1) := by decide +kernel
theorem dX6_digest_88 : decode cX6_digest 88 = .ok (.getfield 132, 3) := by decide +kernel
theorem dX6_digest_91 : decode cX6_digest 91 = .ok (.ifCond .le 21, 3) := by decide +kernel
theorem dX6_digest_94 : decode cX6_digest 94 = .ok (.lload_n 1, 1) := by decide +kernel
theorem dX6_digest_95 : decode cX6_digest 95 = .ok (.ldc2_w 286, 3) := by decide +kernel
theorem dX6_digest_98 : decode cX6_digest 98 = .ok (.lmul, 1) := by decide +kernel
theorem dX6_digest_99 : decode cX6_digest 99 = .ok (.aload_n 0, 1) := by decide +kernel
theorem dX6_digest_100 : decode cX6_digest 100 = .ok (.aload_n 0, 1) := by decide +kernel
theorem dX6_digest_101 : decode cX6_digest 101 = .ok (.getfield 23, 3) := by decide +kernel
theorem dX6_digest_104 : decode cX6_digest 104 = .ok (.iconst 0, 1) := by decide +kernel
theorem dX6_digest_105 : decode cX6_digest 105 = .ok (.aaload, 1) := by decide +kernel
theorem dX6_digest_106 : decode cX6_digest 106 = .ok (.invokevirtual 280, 3) := by decide +kernel
theorem dX6_digest_109 : decode cX6_digest 109 = .ok (.i2l, 1) := by decide +kernel
theorem dX6_digest_110 : decode cX6_digest 110 = .ok (.ladd, 1) := by decide +kernel
theorem dX6_digest_111 : decode cX6_digest 111 = .ok (.lstore_n 1, 1) := by decide +kernel
theorem dX6_digest_112 : decode cX6_digest 112 = .ok (.lload_n 1, 1) := by decide +kernel
theorem dX6_digest_113 : decode cX6_digest 113 = .ok (.lreturn, 1) := by decide +kernel
theorem dX6_isOutside_0 : decode cX6_isOutside 0 = .ok (.iload_n 0, 1) := by decide +kernel
theorem dX6_isOutside_1 : decode cX6_isOutside 1 = .ok (.iload_n 1, 1) := by decide +kernel
theorem dX6_isOutside_2 : decode cX6_isOutside 2 = .ok (.if_icmp .lt 8, 3) := by decide +kernel
theorem dX6_isOutside_5 : decode cX6_isOutside 5 = .ok (.iload_n 0, 1) := by decide +kernel
theorem dX6_isOutside_6 : decode cX6_isOutside 6 = .ok (.iload_n 2, 1) := by decide +kernel
theorem dX6_isOutside_7 : decode cX6_isOutside 7 = .ok (.if_icmp .le 7, 3) := by decide +kernel
theorem dX6_isOutside_10 : decode cX6_isOutside 10 = .ok (.iconst 1, 1) := by decide +kernel
theorem dX6_isOutside_11 : decode cX6_isOutside 11 = .ok (.goto 4, 3) := by decide +kernel
theorem dX6_isOutside_14 : decode cX6_isOutside 14 = .ok (.iconst 0, 1) := by decide +kernel
theorem dX6_isOutside_15 : decode cX6_isOutside 15 = .ok (.ireturn, 1) := by decide +kernel
theorem dX6_isNoPlace_0 : decode cX6_isNoPlace 0 = .ok (.iload_n 0, 1) := by decide +kernel
theorem dX6_isNoPlace_1 : decode cX6_isNoPlace 1 = .ok (.bipush (-12), 2) := by decide +kernel
theorem dX6_isNoPlace_3 : decode cX6_isNoPlace 3 = .ok (.bipush 12, 2) := by decide +kernel
theorem dX6_isNoPlace_5 : decode cX6_isNoPlace 5 = .ok (.invokestatic 34, 3) := by decide +kernel
theorem dX6_isNoPlace_8 : decode cX6_isNoPlace 8 = .ok (.ifCond .ne 13, 3) := by decide +kernel
theorem dX6_isNoPlace_11 : decode cX6_isNoPlace 11 = .ok (.iload_n 1, 1) := by decide +kernel
theorem dX6_isNoPlace_12 : decode cX6_isNoPlace 12 = .ok (.iconst 0, 1) := by decide +kernel
theorem dX6_isNoPlace_13 : decode cX6_isNoPlace 13 = .ok (.bipush 12, 2) := by decide +kernel
theorem dX6_isNoPlace_15 : decode cX6_isNoPlace 15 = .ok (.invokestatic 34, 3) := by decide +kernel
theorem dX6_isNoPlace_18 : decode cX6_isNoPlace 18 = .ok (.ifCond .eq 7, 3) := by decide +kernel
theorem dX6_isNoPlace_21 : decode cX6_isNoPlace 21 = .ok (.iconst 1, 1) := by decide +kernel
theorem dX6_isNoPlace_22 : decode cX6_isNoPlace 22 = .ok (.goto 4, 3) := by decide +kernel
theorem dX6_isNoPlace_25 : decode cX6_isNoPlace 25 = .ok (.iconst 0, 1) := by decide +kernel
theorem dX6_isNoPlace_26 : decode cX6_isNoPlace 26 = .ok (.ireturn, 1) := by decide +kernel
theorem dX6_isNoStar_0 : decode cX6_isNoStar 0 = .ok (.iload_n 1, 1) := by decide +kernel
theorem dX6_isNoStar_1 : decode cX6_isNoStar 1 = .ok (.iconst 0, 1) := by decide +kernel
theorem dX6_isNoStar_2 : decode cX6_isNoStar 2 = .ok (.aload_n 0, 1) := by decide +kernel
theorem dX6_isNoStar_3 : decode cX6_isNoStar 3 = .ok (.getfield 47, 3) := by decide +kernel
theorem dX6_isNoStar_6 : decode cX6_isNoStar 6 = .ok (.iconst 1, 1) := by decide +kernel
theorem dX6_isNoStar_7 : decode cX6_isNoStar 7 = .ok (.isub, 1) := by decide +kernel
theorem dX6_isNoStar_8 : decode cX6_isNoStar 8 = .ok (.invokestatic 34, 3) := by decide +kernel
theorem dX6_isNoStar_11 : decode cX6_isNoStar 11 = .ok (.ireturn, 1) := by decide +kernel
theorem dX6_isNoStation_0 : decode cX6_isNoStation 0 = .ok (.iload_n 1, 1) := by decide +kernel
theorem dX6_isNoStation_1 : decode cX6_isNoStation 1 = .ok (.iconst 0, 1) := by decide +kernel
theorem dX6_isNoStation_2 : decode cX6_isNoStation 2 = .ok (.aload_n 0, 1) := by decide +kernel
theorem dX6_isNoStation_3 : decode cX6_isNoStation 3 = .ok (.getfield 95, 3) := by decide +kernel
theorem dX6_isNoStation_6 : decode cX6_isNoStation 6 = .ok (.iconst 1, 1) := by decide +kernel
theorem dX6_isNoStation_7 : decode cX6_isNoStation 7 = .ok (.isub, 1) := by decide +kernel
theorem dX6_isNoStation_8 : decode cX6_isNoStation 8 = .ok (.invokestatic 34, 3) := by decide +kernel
theorem dX6_isNoStation_11 : decode cX6_isNoStation 11 = .ok (.ireturn, 1) := by decide +kernel
theorem dX6_isNoReceiver_0 : decode cX6_isNoReceiver 0 = .ok (.iload_n 1, 1) := by decide +kernel
theorem dX6_isNoReceiver_1 : decode cX6_isNoReceiver 1 = .ok (.iconst 0, 1) := by decide +kernel
theorem dX6_isNoReceiver_2 : decode cX6_isNoReceiver 2 = .ok (.aload_n 0, 1) := by decide +kernel
theorem dX6_isNoReceiver_3 : decode cX6_isNoReceiver 3 = .ok (.getfield 132, 3) := by decide +kernel
theorem dX6_isNoReceiver_6 : decode cX6_isNoReceiver 6 = .ok (.iconst 1, 1) := by decide +kernel
theorem dX6_isNoReceiver_7 : decode cX6_isNoReceiver 7 = .ok (.isub, 1) := by decide +kernel
theorem dX6_isNoReceiver_8 : decode cX6_isNoReceiver 8 = .ok (.invokestatic 34, 3) := by decide +kernel
theorem dX6_isNoReceiver_11 : decode cX6_isNoReceiver 11 = .ok (.ireturn, 1) := by decide +kernel
theorem dX6_held_0 : decode cX6_held 0 = .ok (.iload_n 1, 1) := by decide +kernel
theorem dX6_held_1 : decode cX6_held 1 = .ok (.ineg, 1) := by decide +kernel
theorem dX6_held_2 : decode cX6_held 2 = .ok (.iload_n 1, 1) := by decide +kernel
theorem dX6_held_3 : decode cX6_held 3 = .ok (.iload_n 0, 1) := by decide +kernel
theorem dX6_held_4 : decode cX6_held 4 = .ok (.invokestatic 296, 3) := by decide +kernel
theorem dX6_held_7 : decode cX6_held 7 = .ok (.invokestatic 299, 3) := by decide +kernel
theorem dX6_held_10 : decode cX6_held 10 = .ok (.ireturn, 1) := by decide +kernel
theorem dX6_rangeOf_0 : decode cX6_rangeOf 0 = .ok (.iload_n 0, 1) := by decide +kernel
theorem dX6_rangeOf_1 : decode cX6_rangeOf 1 = .ok (.iload_n 2, 1) := by decide +kernel
theorem dX6_rangeOf_2 : decode cX6_rangeOf 2 = .ok (.isub, 1) := by decide +kernel
theorem dX6_rangeOf_3 : decode cX6_rangeOf 3 = .ok (.invokestatic 302, 3) := by decide +kernel
theorem dX6_rangeOf_6 : decode cX6_rangeOf 6 = .ok (.iload_n 1, 1) := by decide +kernel
theorem dX6_rangeOf_7 : decode cX6_rangeOf 7 = .ok (.iload_n 3, 1) := by decide +kernel
theorem dX6_rangeOf_8 : decode cX6_rangeOf 8 = .ok (.isub, 1) := by decide +kernel
theorem dX6_rangeOf_9 : decode cX6_rangeOf 9 = .ok (.invokestatic 302, 3) := by decide +kernel
theorem dX6_rangeOf_12 : decode cX6_rangeOf 12 = .ok (.invokestatic 299, 3) := by decide +kernel
theorem dX6_rangeOf_15 : decode cX6_rangeOf 15 = .ok (.ireturn, 1) := by decide +kernel
theorem dX6_swing_0 : decode cX6_swing 0 = .ok (.iload_n 0, 1) := by decide +kernel
theorem dX6_swing_1 : decode cX6_swing 1 = .ok (.bipush 48, 2) := by decide +kernel
theorem dX6_swing_3 : decode cX6_swing 3 = .ok (.irem, 1) := by decide +kernel
theorem dX6_swing_4 : decode cX6_swing 4 = .ok (.istore_n 1, 1) := by decide +kernel
theorem dX6_swing_5 : decode cX6_swing 5 = .ok (.iload_n 1, 1) := by decide +kernel
theorem dX6_swing_6 : decode cX6_swing 6 = .ok (.ifCond .ge 6, 3) := by decide +kernel
theorem dX6_swing_9 : decode cX6_swing 9 = .ok (.iinc 1 48, 3) := by decide +kernel
theorem dX6_swing_12 : decode cX6_swing 12 = .ok (.iload_n 1, 1) := by decide +kernel
theorem dX6_swing_13 : decode cX6_swing 13 = .ok (.bipush 12, 2) := by decide +kernel
theorem dX6_swing_15 : decode cX6_swing 15 = .ok (.if_icmp .gt 5, 3) := by decide +kernel
theorem dX6_swing_18 : decode cX6_swing 18 = .ok (.iload_n 1, 1) := by decide +kernel
theorem dX6_swing_19 : decode cX6_swing 19 = .ok (.ireturn, 1) := by decide +kernel
theorem dX6_swing_20 : decode cX6_swing 20 = .ok (.iload_n 1, 1) := by decide +kernel
theorem dX6_swing_21 : decode cX6_swing 21 = .ok (.bipush 36, 2) := by decide +kernel
theorem dX6_swing_23 : decode cX6_swing 23 = .ok (.if_icmp .gt 10, 3) := by decide +kernel
theorem dX6_swing_26 : decode cX6_swing 26 = .ok (.bipush 24, 2) := by decide +kernel
theorem dX6_swing_28 : decode cX6_swing 28 = .ok (.iload_n 1, 1) := by decide +kernel
theorem dX6_swing_29 : decode cX6_swing 29 = .ok (.isub, 1) := by decide +kernel
theorem dX6_swing_30 : decode cX6_swing 30 = .ok (.goto 7, 3) := by decide +kernel
theorem dX6_swing_33 : decode cX6_swing 33 = .ok (.iload_n 1, 1) := by decide +kernel
theorem dX6_swing_34 : decode cX6_swing 34 = .ok (.bipush 48, 2) := by decide +kernel
theorem dX6_swing_36 : decode cX6_swing 36 = .ok (.isub, 1) := by decide +kernel
theorem dX6_swing_37 : decode cX6_swing 37 = .ok (.ireturn, 1) := by decide +kernel
theorem dX6_passOne_0 : decode cX6_passOne 0 = .ok (.aload_n 0, 1) := by decide +kernel
theorem dX6_passOne_1 : decode cX6_passOne 1 = .ok (.dup, 1) := by decide +kernel
theorem dX6_passOne_2 : decode cX6_passOne 2 = .ok (.getfield 114, 3) := by decide +kernel
theorem dX6_passOne_5 : decode cX6_passOne 5 = .ok (.iconst 1, 1) := by decide +kernel
theorem dX6_passOne_6 : decode cX6_passOne 6 = .ok (.iadd, 1) := by decide +kernel
theorem dX6_passOne_7 : decode cX6_passOne 7 = .ok (.putfield 114, 3) := by decide +kernel
theorem dX6_passOne_10 : decode cX6_passOne 10 = .ok (.iconst 0, 1) := by decide +kernel
theorem dX6_passOne_11 : decode cX6_passOne 11 = .ok (.istore_n 1, 1) := by decide +kernel
theorem dX6_passOne_12 : decode cX6_passOne 12 = .ok (.iload_n 1, 1) := by decide +kernel
theorem dX6_passOne_13 : decode cX6_passOne 13 = .ok (.aload_n 0, 1) := by decide +kernel
theorem dX6_passOne_14 : decode cX6_passOne 14 = .ok (.getfield 47, 3) := by decide +kernel
theorem dX6_passOne_17 : decode cX6_passOne 17 = .ok (.if_icmp .ge 18, 3) := by decide +kernel
theorem dX6_passOne_20 : decode cX6_passOne 20 = .ok (.aload_n 0, 1) := by decide +kernel
theorem dX6_passOne_21 : decode cX6_passOne 21 = .ok (.getfield 11, 3) := by decide +kernel
theorem dX6_passOne_24 : decode cX6_passOne 24 = .ok (.iload_n 1, 1) := by decide +kernel
theorem dX6_passOne_25 : decode cX6_passOne 25 = .ok (.aaload, 1) := by decide +kernel
theorem dX6_passOne_26 : decode cX6_passOne 26 = .ok (.invokevirtual 305, 3) := by decide +kernel
theorem dX6_passOne_29 : decode cX6_passOne 29 = .ok (.iinc 1 1, 3) := by decide +kernel
theorem dX6_passOne_32 : decode cX6_passOne 32 = .ok (.goto (-20), 3) := by decide +kernel
theorem dX6_passOne_35 : decode cX6_passOne 35 = .ok (.return_, 1) := by decide +kernel
theorem dX6_setSeen_0 : decode cX6_setSeen 0 = .ok (.iconst 0, 1) := by decide +kernel
theorem dX6_setSeen_1 : decode cX6_setSeen 1 = .ok (.istore_n 3, 1) := by decide +kernel
theorem dX6_setSeen_2 : decode cX6_setSeen 2 = .ok (.iconst 0, 1) := by decide +kernel
theorem dX6_setSeen_3 : decode cX6_setSeen 3 = .ok (.istore 4, 2) := by decide +kernel
theorem dX6_setSeen_5 : decode cX6_setSeen 5 = .ok (.iload 4, 2) := by decide +kernel
theorem dX6_setSeen_7 : decode cX6_setSeen 7 = .ok (.aload_n 0, 1) := by decide +kernel
theorem dX6_setSeen_8 : decode cX6_setSeen 8 = .ok (.getfield 47, 3) := by decide +kernel
theorem dX6_setSeen_11 : decode cX6_setSeen 11 = .ok (.if_icmp .ge 31, 3) := by decide +kernel
theorem dX6_setSeen_14 : decode cX6_setSeen 14 = .ok (.aload_n 1, 1) := by decide +kernel
theorem dX6_setSeen_15 : decode cX6_setSeen 15 = .ok (.aload_n 0, 1) := by decide +kernel
theorem dX6_setSeen_16 : decode cX6_setSeen 16 = .ok (.getfield 11, 3) := by decide +kernel
theorem dX6_setSeen_19 : decode cX6_setSeen 19 = .ok (.iload 4, 2) := by decide +kernel
theorem dX6_setSeen_21 : decode cX6_setSeen 21 = .ok (.aaload, 1) := by decide +kernel
theorem dX6_setSeen_22 : decode cX6_setSeen 22 = .ok (.iload_n 2, 1) := by decide +kernel
theorem dX6_setSeen_23 : decode cX6_setSeen 23 = .ok (.invokevirtual 306, 3) := by decide +kernel
theorem dX6_setSeen_26 : decode cX6_setSeen 26 = .ok (.ifCond .eq 10, 3) := by decide +kernel
theorem dX6_setSeen_29 : decode cX6_setSeen 29 = .ok (.iload_n 3, 1) := by decide +kernel
theorem dX6_setSeen_30 : decode cX6_setSeen 30 = .ok (.iconst 1, 1) := by decide +kernel
theorem dX6_setSeen_31 : decode cX6_setSeen 31 = .ok (.iload 4, 2) := by decide +kernel
theorem dX6_setSeen_33 : decode cX6_setSeen 33 = .ok (.ishl, 1) := by decide +kernel
theorem dX6_setSeen_34 : decode cX6_setSeen 34 = .ok (.ior, 1) := by decide +kernel
theorem dX6_setSeen_35 : decode cX6_setSeen 35 = .ok (.istore_n 3, 1) := by decide +kernel
theorem dX6_setSeen_36 : decode cX6_setSeen 36 = .ok (.iinc 4 1, 3) := by decide +kernel
theorem dX6_setSeen_39 : decode cX6_setSeen 39 = .ok (.goto (-34), 3) := by decide +kernel
theorem dX6_setSeen_42 : decode cX6_setSeen 42 = .ok (.iload_n 3, 1) := by decide +kernel
theorem dX6_setSeen_43 : decode cX6_setSeen 43 = .ok (.ireturn, 1) := by decide +kernel
theorem dX6_firstHeard_0 : decode cX6_firstHeard 0 = .ok (.iconst 0, 1) := by decide +kernel
theorem dX6_firstHeard_1 : decode cX6_firstHeard 1 = .ok (.istore_n 2, 1) := by decide +kernel
theorem dX6_firstHeard_2 : decode cX6_firstHeard 2 = .ok (.iload_n 2, 1) := by decide +kernel
theorem dX6_firstHeard_3 : decode cX6_firstHeard 3 = .ok (.bipush 48, 2) := by decide +kernel
theorem dX6_firstHeard_5 : decode cX6_firstHeard 5 = .ok (.if_icmp .gt 20, 3) := by decide +kernel
theorem dX6_firstHeard_8 : decode cX6_firstHeard 8 = .ok (.aload_n 1, 1) := by decide +kernel
theorem dX6_firstHeard_9 : decode cX6_firstHeard 9 = .ok (.aload_n 0, 1) := by decide +kernel
theorem dX6_firstHeard_10 : decode cX6_firstHeard 10 = .ok (.iload_n 2, 1) := by decide +kernel
theorem dX6_firstHeard_11 : decode cX6_firstHeard 11 = .ok (.invokevirtual 108, 3) := by decide +kernel
theorem dX6_firstHeard_14 : decode cX6_firstHeard 14 = .ok (.ifCond .eq 5, 3) := by decide +kernel
theorem dX6_firstHeard_17 : decode cX6_firstHeard 17 = .ok (.iload_n 2, 1) := by decide +kernel
theorem dX6_firstHeard_18 : decode cX6_firstHeard 18 = .ok (.ireturn, 1) := by decide +kernel
theorem dX6_firstHeard_19 : decode cX6_firstHeard 19 = .ok (.iinc 2 1, 3) := by decide +kernel
theorem dX6_firstHeard_22 : decode cX6_firstHeard 22 = .ok (.goto (-20), 3) := by decide +kernel
theorem dX6_firstHeard_25 : decode cX6_firstHeard 25 = .ok (.iconst (-1), 1) := by decide +kernel
theorem dX6_firstHeard_26 : decode cX6_firstHeard 26 = .ok (.ireturn, 1) := by decide +kernel
theorem dX6_measure_0 : decode cX6_measure 0 = .ok (.aload_n 1, 1) := by decide +kernel
theorem dX6_measure_1 : decode cX6_measure 1 = .ok (.getfield 202, 3) := by decide +kernel
theorem dX6_measure_4 : decode cX6_measure 4 = .ok (.aload_n 0, 1) := by decide +kernel
theorem dX6_measure_5 : decode cX6_measure 5 = .ok (.getfield 114, 3) := by decide +kernel
theorem dX6_measure_8 : decode cX6_measure 8 = .ok (.iconst 1, 1) := by decide +kernel
theorem dX6_measure_9 : decode cX6_measure 9 = .ok (.isub, 1) := by decide +kernel
theorem dX6_measure_10 : decode cX6_measure 10 = .ok (.invokevirtual 206, 3) := by decide +kernel
theorem dX6_measure_13 : decode cX6_measure 13 = .ok (.istore_n 2, 1) := by decide +kernel
theorem dX6_measure_14 : decode cX6_measure 14 = .ok (.iconst 0, 1) := by decide +kernel
theorem dX6_measure_15 : decode cX6_measure 15 = .ok (.istore_n 3, 1) := by decide +kernel
theorem dX6_measure_16 : decode cX6_measure 16 = .ok (.iload_n 3, 1) := by decide +kernel
theorem dX6_measure_17 : decode cX6_measure 17 = .ok (.aload_n 0, 1) := by decide +kernel
theorem dX6_measure_18 : decode cX6_measure 18 = .ok (.getfield 47, 3) := by decide +kernel
theorem dX6_measure_21 : decode cX6_measure 21 = .ok (.if_icmp .ge 70, 3) := by decide +kernel
theorem dX6_measure_24 : decode cX6_measure 24 = .ok (.aload_n 1, 1) := by decide +kernel
theorem dX6_measure_25 : decode cX6_measure 25 = .ok (.getfield 247, 3) := by decide +kernel
theorem dX6_measure_28 : decode cX6_measure 28 = .ok (.iload_n 3, 1) := by decide +kernel
theorem dX6_measure_29 : decode cX6_measure 29 = .ok (.aaload, 1) := by decide +kernel
theorem dX6_measure_30 : decode cX6_measure 30 = .ok (.astore 4, 2) := by decide +kernel
theorem dX6_measure_32 : decode cX6_measure 32 = .ok (.aload_n 1, 1) := by decide +kernel
theorem dX6_measure_33 : decode cX6_measure 33 = .ok (.aload_n 0, 1) := by decide +kernel
theorem dX6_measure_34 : decode cX6_measure 34 = .ok (.getfield 11, 3) := by decide +kernel
theorem dX6_measure_37 : decode cX6_measure 37 = .ok (.iload_n 3, 1) := by decide +kernel
theorem dX6_measure_38 : decode cX6_measure 38 = .ok (.aaload, 1) := by decide +kernel
theorem dX6_measure_39 : decode cX6_measure 39 = .ok (.iconst 0, 1) := by decide +kernel
theorem dX6_measure_40 : decode cX6_measure 40 = .ok (.invokevirtual 306, 3) := by decide +kernel
theorem dX6_measure_43 : decode cX6_measure 43 = .ok (.ifCond .eq 37, 3) := by decide +kernel
theorem dX6_measure_46 : decode cX6_measure 46 = .ok (.aload_n 1, 1) := by decide +kernel
theorem dX6_measure_47 : decode cX6_measure 47 = .ok (.aload_n 0, 1) := by decide +kernel
theorem dX6_measure_48 : decode cX6_measure 48 = .ok (.getfield 11, 3) := by decide +kernel
theorem dX6_measure_51 : decode cX6_measure 51 = .ok (.iload_n 3, 1) := by decide +kernel
theorem dX6_measure_52 : decode cX6_measure 52 = .ok (.aaload, 1) := by decide +kernel
theorem dX6_measure_53 : decode cX6_measure 53 = .ok (.invokevirtual 309, 3) := by decide +kernel
theorem dX6_measure_56 : decode cX6_measure 56 = .ok (.istore 5, 2) := by decide +kernel
theorem dX6_measure_58 : decode cX6_measure 58 = .ok (.aload 4, 2) := by decide +kernel
theorem dX6_measure_60 : decode cX6_measure 60 = .ok (.aload_n 0, 1) := by decide +kernel
theorem dX6_measure_61 : decode cX6_measure 61 = .ok (.aload_n 1, 1) := by decide +kernel
theorem dX6_measure_62 : decode cX6_measure 62 = .ok (.iload_n 3, 1) := by decide +kernel
theorem dX6_measure_63 : decode cX6_measure 63 = .ok (.invokevirtual 313, 3) := by decide +kernel
theorem dX6_measure_66 : decode cX6_measure 66 = .ok (.iload 5, 2) := by decide +kernel
theorem dX6_measure_68 : decode cX6_measure 68 = .ok (.bipush 10, 2) := by decide +kernel
theorem dX6_measure_70 : decode cX6_measure 70 = .ok (.invokestatic 73, 3) := by decide +kernel
theorem dX6_measure_73 : decode cX6_measure 73 = .ok (.iload_n 2, 1) := by decide +kernel
theorem dX6_measure_74 : decode cX6_measure 74 = .ok (.invokevirtual 316, 3) := by decide +kernel
theorem dX6_measure_77 : decode cX6_measure 77 = .ok (.goto 8, 3) := by decide +kernel
theorem dX6_measure_80 : decode cX6_measure 80 = .ok (.aload 4, 2) := by decide +kernel
theorem dX6_measure_82 : decode cX6_measure 82 = .ok (.invokevirtual 320, 3) := by decide +kernel
theorem dX6_measure_85 : decode cX6_measure 85 = .ok (.iinc 3 1, 3) := by decide +kernel
theorem dX6_measure_88 : decode cX6_measure 88 = .ok (.goto (-72), 3) := by decide +kernel
theorem dX6_measure_91 : decode cX6_measure 91 = .ok (.return_, 1) := by decide +kernel
theorem dX6_codeOf_0 : decode cX6_codeOf 0 = .ok (.bipush 7, 2) := by decide +kernel
theorem dX6_codeOf_2 : decode cX6_codeOf 2 = .ok (.aload_n 0, 1) := by decide +kernel
theorem dX6_codeOf_3 : decode cX6_codeOf 3 = .ok (.getfield 114, 3) := by decide +kernel
theorem dX6_codeOf_6 : decode cX6_codeOf 6 = .ok (.imul, 1) := by decide +kernel
theorem dX6_codeOf_7 : decode cX6_codeOf 7 = .ok (.iconst 3, 1) := by decide +kernel
theorem dX6_codeOf_8 : decode cX6_codeOf 8 = .ok (.iload_n 2, 1) := by decide +kernel
theorem dX6_codeOf_9 : decode cX6_codeOf 9 = .ok (.imul, 1) := by decide +kernel
theorem dX6_codeOf_10 : decode cX6_codeOf 10 = .ok (.iadd, 1) := by decide +kernel
theorem dX6_codeOf_11 : decode cX6_codeOf 11 = .ok (.iconst 2, 1) := by decide +kernel
theorem dX6_codeOf_12 : decode cX6_codeOf 12 = .ok (.aload_n 1, 1) := by decide +kernel
theorem dX6_codeOf_13 : decode cX6_codeOf 13 = .ok (.getfield 323, 3) := by decide +kernel
theorem dX6_codeOf_16 : decode cX6_codeOf 16 = .ok (.imul, 1) := by decide +kernel
theorem dX6_codeOf_17 : decode cX6_codeOf 17 = .ok (.iadd, 1) := by decide +kernel
theorem dX6_codeOf_18 : decode cX6_codeOf 18 = .ok (.iconst 5, 1) := by decide +kernel
theorem dX6_codeOf_19 : decode cX6_codeOf 19 = .ok (.invokestatic 73, 3) := by decide +kernel
theorem dX6_codeOf_22 : decode cX6_codeOf 22 = .ok (.iconst 2, 1) := by decide +kernel
theorem dX6_codeOf_23 : decode cX6_codeOf 23 = .ok (.isub, 1) := by decide +kernel
theorem dX6_codeOf_24 : decode cX6_codeOf 24 = .ok (.istore_n 3, 1) := by decide +kernel
theorem dX6_codeOf_25 : decode cX6_codeOf 25 = .ok (.aload_n 1, 1) := by decide +kernel
theorem dX6_codeOf_26 : decode cX6_codeOf 26 = .ok (.aload_n 0, 1) := by decide +kernel
theorem dX6_codeOf_27 : decode cX6_codeOf 27 = .ok (.getfield 11, 3) := by decide +kernel
theorem dX6_codeOf_30 : decode cX6_codeOf 30 = .ok (.iload_n 2, 1) := by decide +kernel
theorem dX6_codeOf_31 : decode cX6_codeOf 31 = .ok (.aaload, 1) := by decide +kernel
theorem dX6_codeOf_32 : decode cX6_codeOf 32 = .ok (.invokevirtual 309, 3) := by decide +kernel
theorem dX6_codeOf_35 : decode cX6_codeOf 35 = .ok (.aload_n 1, 1) := by decide +kernel
theorem dX6_codeOf_36 : decode cX6_codeOf 36 = .ok (.aload_n 0, 1) := by decide +kernel
theorem dX6_codeOf_37 : decode cX6_codeOf 37 = .ok (.getfield 11, 3) := by decide +kernel
theorem dX6_codeOf_40 : decode cX6_codeOf 40 = .ok (.iload_n 2, 1) := by decide +kernel
theorem dX6_codeOf_41 : decode cX6_codeOf 41 = .ok (.aaload, 1) := by decide +kernel
theorem dX6_codeOf_42 : decode cX6_codeOf 42 = .ok (.invokevirtual 326, 3) := by decide +kernel
theorem dX6_codeOf_45 : decode cX6_codeOf 45 = .ok (.iadd, 1) := by decide +kernel
theorem dX6_codeOf_46 : decode cX6_codeOf 46 = .ok (.iload_n 3, 1) := by decide +kernel
theorem dX6_codeOf_47 : decode cX6_codeOf 47 = .ok (.iadd, 1) := by decide +kernel
theorem dX6_codeOf_48 : decode cX6_codeOf 48 = .ok (.ireturn, 1) := by decide +kernel
theorem dX6_gatherMeasured_0 : decode cX6_gatherMeasured 0 = .ok (.aload_n 0, 1) := by decide +kernel
theorem dX6_gatherMeasured_1 : decode cX6_gatherMeasured 1 = .ok (.getfield 30, 3) := by decide +kernel
theorem dX6_gatherMeasured_4 : decode cX6_gatherMeasured 4 = .ok (.invokevirtual 329, 3) := by decide +kernel
theorem dX6_gatherMeasured_7 : decode cX6_gatherMeasured 7 = .ok (.iconst 0, 1) := by decide +kernel
theorem dX6_gatherMeasured_8 : decode cX6_gatherMeasured 8 = .ok (.istore_n 2, 1) := by decide +kernel
theorem dX6_gatherMeasured_9 : decode cX6_gatherMeasured 9 = .ok (.iload_n 2, 1) := by decide +kernel
theorem dX6_gatherMeasured_10 : decode cX6_gatherMeasured 10 = .ok (.aload_n 0, 1) := by decide +kernel
theorem dX6_gatherMeasured_11 : decode cX6_gatherMeasured 11 = .ok (.getfield 47, 3) := by decide +kernel
theorem dX6_gatherMeasured_14 : decode cX6_gatherMeasured 14 = .ok (.if_icmp .ge 77, 3) := by decide +kernel
theorem dX6_gatherMeasured_17 : decode cX6_gatherMeasured 17 = .ok (.aload_n 1, 1) := by decide +kernel
theorem dX6_gatherMeasured_18 : decode cX6_gatherMeasured 18 = .ok (.getfield 247, 3) := by decide +kernel
theorem dX6_gatherMeasured_21 : decode cX6_gatherMeasured 21 = .ok (.iload_n 2, 1) := by decide +kernel
theorem dX6_gatherMeasured_22 : decode cX6_gatherMeasured 22 = .ok (.aaload, 1) := by decide +kernel
theorem dX6_gatherMeasured_23 : decode cX6_gatherMeasured 23 = .ok (.astore_n 3, 1) := by decide +kernel
theorem dX6_gatherMeasured_24 : decode cX6_gatherMeasured 24 = .ok (.aload_n 3, 1) := by decide +kernel
theorem dX6_gatherMeasured_25 : decode cX6_gatherMeasured 25 = .ok (.getfield 332, 3) := by decide +kernel
theorem dX6_gatherMeasured_28 : decode cX6_gatherMeasured 28 = .ok (.ifCond .eq 57, 3) := by decide +kernel
theorem dX6_gatherMeasured_31 : decode cX6_gatherMeasured 31 = .ok (.aload_n 0, 1) := by decide +kernel
theorem dX6_gatherMeasured_32 : decode cX6_gatherMeasured 32 = .ok (.getfield 11, 3) := by decide +kernel
theorem dX6_gatherMeasured_35 : decode cX6_gatherMeasured 35 = .ok (.iload_n 2, 1) := by decide +kernel
theorem dX6_gatherMeasured_36 : decode cX6_gatherMeasured 36 = .ok (.aaload, 1) := by decide +kernel
theorem dX6_gatherMeasured_37 : decode cX6_gatherMeasured 37 = .ok (.aload_n 0, 1) := by decide +kernel
theorem dX6_gatherMeasured_38 : decode cX6_gatherMeasured 38 = .ok (.getfield 114, 3) := by decide +kernel
theorem dX6_gatherMeasured_41 : decode cX6_gatherMeasured 41 = .ok (.invokevirtual 335, 3) := by decide +kernel
theorem dX6_gatherMeasured_44 : decode cX6_gatherMeasured 44 = .ok (.ifCond .eq 41, 3) := by decide +kernel
theorem dX6_gatherMeasured_47 : decode cX6_gatherMeasured 47 = .ok (.aload_n 3, 1) := by decide +kernel
theorem dX6_gatherMeasured_48 : decode cX6_gatherMeasured 48 = .ok (.iconst 1, 1) := by decide +kernel
theorem dX6_gatherMeasured_49 : decode cX6_gatherMeasured 49 = .ok (.putfield 338, 3) := by decide +kernel
theorem dX6_gatherMeasured_52 : decode cX6_gatherMeasured 52 = .ok (.aload_n 3, 1) := by decide +kernel
theorem dX6_gatherMeasured_53 : decode cX6_gatherMeasured 53 = .ok (.aload_n 0, 1) := by decide +kernel
theorem dX6_gatherMeasured_54 : decode cX6_gatherMeasured 54 = .ok (.aload_n 1, 1) := by decide +kernel
theorem dX6_gatherMeasured_55 : decode cX6_gatherMeasured 55 = .ok (.iload_n 2, 1) := by decide +kernel
theorem dX6_gatherMeasured_56 : decode cX6_gatherMeasured 56 = .ok (.invokevirtual 341, 3) := by decide +kernel
theorem dX6_gatherMeasured_59 : decode cX6_gatherMeasured 59 = .ok (.putfield 344, 3) := by decide +kernel
theorem dX6_gatherMeasured_62 : decode cX6_gatherMeasured 62 = .ok (.aload_n 0, 1) := by decide +kernel
theorem dX6_gatherMeasured_63 : decode cX6_gatherMeasured 63 = .ok (.aload_n 0, 1) := by decide +kernel
theorem dX6_gatherMeasured_64 : decode cX6_gatherMeasured 64 = .ok (.getfield 11, 3) := by decide +kernel
theorem dX6_gatherMeasured_67 : decode cX6_gatherMeasured 67 = .ok (.iload_n 2, 1) := by decide +kernel
theorem dX6_gatherMeasured_68 : decode cX6_gatherMeasured 68 = .ok (.aaload, 1) := by decide +kernel
theorem dX6_gatherMeasured_69 : decode cX6_gatherMeasured 69 = .ok (.aload_n 3, 1) := by decide +kernel
theorem dX6_gatherMeasured_70 : decode cX6_gatherMeasured 70 = .ok (.invokevirtual 347, 3) := by decide +kernel
theorem dX6_gatherMeasured_73 : decode cX6_gatherMeasured 73 = .ok (.aload_n 3, 1) := by decide +kernel
theorem dX6_gatherMeasured_74 : decode cX6_gatherMeasured 74 = .ok (.getfield 344, 3) := by decide +kernel
theorem dX6_gatherMeasured_77 : decode cX6_gatherMeasured 77 = .ok (.isub, 1) := by decide +kernel
theorem dX6_gatherMeasured_78 : decode cX6_gatherMeasured 78 = .ok (.aload_n 3, 1) := by decide +kernel
theorem dX6_gatherMeasured_79 : decode cX6_gatherMeasured 79 = .ok (.getfield 351, 3) := by decide +kernel
theorem dX6_gatherMeasured_82 : decode cX6_gatherMeasured 82 = .ok (.invokevirtual 354, 3) := by decide +kernel
theorem dX6_gatherMeasured_85 : decode cX6_gatherMeasured 85 = .ok (.iinc 2 1, 3) := by decide +kernel
theorem dX6_gatherMeasured_88 : decode cX6_gatherMeasured 88 = .ok (.goto (-79), 3) := by decide +kernel
theorem dX6_gatherMeasured_91 : decode cX6_gatherMeasured 91 = .ok (.return_, 1) := by decide +kernel
theorem dX6_gatherSupposed_0 : decode cX6_gatherSupposed 0 = .ok (.aload_n 0, 1) := by decide +kernel
theorem dX6_gatherSupposed_1 : decode cX6_gatherSupposed 1 = .ok (.getfield 30, 3) := by decide +kernel
theorem dX6_gatherSupposed_4 : decode cX6_gatherSupposed 4 = .ok (.invokevirtual 329, 3) := by decide +kernel
theorem dX6_gatherSupposed_7 : decode cX6_gatherSupposed 7 = .ok (.iconst 0, 1) := by decide +kernel
theorem dX6_gatherSupposed_8 : decode cX6_gatherSupposed 8 = .ok (.istore_n 3, 1) := by decide +kernel
theorem dX6_gatherSupposed_9 : decode cX6_gatherSupposed 9 = .ok (.iload_n 3, 1) := by decide +kernel
theorem dX6_gatherSupposed_10 : decode cX6_gatherSupposed 10 = .ok (.aload_n 0, 1) := by decide +kernel
theorem dX6_gatherSupposed_11 : decode cX6_gatherSupposed 11 = .ok (.getfield 47, 3) := by decide +kernel
theorem dX6_gatherSupposed_14 : decode cX6_gatherSupposed 14 = .ok (.if_icmp .ge 68, 3) := by decide +kernel
theorem dX6_gatherSupposed_17 : decode cX6_gatherSupposed 17 = .ok (.iload_n 3, 1) := by decide +kernel
theorem dX6_gatherSupposed_18 : decode cX6_gatherSupposed 18 = .ok (.iload_n 2, 1) := by decide +kernel
theorem dX6_gatherSupposed_19 : decode cX6_gatherSupposed 19 = .ok (.if_icmp .eq 57, 3) := by decide +kernel
theorem dX6_gatherSupposed_22 : decode cX6_gatherSupposed 22 = .ok (.aload_n 1, 1) := by decide +kernel
theorem dX6_gatherSupposed_23 : decode cX6_gatherSupposed 23 = .ok (.aload_n 0, 1) := by decide +kernel
theorem dX6_gatherSupposed_24 : decode cX6_gatherSupposed 24 = .ok (.getfield 11, 3) := by decide +kernel
theorem dX6_gatherSupposed_27 : decode cX6_gatherSupposed 27 = .ok (.iload_n 3, 1) := by decide +kernel
theorem dX6_gatherSupposed_28 : decode cX6_gatherSupposed 28 = .ok (.aaload, 1) := by decide +kernel
theorem dX6_gatherSupposed_29 : decode cX6_gatherSupposed 29 = .ok (.iconst 0, 1) := by decide +kernel
theorem dX6_gatherSupposed_30 : decode cX6_gatherSupposed 30 = .ok (.invokevirtual 306, 3) := by decide +kernel
theorem dX6_gatherSupposed_33 : decode cX6_gatherSupposed 33 = .ok (.ifCond .eq 43, 3) := by decide +kernel
theorem dX6_gatherSupposed_36 : decode cX6_gatherSupposed 36 = .ok (.aload_n 0, 1) := by decide +kernel
theorem dX6_gatherSupposed_37 : decode cX6_gatherSupposed 37 = .ok (.getfield 11, 3) := by decide +kernel
theorem dX6_gatherSupposed_40 : decode cX6_gatherSupposed 40 = .ok (.iload_n 3, 1) := by decide +kernel
theorem dX6_gatherSupposed_41 : decode cX6_gatherSupposed 41 = .ok (.aaload, 1) := by decide +kernel
theorem dX6_gatherSupposed_42 : decode cX6_gatherSupposed 42 = .ok (.aload_n 0, 1) := by decide +kernel
theorem dX6_gatherSupposed_43 : decode cX6_gatherSupposed 43 = .ok (.getfield 114, 3) := by decide +kernel
theorem dX6_gatherSupposed_46 : decode cX6_gatherSupposed 46 = .ok (.invokevirtual 335, 3) := by decide +kernel
theorem dX6_gatherSupposed_49 : decode cX6_gatherSupposed 49 = .ok (.ifCond .eq 27, 3) := by decide +kernel
theorem dX6_gatherSupposed_52 : decode cX6_gatherSupposed 52 = .ok (.aload_n 0, 1) := by decide +kernel
theorem dX6_gatherSupposed_53 : decode cX6_gatherSupposed 53 = .ok (.aload_n 0, 1) := by decide +kernel
theorem dX6_gatherSupposed_54 : decode cX6_gatherSupposed 54 = .ok (.getfield 11, 3) := by decide +kernel
theorem dX6_gatherSupposed_57 : decode cX6_gatherSupposed 57 = .ok (.iload_n 3, 1) := by decide +kernel
theorem dX6_gatherSupposed_58 : decode cX6_gatherSupposed 58 = .ok (.aaload, 1) := by decide +kernel
theorem dX6_gatherSupposed_59 : decode cX6_gatherSupposed 59 = .ok (.aload_n 0, 1) := by decide +kernel
theorem dX6_gatherSupposed_60 : decode cX6_gatherSupposed 60 = .ok (.aload_n 1, 1) := by decide +kernel
theorem dX6_gatherSupposed_61 : decode cX6_gatherSupposed 61 = .ok (.iload_n 3, 1) := by decide +kernel
theorem dX6_gatherSupposed_62 : decode cX6_gatherSupposed 62 = .ok (.invokevirtual 313, 3) := by decide +kernel
theorem dX6_gatherSupposed_65 : decode cX6_gatherSupposed 65 = .ok (.aload_n 0, 1) := by decide +kernel
theorem dX6_gatherSupposed_66 : decode cX6_gatherSupposed 66 = .ok (.aload_n 1, 1) := by decide +kernel
theorem dX6_gatherSupposed_67 : decode cX6_gatherSupposed 67 = .ok (.iload_n 3, 1) := by decide +kernel
theorem dX6_gatherSupposed_68 : decode cX6_gatherSupposed 68 = .ok (.invokevirtual 341, 3) := by decide +kernel
theorem dX6_gatherSupposed_71 : decode cX6_gatherSupposed 71 = .ok (.isub, 1) := by decide +kernel
theorem dX6_gatherSupposed_72 : decode cX6_gatherSupposed 72 = .ok (.iconst 0, 1) := by decide +kernel
theorem dX6_gatherSupposed_73 : decode cX6_gatherSupposed 73 = .ok (.invokevirtual 354, 3) := by decide +kernel
theorem dX6_gatherSupposed_76 : decode cX6_gatherSupposed 76 = .ok (.iinc 3 1, 3) := by decide +kernel
theorem dX6_gatherSupposed_79 : decode cX6_gatherSupposed 79 = .ok (.goto (-70), 3) := by decide +kernel
theorem dX6_gatherSupposed_82 : decode cX6_gatherSupposed 82 = .ok (.return_, 1) := by decide +kernel
theorem dX6_use_0 : decode cX6_use 0 = .ok (.aload_n 1, 1) := by decide +kernel
theorem dX6_use_1 : decode cX6_use 1 = .ok (.aload_n 0, 1) := by decide +kernel
theorem dX6_use_2 : decode cX6_use 2 = .ok (.getfield 114, 3) := by decide +kernel
theorem dX6_use_5 : decode cX6_use 5 = .ok (.invokevirtual 358, 3) := by decide +kernel
theorem dX6_use_8 : decode cX6_use 8 = .ok (.istore 4, 2) := by decide +kernel
theorem dX6_use_10 : decode cX6_use 10 = .ok (.aload_n 1, 1) := by decide +kernel
theorem dX6_use_11 : decode cX6_use 11 = .ok (.aload_n 0, 1) := by decide +kernel
theorem dX6_use_12 : decode cX6_use 12 = .ok (.getfield 114, 3) := by decide +kernel
theorem dX6_use_15 : decode cX6_use 15 = .ok (.invokevirtual 361, 3) := by decide +kernel
theorem dX6_use_18 : decode cX6_use 18 = .ok (.istore 5, 2) := by decide +kernel
theorem dX6_use_20 : decode cX6_use 20 = .ok (.iload_n 3, 1) := by decide +kernel
theorem dX6_use_21 : decode cX6_use 21 = .ok (.ifCond .eq 7, 3) := by decide +kernel
theorem dX6_use_24 : decode cX6_use 24 = .ok (.iconst 4, 1) := by decide +kernel
theorem dX6_use_25 : decode cX6_use 25 = .ok (.goto 18, 3) := by decide +kernel
theorem dX6_use_28 : decode cX6_use 28 = .ok (.iload 5, 2) := by decide +kernel
theorem dX6_use_30 : decode cX6_use 30 = .ok (.iload 4, 2) := by decide +kernel
theorem dX6_use_32 : decode cX6_use 32 = .ok (.invokestatic 302, 3) := by decide +kernel
theorem dX6_use_35 : decode cX6_use 35 = .ok (.if_icmp .le 7, 3) := by decide +kernel
theorem dX6_use_38 : decode cX6_use 38 = .ok (.iconst 2, 1) := by decide +kernel
theorem dX6_use_39 : decode cX6_use 39 = .ok (.goto 4, 3) := by decide +kernel
theorem dX6_use_42 : decode cX6_use 42 = .ok (.iconst 1, 1) := by decide +kernel
theorem dX6_use_43 : decode cX6_use 43 = .ok (.istore 6, 2) := by decide +kernel
theorem dX6_use_45 : decode cX6_use 45 = .ok (.aload_n 0, 1) := by decide +kernel
theorem dX6_use_46 : decode cX6_use 46 = .ok (.getfield 30, 3) := by decide +kernel
theorem dX6_use_49 : decode cX6_use 49 = .ok (.iload 4, 2) := by decide +kernel
theorem dX6_use_51 : decode cX6_use 51 = .ok (.iload 5, 2) := by decide +kernel
theorem dX6_use_53 : decode cX6_use 53 = .ok (.iload_n 2, 1) := by decide +kernel
theorem dX6_use_54 : decode cX6_use 54 = .ok (.aload_n 1, 1) := by decide +kernel
theorem dX6_use_55 : decode cX6_use 55 = .ok (.aload_n 0, 1) := by decide +kernel
theorem dX6_use_56 : decode cX6_use 56 = .ok (.getfield 114, 3) := by decide +kernel
theorem dX6_use_59 : decode cX6_use 59 = .ok (.invokevirtual 364, 3) := by decide +kernel
theorem dX6_use_62 : decode cX6_use 62 = .ok (.isub, 1) := by decide +kernel
theorem dX6_use_63 : decode cX6_use 63 = .ok (.iload 6, 2) := by decide +kernel
theorem dX6_use_65 : decode cX6_use 65 = .ok (.invokevirtual 367, 3) := by decide +kernel
theorem dX6_use_68 : decode cX6_use 68 = .ok (.return_, 1) := by decide +kernel
theorem dX6_correctionOf_0 : decode cX6_correctionOf 0 = .ok (.aload_n 0, 1) := by decide +kernel
theorem dX6_correctionOf_1 : decode cX6_correctionOf 1 = .ok (.aload_n 1, 1) := by decide +kernel
theorem dX6_correctionOf_2 : decode cX6_correctionOf 2 = .ok (.getfield 194, 3) := by decide +kernel
theorem dX6_correctionOf_5 : decode cX6_correctionOf 5 = .ok (.invokevirtual 140, 3) := by decide +kernel
theorem dX6_correctionOf_8 : decode cX6_correctionOf 8 = .ok (.ifCond .eq 5, 3) := by decide +kernel
theorem dX6_correctionOf_11 : decode cX6_correctionOf 11 = .ok (.iconst 0, 1) := by decide +kernel
theorem dX6_correctionOf_12 : decode cX6_correctionOf 12 = .ok (.ireturn, 1) := by decide +kernel
theorem dX6_correctionOf_13 : decode cX6_correctionOf 13 = .ok (.aload_n 0, 1) := by decide +kernel
theorem dX6_correctionOf_14 : decode cX6_correctionOf 14 = .ok (.getfield 23, 3) := by decide +kernel
theorem dX6_correctionOf_17 : decode cX6_correctionOf 17 = .ok (.aload_n 1, 1) := by decide +kernel
theorem dX6_correctionOf_18 : decode cX6_correctionOf 18 = .ok (.getfield 194, 3) := by decide +kernel
theorem dX6_correctionOf_21 : decode cX6_correctionOf 21 = .ok (.aaload, 1) := by decide +kernel
theorem dX6_correctionOf_22 : decode cX6_correctionOf 22 = .ok (.astore_n 3, 1) := by decide +kernel
theorem dX6_correctionOf_23 : decode cX6_correctionOf 23 = .ok (.aload_n 3, 1) := by decide +kernel
theorem dX6_correctionOf_24 : decode cX6_correctionOf 24 = .ok (.getfield 202, 3) := by decide +kernel
theorem dX6_correctionOf_27 : decode cX6_correctionOf 27 = .ok (.aload_n 0, 1) := by decide +kernel
theorem dX6_correctionOf_28 : decode cX6_correctionOf 28 = .ok (.getfield 114, 3) := by decide +kernel
theorem dX6_correctionOf_31 : decode cX6_correctionOf 31 = .ok (.iconst 5, 1) := by decide +kernel
theorem dX6_correctionOf_32 : decode cX6_correctionOf 32 = .ok (.isub, 1) := by decide +kernel
theorem dX6_correctionOf_33 : decode cX6_correctionOf 33 = .ok (.invokevirtual 369, 3) := by decide +kernel
theorem dX6_correctionOf_36 : decode cX6_correctionOf 36 = .ok (.ifCond .eq 15, 3) := by decide +kernel
theorem dX6_correctionOf_39 : decode cX6_correctionOf 39 = .ok (.aload_n 3, 1) := by decide +kernel
theorem dX6_correctionOf_40 : decode cX6_correctionOf 40 = .ok (.getfield 247, 3) := by decide +kernel
theorem dX6_correctionOf_43 : decode cX6_correctionOf 43 = .ok (.iload_n 2, 1) := by decide +kernel
theorem dX6_correctionOf_44 : decode cX6_correctionOf 44 = .ok (.aaload, 1) := by decide +kernel
theorem dX6_correctionOf_45 : decode cX6_correctionOf 45 = .ok (.getfield 338, 3) := by decide +kernel
theorem dX6_correctionOf_48 : decode cX6_correctionOf 48 = .ok (.ifCond .ne 5, 3) := by decide +kernel
theorem dX6_correctionOf_51 : decode cX6_correctionOf 51 = .ok (.iconst 0, 1) := by decide +kernel
theorem dX6_correctionOf_52 : decode cX6_correctionOf 52 = .ok (.ireturn, 1) := by decide +kernel
theorem dX6_correctionOf_53 : decode cX6_correctionOf 53 = .ok (.aload_n 3, 1) := by decide +kernel
theorem dX6_correctionOf_54 : decode cX6_correctionOf 54 = .ok (.getfield 247, 3) := by decide +kernel
theorem dX6_correctionOf_57 : decode cX6_correctionOf 57 = .ok (.iload_n 2, 1) := by decide +kernel
theorem dX6_correctionOf_58 : decode cX6_correctionOf 58 = .ok (.aaload, 1) := by decide +kernel
theorem dX6_correctionOf_59 : decode cX6_correctionOf 59 = .ok (.getfield 372, 3) := by decide +kernel
theorem dX6_correctionOf_62 : decode cX6_correctionOf 62 = .ok (.ireturn, 1) := by decide +kernel
theorem dX6_offerCorrections_0 : decode cX6_offerCorrections 0 = .ok (.iconst 0, 1) := by decide +kernel
theorem dX6_offerCorrections_1 : decode cX6_offerCorrections 1 = .ok (.istore_n 2, 1) := by decide +kernel
theorem dX6_offerCorrections_2 : decode cX6_offerCorrections 2 = .ok (.iconst 0, 1) := by decide +kernel
theorem dX6_offerCorrections_3 : decode cX6_offerCorrections 3 = .ok (.istore_n 3, 1) := by decide +kernel
theorem dX6_offerCorrections_4 : decode cX6_offerCorrections 4 = .ok (.iconst 0, 1) := by decide +kernel
theorem dX6_offerCorrections_5 : decode cX6_offerCorrections 5 = .ok (.istore 4, 2) := by decide +kernel
theorem dX6_offerCorrections_7 : decode cX6_offerCorrections 7 = .ok (.iload 4, 2) := by decide +kernel
theorem dX6_offerCorrections_9 : decode cX6_offerCorrections 9 = .ok (.aload_n 0, 1) := by decide +kernel
theorem dX6_offerCorrections_10 : decode cX6_offerCorrections 10 = .ok (.getfield 47, 3) := by decide +kernel
theorem dX6_offerCorrections_13 : decode cX6_offerCorrections 13 = .ok (.if_icmp .ge 59, 3) := by decide +kernel
theorem dX6_offerCorrections_16 : decode cX6_offerCorrections 16 = .ok (.aload_n 1, 1) := by decide +kernel
theorem dX6_offerCorrections_17 : decode cX6_offerCorrections 17 = .ok (.getfield 247, 3) := by decide +kernel
theorem dX6_offerCorrections_20 : decode cX6_offerCorrections 20 = .ok (.iload 4, 2) := by decide +kernel
theorem dX6_offerCorrections_22 : decode cX6_offerCorrections 22 = .ok (.aaload, 1) := by decide +kernel
theorem dX6_offerCorrections_23 : decode cX6_offerCorrections 23 = .ok (.astore 5, 2) := by decide +kernel
theorem dX6_offerCorrections_25 : decode cX6_offerCorrections 25 = .ok (.aload 5, 2) := by decide +kernel
theorem dX6_offerCorrections_27 : decode cX6_offerCorrections 27 = .ok (.getfield 338, 3) := by decide +kernel
theorem dX6_offerCorrections_30 : decode cX6_offerCorrections 30 = .ok (.ifCond .eq 36, 3) := by decide +kernel
theorem dX6_offerCorrections_33 : decode cX6_offerCorrections 33 = .ok (.aload 5, 2) := by decide +kernel
theorem dX6_offerCorrections_35 : decode cX6_offerCorrections 35 = .ok (.aload_n 0, 1) := by decide +kernel
theorem dX6_offerCorrections_36 : decode cX6_offerCorrections 36 = .ok (.aload_n 1, 1) := by decide +kernel
theorem dX6_offerCorrections_37 : decode cX6_offerCorrections 37 = .ok (.aload_n 0, 1) := by decide +kernel
theorem dX6_offerCorrections_38 : decode cX6_offerCorrections 38 = .ok (.getfield 11, 3) := by decide +kernel
theorem dX6_offerCorrections_41 : decode cX6_offerCorrections 41 = .ok (.iload 4, 2) := by decide +kernel
theorem dX6_offerCorrections_43 : decode cX6_offerCorrections 43 = .ok (.aaload, 1) := by decide +kernel
theorem dX6_offerCorrections_44 : decode cX6_offerCorrections 44 = .ok (.aload 5, 2) := by decide +kernel
theorem dX6_offerCorrections_46 : decode cX6_offerCorrections 46 = .ok (.invokevirtual 347, 3) := by decide +kernel
theorem dX6_offerCorrections_49 : decode cX6_offerCorrections 49 = .ok (.invokevirtual 375, 3) := by decide +kernel
theorem dX6_offerCorrections_52 : decode cX6_offerCorrections 52 = .ok (.putfield 372, 3) := by decide +kernel
theorem dX6_offerCorrections_55 : decode cX6_offerCorrections 55 = .ok (.iload_n 3, 1) := by decide +kernel
theorem dX6_offerCorrections_56 : decode cX6_offerCorrections 56 = .ok (.aload 5, 2) := by decide +kernel
theorem dX6_offerCorrections_58 : decode cX6_offerCorrections 58 = .ok (.getfield 372, 3) := by decide +kernel
theorem dX6_offerCorrections_61 : decode cX6_offerCorrections 61 = .ok (.iadd, 1) := by decide +kernel
theorem dX6_offerCorrections_62 : decode cX6_offerCorrections 62 = .ok (.istore_n 3, 1) := by decide +kernel
theorem dX6_offerCorrections_63 : decode cX6_offerCorrections 63 = .ok (.iinc 2 1, 3) := by decide +kernel
theorem dX6_offerCorrections_66 : decode cX6_offerCorrections 66 = .ok (.iinc 4 1, 3) := by decide +kernel
theorem dX6_offerCorrections_69 : decode cX6_offerCorrections 69 = .ok (.goto (-62), 3) := by decide +kernel
theorem dX6_offerCorrections_72 : decode cX6_offerCorrections 72 = .ok (.iload_n 2, 1) := by decide +kernel
theorem dX6_offerCorrections_73 : decode cX6_offerCorrections 73 = .ok (.ifCond .ne 4, 3) := by decide +kernel
theorem dX6_offerCorrections_76 : decode cX6_offerCorrections 76 = .ok (.return_, 1) := by decide +kernel
theorem dX6_offerCorrections_77 : decode cX6_offerCorrections 77 = .ok (.iload_n 3, 1) := by decide +kernel
theorem dX6_offerCorrections_78 : decode cX6_offerCorrections 78 = .ok (.iload_n 2, 1) := by decide +kernel
theorem dX6_offerCorrections_79 : decode cX6_offerCorrections 79 = .ok (.invokestatic 379, 3) := by decide +kernel
theorem dX6_offerCorrections_82 : decode cX6_offerCorrections 82 = .ok (.istore 4, 2) := by decide +kernel
theorem dX6_offerCorrections_84 : decode cX6_offerCorrections 84 = .ok (.iconst 0, 1) := by decide +kernel
theorem dX6_offerCorrections_85 : decode cX6_offerCorrections 85 = .ok (.istore 5, 2) := by decide +kernel
theorem dX6_offerCorrections_87 : decode cX6_offerCorrections 87 = .ok (.iload 5, 2) := by decide +kernel
theorem dX6_offerCorrections_89 : decode cX6_offerCorrections 89 = .ok (.aload_n 0, 1) := by decide +kernel
theorem dX6_offerCorrections_90 : decode cX6_offerCorrections 90 = .ok (.getfield 47, 3) := by decide +kernel
theorem dX6_offerCorrections_93 : decode cX6_offerCorrections 93 = .ok (.if_icmp .ge 39, 3) := by decide +kernel
theorem dX6_offerCorrections_96 : decode cX6_offerCorrections 96 = .ok (.aload_n 1, 1) := by decide +kernel
theorem dX6_offerCorrections_97 : decode cX6_offerCorrections 97 = .ok (.getfield 247, 3) := by decide +kernel
theorem dX6_offerCorrections_100 : decode cX6_offerCorrections 100 = .ok (.iload 5, 2) := by decide +kernel
theorem dX6_offerCorrections_102 : decode cX6_offerCorrections 102 = .ok (.aaload, 1) := by decide +kernel
theorem dX6_offerCorrections_103 : decode cX6_offerCorrections 103 = .ok (.getfield 338, 3) := by decide +kernel
theorem dX6_offerCorrections_106 : decode cX6_offerCorrections 106 = .ok (.ifCond .eq 20, 3) := by decide +kernel
theorem dX6_offerCorrections_109 : decode cX6_offerCorrections 109 = .ok (.aload_n 1, 1) := by decide +kernel
theorem dX6_offerCorrections_110 : decode cX6_offerCorrections 110 = .ok (.getfield 247, 3) := by decide +kernel
theorem dX6_offerCorrections_113 : decode cX6_offerCorrections 113 = .ok (.iload 5, 2) := by decide +kernel
theorem dX6_offerCorrections_115 : decode cX6_offerCorrections 115 = .ok (.aaload, 1) := by decide +kernel
theorem dX6_offerCorrections_116 : decode cX6_offerCorrections 116 = .ok (.dup, 1) := by decide +kernel
theorem dX6_offerCorrections_117 : decode cX6_offerCorrections 117 = .ok (.getfield 372, 3) := by decide +kernel
theorem dX6_offerCorrections_120 : decode cX6_offerCorrections 120 = .ok (.iload 4, 2) := by decide +kernel
theorem dX6_offerCorrections_122 : decode cX6_offerCorrections 122 = .ok (.isub, 1) := by decide +kernel
theorem dX6_offerCorrections_123 : decode cX6_offerCorrections 123 = .ok (.putfield 372, 3) := by decide +kernel
theorem dX6_offerCorrections_126 : decode cX6_offerCorrections 126 = .ok (.iinc 5 1, 3) := by decide +kernel
theorem dX6_offerCorrections_129 : decode cX6_offerCorrections 129 = .ok (.goto (-42), 3) := by decide +kernel
theorem dX6_offerCorrections_132 : decode cX6_offerCorrections 132 = .ok (.return_, 1) := by decide +kernel
theorem dX6_tooFar_0 : decode cX6_tooFar 0 = .ok (.aload_n 1, 1) := by decide +kernel
theorem dX6_tooFar_1 : decode cX6_tooFar 1 = .ok (.getfield 147, 3) := by decide +kernel
theorem dX6_tooFar_4 : decode cX6_tooFar 4 = .ok (.aload_n 1, 1) := by decide +kernel
theorem dX6_tooFar_5 : decode cX6_tooFar 5 = .ok (.getfield 150, 3) := by decide +kernel
theorem dX6_tooFar_8 : decode cX6_tooFar 8 = .ok (.aload_n 2, 1) := by decide +kernel
theorem dX6_tooFar_9 : decode cX6_tooFar 9 = .ok (.aload_n 0, 1) := by decide +kernel
theorem dX6_tooFar_10 : decode cX6_tooFar 10 = .ok (.getfield 114, 3) := by decide +kernel
theorem dX6_tooFar_13 : decode cX6_tooFar 13 = .ok (.invokevirtual 358, 3) := by decide +kernel
theorem dX6_tooFar_16 : decode cX6_tooFar 16 = .ok (.aload_n 2, 1) := by decide +kernel
theorem dX6_tooFar_17 : decode cX6_tooFar 17 = .ok (.aload_n 0, 1) := by decide +kernel
theorem dX6_tooFar_18 : decode cX6_tooFar 18 = .ok (.getfield 114, 3) := by decide +kernel
theorem dX6_tooFar_21 : decode cX6_tooFar 21 = .ok (.invokevirtual 361, 3) := by decide +kernel
theorem dX6_tooFar_24 : decode cX6_tooFar 24 = .ok (.invokestatic 153, 3) := by decide +kernel
theorem dX6_tooFar_27 : decode cX6_tooFar 27 = .ok (.istore 4, 2) := by decide +kernel
theorem dX6_tooFar_29 : decode cX6_tooFar 29 = .ok (.iload_n 3, 1) := by decide +kernel
theorem dX6_tooFar_30 : decode cX6_tooFar 30 = .ok (.aload_n 2, 1) := by decide +kernel
theorem dX6_tooFar_31 : decode cX6_tooFar 31 = .ok (.aload_n 0, 1) := by decide +kernel
theorem dX6_tooFar_32 : decode cX6_tooFar 32 = .ok (.getfield 114, 3) := by decide +kernel
theorem dX6_tooFar_35 : decode cX6_tooFar 35 = .ok (.invokevirtual 364, 3) := by decide +kernel
theorem dX6_tooFar_38 : decode cX6_tooFar 38 = .ok (.isub, 1) := by decide +kernel
theorem dX6_tooFar_39 : decode cX6_tooFar 39 = .ok (.iload 4, 2) := by decide +kernel
theorem dX6_tooFar_41 : decode cX6_tooFar 41 = .ok (.isub, 1) := by decide +kernel
theorem dX6_tooFar_42 : decode cX6_tooFar 42 = .ok (.ireturn, 1) := by decide +kernel
theorem dX6_alarmOf_0 : decode cX6_alarmOf 0 = .ok (.aload_n 0, 1) := by decide +kernel
theorem dX6_alarmOf_1 : decode cX6_alarmOf 1 = .ok (.getfield 30, 3) := by decide +kernel
theorem dX6_alarmOf_4 : decode cX6_alarmOf 4 = .ok (.getfield 382, 3) := by decide +kernel
theorem dX6_alarmOf_7 : decode cX6_alarmOf 7 = .ok (.iconst 4, 1) := by decide +kernel
theorem dX6_alarmOf_8 : decode cX6_alarmOf 8 = .ok (.if_icmp .ge 5, 3) := by decide +kernel
theorem dX6_alarmOf_11 : decode cX6_alarmOf 11 = .ok (.iconst 1, 1) := by decide +kernel
theorem dX6_alarmOf_12 : decode cX6_alarmOf 12 = .ok (.ireturn, 1) := by decide +kernel
theorem dX6_alarmOf_13 : decode cX6_alarmOf 13 = .ok (.aload_n 0, 1) := by decide +kernel
theorem dX6_alarmOf_14 : decode cX6_alarmOf 14 = .ok (.getfield 30, 3) := by decide +kernel
theorem dX6_alarmOf_17 : decode cX6_alarmOf 17 = .ok (.getfield 385, 3) := by decide +kernel
theorem dX6_alarmOf_20 : decode cX6_alarmOf 20 = .ok (.bipush 40, 2) := by decide +kernel
theorem dX6_alarmOf_22 : decode cX6_alarmOf 22 = .ok (.aload_n 0, 1) := by decide +kernel
theorem dX6_alarmOf_23 : decode cX6_alarmOf 23 = .ok (.getfield 30, 3) := by decide +kernel
theorem dX6_alarmOf_26 : decode cX6_alarmOf 26 = .ok (.getfield 382, 3) := by decide +kernel
theorem dX6_alarmOf_29 : decode cX6_alarmOf 29 = .ok (.imul, 1) := by decide +kernel
theorem dX6_alarmOf_30 : decode cX6_alarmOf 30 = .ok (.i2l, 1) := by decide +kernel
theorem dX6_alarmOf_31 : decode cX6_alarmOf 31 = .ok (.lcmp, 1) := by decide +kernel
theorem dX6_alarmOf_32 : decode cX6_alarmOf 32 = .ok (.ifCond .le 5, 3) := by decide +kernel
theorem dX6_alarmOf_35 : decode cX6_alarmOf 35 = .ok (.iconst 2, 1) := by decide +kernel
theorem dX6_alarmOf_36 : decode cX6_alarmOf 36 = .ok (.ireturn, 1) := by decide +kernel
theorem dX6_alarmOf_37 : decode cX6_alarmOf 37 = .ok (.aload_n 0, 1) := by decide +kernel
theorem dX6_alarmOf_38 : decode cX6_alarmOf 38 = .ok (.getfield 30, 3) := by decide +kernel
theorem dX6_alarmOf_41 : decode cX6_alarmOf 41 = .ok (.getfield 389, 3) := by decide +kernel
theorem dX6_alarmOf_44 : decode cX6_alarmOf 44 = .ok (.aload_n 1, 1) := by decide +kernel
theorem dX6_alarmOf_45 : decode cX6_alarmOf 45 = .ok (.getfield 184, 3) := by decide +kernel
theorem dX6_alarmOf_48 : decode cX6_alarmOf 48 = .ok (.if_icmp .le 5, 3) := by decide +kernel
theorem dX6_alarmOf_51 : decode cX6_alarmOf 51 = .ok (.iconst 3, 1) := by decide +kernel
theorem dX6_alarmOf_52 : decode cX6_alarmOf 52 = .ok (.ireturn, 1) := by decide +kernel
theorem dX6_alarmOf_53 : decode cX6_alarmOf 53 = .ok (.iload_n 2, 1) := by decide +kernel
theorem dX6_alarmOf_54 : decode cX6_alarmOf 54 = .ok (.ifCond .eq 35, 3) := by decide +kernel
theorem dX6_alarmOf_57 : decode cX6_alarmOf 57 = .ok (.aload_n 1, 1) := by decide +kernel
theorem dX6_alarmOf_58 : decode cX6_alarmOf 58 = .ok (.getfield 202, 3) := by decide +kernel
theorem dX6_alarmOf_61 : decode cX6_alarmOf 61 = .ok (.aload_n 0, 1) := by decide +kernel
theorem dX6_alarmOf_62 : decode cX6_alarmOf 62 = .ok (.getfield 30, 3) := by decide +kernel
theorem dX6_alarmOf_65 : decode cX6_alarmOf 65 = .ok (.getfield 278, 3) := by decide +kernel
theorem dX6_alarmOf_68 : decode cX6_alarmOf 68 = .ok (.aload_n 0, 1) := by decide +kernel
theorem dX6_alarmOf_69 : decode cX6_alarmOf 69 = .ok (.getfield 30, 3) := by decide +kernel
theorem dX6_alarmOf_72 : decode cX6_alarmOf 72 = .ok (.getfield 279, 3) := by decide +kernel
theorem dX6_alarmOf_75 : decode cX6_alarmOf 75 = .ok (.aload_n 0, 1) := by decide +kernel
theorem dX6_alarmOf_76 : decode cX6_alarmOf 76 = .ok (.getfield 114, 3) := by decide +kernel
theorem dX6_alarmOf_79 : decode cX6_alarmOf 79 = .ok (.invokevirtual 392, 3) := by decide +kernel
theorem dX6_alarmOf_82 : decode cX6_alarmOf 82 = .ok (.ifCond .eq 7, 3) := by decide +kernel
theorem dX6_alarmOf_85 : decode cX6_alarmOf 85 = .ok (.iconst 4, 1) := by decide +kernel
theorem dX6_alarmOf_86 : decode cX6_alarmOf 86 = .ok (.goto 4, 3) := by decide +kernel
theorem dX6_alarmOf_89 : decode cX6_alarmOf 89 = .ok (.iconst 0, 1) := by decide +kernel
theorem dX6_alarmOf_90 : decode cX6_alarmOf 90 = .ok (.ireturn, 1) := by decide +kernel
theorem dX6_supposedAlarm_0 : decode cX6_supposedAlarm 0 = .ok (.aload_n 0, 1) := by decide +kernel
theorem dX6_supposedAlarm_1 : decode cX6_supposedAlarm 1 = .ok (.aload_n 1, 1) := by decide +kernel
theorem dX6_supposedAlarm_2 : decode cX6_supposedAlarm 2 = .ok (.iconst (-1), 1) := by decide +kernel
theorem dX6_supposedAlarm_3 : decode cX6_supposedAlarm 3 = .ok (.invokevirtual 270, 3) := by decide +kernel
theorem dX6_supposedAlarm_6 : decode cX6_supposedAlarm 6 = .ok (.aload_n 0, 1) := by decide +kernel
theorem dX6_supposedAlarm_7 : decode cX6_supposedAlarm 7 = .ok (.getfield 30, 3) := by decide +kernel
theorem dX6_supposedAlarm_10 : decode cX6_supposedAlarm 10 = .ok (.invokevirtual 223, 3) := by decide +kernel
theorem dX6_supposedAlarm_13 : decode cX6_supposedAlarm 13 = .ok (.aload_n 0, 1) := by decide +kernel
theorem dX6_supposedAlarm_14 : decode cX6_supposedAlarm 14 = .ok (.aload_n 1, 1) := by decide +kernel
theorem dX6_supposedAlarm_15 : decode cX6_supposedAlarm 15 = .ok (.iconst 0, 1) := by decide +kernel
theorem dX6_supposedAlarm_16 : decode cX6_supposedAlarm 16 = .ok (.invokevirtual 226, 3) := by decide +kernel
theorem dX6_supposedAlarm_19 : decode cX6_supposedAlarm 19 = .ok (.ireturn, 1) := by decide +kernel
theorem dX6_tellReceiver_0 : decode cX6_tellReceiver 0 = .ok (.iload_n 2, 1) := by decide +kernel
theorem dX6_tellReceiver_1 : decode cX6_tellReceiver 1 = .ok (.lookupswitch 79 #[(0, 43), (1, 48), (2, 53), (13, 63)], 43) := by decide +kernel
theorem dX6_tellReceiver_44 : decode cX6_tellReceiver 44 = .ok (.aload_n 1, 1) := by decide +kernel
theorem dX6_tellReceiver_45 : decode cX6_tellReceiver 45 = .ok (.getfield 147, 3) := by decide +kernel
theorem dX6_tellReceiver_48 : decode cX6_tellReceiver 48 = .ok (.ireturn, 1) := by decide +kernel
theorem dX6_tellReceiver_49 : decode cX6_tellReceiver 49 = .ok (.aload_n 1, 1) := by decide +kernel
theorem dX6_tellReceiver_50 : decode cX6_tellReceiver 50 = .ok (.getfield 150, 3) := by decide +kernel
theorem dX6_tellReceiver_53 : decode cX6_tellReceiver 53 = .ok (.ireturn, 1) := by decide +kernel
theorem dX6_tellReceiver_54 : decode cX6_tellReceiver 54 = .ok (.aload_n 0, 1) := by decide +kernel
theorem dX6_tellReceiver_55 : decode cX6_tellReceiver 55 = .ok (.aload_n 1, 1) := by decide +kernel
theorem dX6_tellReceiver_56 : decode cX6_tellReceiver 56 = .ok (.iconst 0, 1) := by decide +kernel
theorem dX6_tellReceiver_57 : decode cX6_tellReceiver 57 = .ok (.invokevirtual 165, 3) := by decide +kernel
theorem dX6_tellReceiver_60 : decode cX6_tellReceiver 60 = .ok (.invokestatic 169, 3) := by decide +kernel
theorem dX6_tellReceiver_63 : decode cX6_tellReceiver 63 = .ok (.ireturn, 1) := by decide +kernel
theorem dX6_tellReceiver_64 : decode cX6_tellReceiver 64 = .ok (.aload_n 1, 1) := by decide +kernel
theorem dX6_tellReceiver_65 : decode cX6_tellReceiver 65 = .ok (.getfield 202, 3) := by decide +kernel
theorem dX6_tellReceiver_68 : decode cX6_tellReceiver 68 = .ok (.aload_n 1, 1) := by decide +kernel
theorem dX6_tellReceiver_69 : decode cX6_tellReceiver 69 = .ok (.getfield 147, 3) := by decide +kernel
theorem dX6_tellReceiver_72 : decode cX6_tellReceiver 72 = .ok (.aload_n 1, 1) := by decide +kernel
theorem dX6_tellReceiver_73 : decode cX6_tellReceiver 73 = .ok (.getfield 150, 3) := by decide +kernel
theorem dX6_tellReceiver_76 : decode cX6_tellReceiver 76 = .ok (.invokevirtual 395, 3) := by decide +kernel
theorem dX6_tellReceiver_79 : decode cX6_tellReceiver 79 = .ok (.ireturn, 1) := by decide +kernel
theorem dX6_tellReceiver_80 : decode cX6_tellReceiver 80 = .ok (.aload_n 1, 1) := by decide +kernel
theorem dX6_tellReceiver_81 : decode cX6_tellReceiver 81 = .ok (.getfield 202, 3) := by decide +kernel
theorem dX6_tellReceiver_84 : decode cX6_tellReceiver 84 = .ok (.iload_n 2, 1) := by decide +kernel
theorem dX6_tellReceiver_85 : decode cX6_tellReceiver 85 = .ok (.invokevirtual 398, 3) := by decide +kernel
theorem dX6_tellReceiver_88 : decode cX6_tellReceiver 88 = .ok (.ireturn, 1) := by decide +kernel
theorem dX6_countOf_0 : decode cX6_countOf 0 = .ok (.iload_n 1, 1) := by decide +kernel
theorem dX6_countOf_1 : decode cX6_countOf 1 = .ok (.tableswitch 69 0 6 #[43, 48, 53, 58, 63, 63, 63], 43) := by decide +kernel
theorem dX6_countOf_44 : decode cX6_countOf 44 = .ok (.aload_n 0, 1) := by decide +kernel
theorem dX6_countOf_45 : decode cX6_countOf 45 = .ok (.getfield 114, 3) := by decide +kernel
theorem dX6_countOf_48 : decode cX6_countOf 48 = .ok (.ireturn, 1) := by decide +kernel
theorem dX6_countOf_49 : decode cX6_countOf 49 = .ok (.aload_n 0, 1) := by decide +kernel
theorem dX6_countOf_50 : decode cX6_countOf 50 = .ok (.getfield 47, 3) := by decide +kernel
theorem dX6_countOf_53 : decode cX6_countOf 53 = .ok (.ireturn, 1) := by decide +kernel
theorem dX6_countOf_54 : decode cX6_countOf 54 = .ok (.aload_n 0, 1) := by decide +kernel
theorem dX6_countOf_55 : decode cX6_countOf 55 = .ok (.getfield 95, 3) := by decide +kernel
theorem dX6_countOf_58 : decode cX6_countOf 58 = .ok (.ireturn, 1) := by decide +kernel
theorem dX6_countOf_59 : decode cX6_countOf 59 = .ok (.aload_n 0, 1) := by decide +kernel
theorem dX6_countOf_60 : decode cX6_countOf 60 = .ok (.getfield 132, 3) := by decide +kernel
theorem dX6_countOf_63 : decode cX6_countOf 63 = .ok (.ireturn, 1) := by decide +kernel
theorem dX6_countOf_64 : decode cX6_countOf 64 = .ok (.aload_n 0, 1) := by decide +kernel
theorem dX6_countOf_65 : decode cX6_countOf 65 = .ok (.iload_n 1, 1) := by decide +kernel
theorem dX6_countOf_66 : decode cX6_countOf 66 = .ok (.invokevirtual 399, 3) := by decide +kernel
theorem dX6_countOf_69 : decode cX6_countOf 69 = .ok (.ireturn, 1) := by decide +kernel
theorem dX6_countOf_70 : decode cX6_countOf 70 = .ok (.aload_n 0, 1) := by decide +kernel
theorem dX6_countOf_71 : decode cX6_countOf 71 = .ok (.iload_n 1, 1) := by decide +kernel
theorem dX6_countOf_72 : decode cX6_countOf 72 = .ok (.invokevirtual 402, 3) := by decide +kernel
theorem dX6_countOf_75 : decode cX6_countOf 75 = .ok (.ireturn, 1) := by decide +kernel
theorem dX6_sumOfStars_0 : decode cX6_sumOfStars 0 = .ok (.iconst 0, 1) := by decide +kernel
theorem dX6_sumOfStars_1 : decode cX6_sumOfStars 1 = .ok (.istore_n 2, 1) := by decide +kernel
theorem dX6_sumOfStars_2 : decode cX6_sumOfStars 2 = .ok (.iconst 0, 1) := by decide +kernel
theorem dX6_sumOfStars_3 : decode cX6_sumOfStars 3 = .ok (.istore_n 3, 1) := by decide +kernel
theorem dX6_sumOfStars_4 : decode cX6_sumOfStars 4 = .ok (.iload_n 3, 1) := by decide +kernel
theorem dX6_sumOfStars_5 : decode cX6_sumOfStars 5 = .ok (.aload_n 0, 1) := by decide +kernel
theorem dX6_sumOfStars_6 : decode cX6_sumOfStars 6 = .ok (.getfield 47, 3) := by decide +kernel
theorem dX6_sumOfStars_9 : decode cX6_sumOfStars 9 = .ok (.if_icmp .ge 81, 3) := by decide +kernel
theorem dX6_sumOfStars_12 : decode cX6_sumOfStars 12 = .ok (.iload_n 1, 1) := by decide +kernel
theorem dX6_sumOfStars_13 : decode cX6_sumOfStars 13 = .ok (.iconst 4, 1) := by decide +kernel
theorem dX6_sumOfStars_14 : decode cX6_sumOfStars 14 = .ok (.if_icmp .ne 26, 3) := by decide +kernel
theorem dX6_sumOfStars_17 : decode cX6_sumOfStars 17 = .ok (.iload_n 2, 1) := by decide +kernel
theorem dX6_sumOfStars_18 : decode cX6_sumOfStars 18 = .ok (.aload_n 0, 1) := by decide +kernel
theorem dX6_sumOfStars_19 : decode cX6_sumOfStars 19 = .ok (.getfield 11, 3) := by decide +kernel
theorem dX6_sumOfStars_22 : decode cX6_sumOfStars 22 = .ok (.iload_n 3, 1) := by decide +kernel
theorem dX6_sumOfStars_23 : decode cX6_sumOfStars 23 = .ok (.aaload, 1) := by decide +kernel
theorem dX6_sumOfStars_24 : decode cX6_sumOfStars 24 = .ok (.getfield 89, 3) := by decide +kernel
theorem dX6_sumOfStars_27 : decode cX6_sumOfStars 27 = .ok (.ifCond .eq 7, 3) := by decide +kernel
theorem dX6_sumOfStars_30 : decode cX6_sumOfStars 30 = .ok (.iconst 1, 1) := by decide +kernel
theorem dX6_sumOfStars_31 : decode cX6_sumOfStars 31 = .ok (.goto 4, 3) := by decide +kernel
theorem dX6_sumOfStars_34 : decode cX6_sumOfStars 34 = .ok (.iconst 0, 1) := by decide +kernel
theorem dX6_sumOfStars_35 : decode cX6_sumOfStars 35 = .ok (.iadd, 1) := by decide +kernel
theorem dX6_sumOfStars_36 : decode cX6_sumOfStars 36 = .ok (.istore_n 2, 1) := by decide +kernel
theorem dX6_sumOfStars_37 : decode cX6_sumOfStars 37 = .ok (.goto 47, 3) := by decide +kernel
theorem dX6_sumOfStars_40 : decode cX6_sumOfStars 40 = .ok (.iload_n 1, 1) := by decide +kernel
theorem dX6_sumOfStars_41 : decode cX6_sumOfStars 41 = .ok (.iconst 5, 1) := by decide +kernel
theorem dX6_sumOfStars_42 : decode cX6_sumOfStars 42 = .ok (.if_icmp .ne 30, 3) := by decide +kernel
theorem dX6_sumOfStars_45 : decode cX6_sumOfStars 45 = .ok (.iload_n 2, 1) := by decide +kernel
theorem dX6_sumOfStars_46 : decode cX6_sumOfStars 46 = .ok (.aload_n 0, 1) := by decide +kernel
theorem dX6_sumOfStars_47 : decode cX6_sumOfStars 47 = .ok (.getfield 11, 3) := by decide +kernel
theorem dX6_sumOfStars_50 : decode cX6_sumOfStars 50 = .ok (.iload_n 3, 1) := by decide +kernel
theorem dX6_sumOfStars_51 : decode cX6_sumOfStars 51 = .ok (.aaload, 1) := by decide +kernel
theorem dX6_sumOfStars_52 : decode cX6_sumOfStars 52 = .ok (.aload_n 0, 1) := by decide +kernel
theorem dX6_sumOfStars_53 : decode cX6_sumOfStars 53 = .ok (.getfield 114, 3) := by decide +kernel
theorem dX6_sumOfStars_56 : decode cX6_sumOfStars 56 = .ok (.invokevirtual 335, 3) := by decide +kernel
theorem dX6_sumOfStars_59 : decode cX6_sumOfStars 59 = .ok (.ifCond .eq 7, 3) := by decide +kernel
theorem dX6_sumOfStars_62 : decode cX6_sumOfStars 62 = .ok (.iconst 1, 1) := by decide +kernel
theorem dX6_sumOfStars_63 : decode cX6_sumOfStars 63 = .ok (.goto 4, 3) := by decide +kernel
theorem dX6_sumOfStars_66 : decode cX6_sumOfStars 66 = .ok (.iconst 0, 1) := by decide +kernel
theorem dX6_sumOfStars_67 : decode cX6_sumOfStars 67 = .ok (.iadd, 1) := by decide +kernel
theorem dX6_sumOfStars_68 : decode cX6_sumOfStars 68 = .ok (.istore_n 2, 1) := by decide +kernel
theorem dX6_sumOfStars_69 : decode cX6_sumOfStars 69 = .ok (.goto 15, 3) := by decide +kernel
theorem dX6_sumOfStars_72 : decode cX6_sumOfStars 72 = .ok (.iload_n 2, 1) := by decide +kernel
theorem dX6_sumOfStars_73 : decode cX6_sumOfStars 73 = .ok (.aload_n 0, 1) := by decide +kernel
theorem dX6_sumOfStars_74 : decode cX6_sumOfStars 74 = .ok (.getfield 11, 3) := by decide +kernel
theorem dX6_sumOfStars_77 : decode cX6_sumOfStars 77 = .ok (.iload_n 3, 1) := by decide +kernel
theorem dX6_sumOfStars_78 : decode cX6_sumOfStars 78 = .ok (.aaload, 1) := by decide +kernel
theorem dX6_sumOfStars_79 : decode cX6_sumOfStars 79 = .ok (.getfield 123, 3) := by decide +kernel
theorem dX6_sumOfStars_82 : decode cX6_sumOfStars 82 = .ok (.iadd, 1) := by decide +kernel
theorem dX6_sumOfStars_83 : decode cX6_sumOfStars 83 = .ok (.istore_n 2, 1) := by decide +kernel
theorem dX6_sumOfStars_84 : decode cX6_sumOfStars 84 = .ok (.iinc 3 1, 3) := by decide +kernel
theorem dX6_sumOfStars_87 : decode cX6_sumOfStars 87 = .ok (.goto (-83), 3) := by decide +kernel
theorem dX6_sumOfStars_90 : decode cX6_sumOfStars 90 = .ok (.iload_n 2, 1) := by decide +kernel
theorem dX6_sumOfStars_91 : decode cX6_sumOfStars 91 = .ok (.ireturn, 1) := by decide +kernel
theorem dX6_sumOfReceivers_0 : decode cX6_sumOfReceivers 0 = .ok (.iconst 0, 1) := by decide +kernel
theorem dX6_sumOfReceivers_1 : decode cX6_sumOfReceivers 1 = .ok (.istore_n 2, 1) := by decide +kernel
theorem dX6_sumOfReceivers_2 : decode cX6_sumOfReceivers 2 = .ok (.iconst 0, 1) := by decide +kernel
theorem dX6_sumOfReceivers_3 : decode cX6_sumOfReceivers 3 = .ok (.istore_n 3, 1) := by decide +kernel
theorem dX6_sumOfReceivers_4 : decode cX6_sumOfReceivers 4 = .ok (.iload_n 3, 1) := by decide +kernel
theorem dX6_sumOfReceivers_5 : decode cX6_sumOfReceivers 5 = .ok (.aload_n 0, 1) := by decide +kernel
theorem dX6_sumOfReceivers_6 : decode cX6_sumOfReceivers 6 = .ok (.getfield 132, 3) := by decide +kernel
theorem dX6_sumOfReceivers_9 : decode cX6_sumOfReceivers 9 = .ok (.if_icmp .ge 45, 3) := by decide +kernel
theorem dX6_sumOfReceivers_12 : decode cX6_sumOfReceivers 12 = .ok (.iload_n 2, 1) := by decide +kernel
theorem dX6_sumOfReceivers_13 : decode cX6_sumOfReceivers 13 = .ok (.iload_n 1, 1) := by decide +kernel
theorem dX6_sumOfReceivers_14 : decode cX6_sumOfReceivers 14 = .ok (.bipush 7, 2) := by decide +kernel
theorem dX6_sumOfReceivers_16 : decode cX6_sumOfReceivers 16 = .ok (.if_icmp .ne 18, 3) := by decide +kernel
theorem dX6_sumOfReceivers_19 : decode cX6_sumOfReceivers 19 = .ok (.aload_n 0, 1) := by decide +kernel
theorem dX6_sumOfReceivers_20 : decode cX6_sumOfReceivers 20 = .ok (.getfield 23, 3) := by decide +kernel
theorem dX6_sumOfReceivers_23 : decode cX6_sumOfReceivers 23 = .ok (.iload_n 3, 1) := by decide +kernel
theorem dX6_sumOfReceivers_24 : decode cX6_sumOfReceivers 24 = .ok (.aaload, 1) := by decide +kernel
theorem dX6_sumOfReceivers_25 : decode cX6_sumOfReceivers 25 = .ok (.getfield 202, 3) := by decide +kernel
theorem dX6_sumOfReceivers_28 : decode cX6_sumOfReceivers 28 = .ok (.getfield 405, 3) := by decide +kernel
theorem dX6_sumOfReceivers_31 : decode cX6_sumOfReceivers 31 = .ok (.goto 15, 3) := by decide +kernel
theorem dX6_sumOfReceivers_34 : decode cX6_sumOfReceivers 34 = .ok (.aload_n 0, 1) := by decide +kernel
theorem dX6_sumOfReceivers_35 : decode cX6_sumOfReceivers 35 = .ok (.getfield 23, 3) := by decide +kernel
theorem dX6_sumOfReceivers_38 : decode cX6_sumOfReceivers 38 = .ok (.iload_n 3, 1) := by decide +kernel
theorem dX6_sumOfReceivers_39 : decode cX6_sumOfReceivers 39 = .ok (.aaload, 1) := by decide +kernel
theorem dX6_sumOfReceivers_40 : decode cX6_sumOfReceivers 40 = .ok (.getfield 202, 3) := by decide +kernel
theorem dX6_sumOfReceivers_43 : decode cX6_sumOfReceivers 43 = .ok (.getfield 408, 3) := by decide +kernel
theorem dX6_sumOfReceivers_46 : decode cX6_sumOfReceivers 46 = .ok (.iadd, 1) := by decide +kernel
theorem dX6_sumOfReceivers_47 : decode cX6_sumOfReceivers 47 = .ok (.istore_n 2, 1) := by decide +kernel
theorem dX6_sumOfReceivers_48 : decode cX6_sumOfReceivers 48 = .ok (.iinc 3 1, 3) := by decide +kernel
theorem dX6_sumOfReceivers_51 : decode cX6_sumOfReceivers 51 = .ok (.goto (-47), 3) := by decide +kernel
theorem dX6_sumOfReceivers_54 : decode cX6_sumOfReceivers 54 = .ok (.iload_n 2, 1) := by decide +kernel
theorem dX6_sumOfReceivers_55 : decode cX6_sumOfReceivers 55 = .ok (.ireturn, 1) := by decide +kernel
theorem dX6_digestStar_0 : decode cX6_digestStar 0 = .ok (.lload_n 1, 1) := by decide +kernel
theorem dX6_digestStar_1 : decode cX6_digestStar 1 = .ok (.lstore 4, 2) := by decide +kernel
theorem dX6_digestStar_3 : decode cX6_digestStar 3 = .ok (.iconst 0, 1) := by decide +kernel
theorem dX6_digestStar_4 : decode cX6_digestStar 4 = .ok (.istore 6, 2) := by decide +kernel
theorem dX6_digestStar_6 : decode cX6_digestStar 6 = .ok (.iload 6, 2) := by decide +kernel
theorem dX6_digestStar_8 : decode cX6_digestStar 8 = .ok (.bipush 7, 2) := by decide +kernel
theorem dX6_digestStar_10 : decode cX6_digestStar 10 = .ok (.if_icmp .gt 25, 3) := by decide +kernel
theorem dX6_digestStar_13 : decode cX6_digestStar 13 = .ok (.lload 4, 2) := by decide +kernel
theorem dX6_digestStar_15 : decode cX6_digestStar 15 = .ok (.ldc2_w 286, 3) := by decide +kernel
theorem dX6_digestStar_18 : decode cX6_digestStar 18 = .ok (.lmul, 1) := by decide +kernel
theorem dX6_digestStar_19 : decode cX6_digestStar 19 = .ok (.aload_n 3, 1) := by decide +kernel
theorem dX6_digestStar_20 : decode cX6_digestStar 20 = .ok (.iload 6, 2) := by decide +kernel
theorem dX6_digestStar_22 : decode cX6_digestStar 22 = .ok (.invokevirtual 239, 3) := by decide +kernel
theorem dX6_digestStar_25 : decode cX6_digestStar 25 = .ok (.i2l, 1) := by decide +kernel
theorem dX6_digestStar_26 : decode cX6_digestStar 26 = .ok (.ladd, 1) := by decide +kernel
theorem dX6_digestStar_27 : decode cX6_digestStar 27 = .ok (.lstore 4, 2) := by decide +kernel
theorem dX6_digestStar_29 : decode cX6_digestStar 29 = .ok (.iinc 6 1, 3) := by decide +kernel
theorem dX6_digestStar_32 : decode cX6_digestStar 32 = .ok (.goto (-26), 3) := by decide +kernel
theorem dX6_digestStar_35 : decode cX6_digestStar 35 = .ok (.iconst 0, 1) := by decide +kernel
theorem dX6_digestStar_36 : decode cX6_digestStar 36 = .ok (.istore 6, 2) := by decide +kernel
theorem dX6_digestStar_38 : decode cX6_digestStar 38 = .ok (.iload 6, 2) := by decide +kernel
theorem dX6_digestStar_40 : decode cX6_digestStar 40 = .ok (.bipush 7, 2) := by decide +kernel
theorem dX6_digestStar_42 : decode cX6_digestStar 42 = .ok (.if_icmp .gt 29, 3) := by decide +kernel
theorem dX6_digestStar_45 : decode cX6_digestStar 45 = .ok (.lload 4, 2) := by decide +kernel
theorem dX6_digestStar_47 : decode cX6_digestStar 47 = .ok (.ldc2_w 286, 3) := by decide +kernel
theorem dX6_digestStar_50 : decode cX6_digestStar 50 = .ok (.lmul, 1) := by decide +kernel
theorem dX6_digestStar_51 : decode cX6_digestStar 51 = .ok (.aload_n 3, 1) := by decide +kernel
theorem dX6_digestStar_52 : decode cX6_digestStar 52 = .ok (.iload 6, 2) := by decide +kernel
theorem dX6_digestStar_54 : decode cX6_digestStar 54 = .ok (.aload_n 0, 1) := by decide +kernel
theorem dX6_digestStar_55 : decode cX6_digestStar 55 = .ok (.getfield 114, 3) := by decide +kernel
theorem dX6_digestStar_58 : decode cX6_digestStar 58 = .ok (.invokevirtual 242, 3) := by decide +kernel
theorem dX6_digestStar_61 : decode cX6_digestStar 61 = .ok (.i2l, 1) := by decide +kernel
theorem dX6_digestStar_62 : decode cX6_digestStar 62 = .ok (.ladd, 1) := by decide +kernel
theorem dX6_digestStar_63 : decode cX6_digestStar 63 = .ok (.lstore 4, 2) := by decide +kernel
theorem dX6_digestStar_65 : decode cX6_digestStar 65 = .ok (.iinc 6 1, 3) := by decide +kernel
theorem dX6_digestStar_68 : decode cX6_digestStar 68 = .ok (.goto (-30), 3) := by decide +kernel
theorem dX6_digestStar_71 : decode cX6_digestStar 71 = .ok (.iconst 0, 1) := by decide +kernel
theorem dX6_digestStar_72 : decode cX6_digestStar 72 = .ok (.istore 6, 2) := by decide +kernel
theorem dX6_digestStar_74 : decode cX6_digestStar 74 = .ok (.iload 6, 2) := by decide +kernel
theorem dX6_digestStar_76 : decode cX6_digestStar 76 = .ok (.aload_n 0, 1) := by decide +kernel
theorem dX6_digestStar_77 : decode cX6_digestStar 77 = .ok (.getfield 95, 3) := by decide +kernel
theorem dX6_digestStar_80 : decode cX6_digestStar 80 = .ok (.if_icmp .ge 30, 3) := by decide +kernel
theorem dX6_digestStar_83 : decode cX6_digestStar 83 = .ok (.lload 4, 2) := by decide +kernel
theorem dX6_digestStar_85 : decode cX6_digestStar 85 = .ok (.ldc2_w 286, 3) := by decide +kernel
theorem dX6_digestStar_88 : decode cX6_digestStar 88 = .ok (.lmul, 1) := by decide +kernel
theorem dX6_digestStar_89 : decode cX6_digestStar 89 = .ok (.aload_n 3, 1) := by decide +kernel
theorem dX6_digestStar_90 : decode cX6_digestStar 90 = .ok (.aload_n 0, 1) := by decide +kernel
theorem dX6_digestStar_91 : decode cX6_digestStar 91 = .ok (.getfield 17, 3) := by decide +kernel
theorem dX6_digestStar_94 : decode cX6_digestStar 94 = .ok (.iload 6, 2) := by decide +kernel
theorem dX6_digestStar_96 : decode cX6_digestStar 96 = .ok (.aaload, 1) := by decide +kernel
theorem dX6_digestStar_97 : decode cX6_digestStar 97 = .ok (.invokestatic 266, 3) := by decide +kernel
theorem dX6_digestStar_100 : decode cX6_digestStar 100 = .ok (.i2l, 1) := by decide +kernel
theorem dX6_digestStar_101 : decode cX6_digestStar 101 = .ok (.ladd, 1) := by decide +kernel
theorem dX6_digestStar_102 : decode cX6_digestStar 102 = .ok (.lstore 4, 2) := by decide +kernel
theorem dX6_digestStar_104 : decode cX6_digestStar 104 = .ok (.iinc 6 1, 3) := by decide +kernel
theorem dX6_digestStar_107 : decode cX6_digestStar 107 = .ok (.goto (-33), 3) := by decide +kernel
theorem dX6_digestStar_110 : decode cX6_digestStar 110 = .ok (.lload 4, 2) := by decide +kernel
theorem dX6_digestStar_112 : decode cX6_digestStar 112 = .ok (.lreturn, 1) := by decide +kernel
theorem dX6_digestReceiver_0 : decode cX6_digestReceiver 0 = .ok (.lload_n 1, 1) := by decide +kernel
theorem dX6_digestReceiver_1 : decode cX6_digestReceiver 1 = .ok (.lstore 4, 2) := by decide +kernel
theorem dX6_digestReceiver_3 : decode cX6_digestReceiver 3 = .ok (.iconst 0, 1) := by decide +kernel
theorem dX6_digestReceiver_4 : decode cX6_digestReceiver 4 = .ok (.istore 6, 2) := by decide +kernel
theorem dX6_digestReceiver_6 : decode cX6_digestReceiver 6 = .ok (.iload 6, 2) := by decide +kernel
theorem dX6_digestReceiver_8 : decode cX6_digestReceiver 8 = .ok (.bipush 13, 2) := by decide +kernel
theorem dX6_digestReceiver_10 : decode cX6_digestReceiver 10 = .ok (.if_icmp .gt 26, 3) := by decide +kernel
theorem dX6_digestReceiver_13 : decode cX6_digestReceiver 13 = .ok (.lload 4, 2) := by decide +kernel
theorem dX6_digestReceiver_15 : decode cX6_digestReceiver 15 = .ok (.ldc2_w 286, 3) := by decide +kernel
theorem dX6_digestReceiver_18 : decode cX6_digestReceiver 18 = .ok (.lmul, 1) := by decide +kernel
theorem dX6_digestReceiver_19 : decode cX6_digestReceiver 19 = .ok (.aload_n 0, 1) := by decide +kernel
theorem dX6_digestReceiver_20 : decode cX6_digestReceiver 20 = .ok (.aload_n 3, 1) := by decide +kernel
theorem dX6_digestReceiver_21 : decode cX6_digestReceiver 21 = .ok (.iload 6, 2) := by decide +kernel
theorem dX6_digestReceiver_23 : decode cX6_digestReceiver 23 = .ok (.invokevirtual 254, 3) := by decide +kernel
theorem dX6_digestReceiver_26 : decode cX6_digestReceiver 26 = .ok (.i2l, 1) := by decide +kernel
theorem dX6_digestReceiver_27 : decode cX6_digestReceiver 27 = .ok (.ladd, 1) := by decide +kernel
theorem dX6_digestReceiver_28 : decode cX6_digestReceiver 28 = .ok (.lstore 4, 2) := by decide +kernel
theorem dX6_digestReceiver_30 : decode cX6_digestReceiver 30 = .ok (.iinc 6 1, 3) := by decide +kernel
theorem dX6_digestReceiver_33 : decode cX6_digestReceiver 33 = .ok (.goto (-27), 3) := by decide +kernel
theorem dX6_digestReceiver_36 : decode cX6_digestReceiver 36 = .ok (.iconst 0, 1) := by decide +kernel
theorem dX6_digestReceiver_37 : decode cX6_digestReceiver 37 = .ok (.istore 6, 2) := by decide +kernel
theorem dX6_digestReceiver_39 : decode cX6_digestReceiver 39 = .ok (.iload 6, 2) := by decide +kernel
theorem dX6_digestReceiver_41 : decode cX6_digestReceiver 41 = .ok (.aload_n 0, 1) := by decide +kernel
theorem dX6_digestReceiver_42 : decode cX6_digestReceiver 42 = .ok (.getfield 47, 3) := by decide +kernel
theorem dX6_digestReceiver_45 : decode cX6_digestReceiver 45 = .ok (.if_icmp .ge 47, 3) := by decide +kernel
theorem dX6_digestReceiver_48 : decode cX6_digestReceiver 48 = .ok (.iconst 0, 1) := by decide +kernel
theorem dX6_digestReceiver_49 : decode cX6_digestReceiver 49 = .ok (.istore 7, 2) := by decide +kernel
theorem dX6_digestReceiver_51 : decode cX6_digestReceiver 51 = .ok (.iload 7, 2) := by decide +kernel
theorem dX6_digestReceiver_53 : decode cX6_digestReceiver 53 = .ok (.bipush 7, 2) := by decide +kernel
theorem dX6_digestReceiver_55 : decode cX6_digestReceiver 55 = .ok (.if_icmp .gt 31, 3) := by decide +kernel
theorem dX6_digestReceiver_58 : decode cX6_digestReceiver 58 = .ok (.lload 4, 2) := by decide +kernel
theorem dX6_digestReceiver_60 : decode cX6_digestReceiver 60 = .ok (.ldc2_w 286, 3) := by decide +kernel
theorem dX6_digestReceiver_63 : decode cX6_digestReceiver 63 = .ok (.lmul, 1) := by decide +kernel
theorem dX6_digestReceiver_64 : decode cX6_digestReceiver 64 = .ok (.aload_n 3, 1) := by decide +kernel
theorem dX6_digestReceiver_65 : decode cX6_digestReceiver 65 = .ok (.getfield 247, 3) := by decide +kernel
theorem dX6_digestReceiver_68 : decode cX6_digestReceiver 68 = .ok (.iload 6, 2) := by decide +kernel
theorem dX6_digestReceiver_70 : decode cX6_digestReceiver 70 = .ok (.aaload, 1) := by decide +kernel
theorem dX6_digestReceiver_71 : decode cX6_digestReceiver 71 = .ok (.iload 7, 2) := by decide +kernel
theorem dX6_digestReceiver_73 : decode cX6_digestReceiver 73 = .ok (.invokevirtual 251, 3) := by decide +kernel
theorem dX6_digestReceiver_76 : decode cX6_digestReceiver 76 = .ok (.i2l, 1) := by decide +kernel
theorem dX6_digestReceiver_77 : decode cX6_digestReceiver 77 = .ok (.ladd, 1) := by decide +kernel
theorem dX6_digestReceiver_78 : decode cX6_digestReceiver 78 = .ok (.lstore 4, 2) := by decide +kernel
theorem dX6_digestReceiver_80 : decode cX6_digestReceiver 80 = .ok (.iinc 7 1, 3) := by decide +kernel
theorem dX6_digestReceiver_83 : decode cX6_digestReceiver 83 = .ok (.goto (-32), 3) := by decide +kernel
theorem dX6_digestReceiver_86 : decode cX6_digestReceiver 86 = .ok (.iinc 6 1, 3) := by decide +kernel
theorem dX6_digestReceiver_89 : decode cX6_digestReceiver 89 = .ok (.goto (-50), 3) := by decide +kernel
theorem dX6_digestReceiver_92 : decode cX6_digestReceiver 92 = .ok (.lload 4, 2) := by decide +kernel
theorem dX6_digestReceiver_94 : decode cX6_digestReceiver 94 = .ok (.ldc2_w 286, 3) := by decide +kernel
theorem dX6_digestReceiver_97 : decode cX6_digestReceiver 97 = .ok (.lmul, 1) := by decide +kernel
theorem dX6_digestReceiver_98 : decode cX6_digestReceiver 98 = .ok (.aload_n 0, 1) := by decide +kernel
theorem dX6_digestReceiver_99 : decode cX6_digestReceiver 99 = .ok (.aload_n 3, 1) := by decide +kernel
theorem dX6_digestReceiver_100 : decode cX6_digestReceiver 100 = .ok (.bipush 6, 2) := by decide +kernel
theorem dX6_digestReceiver_102 : decode cX6_digestReceiver 102 = .ok (.invokevirtual 165, 3) := by decide +kernel
theorem dX6_digestReceiver_105 : decode cX6_digestReceiver 105 = .ok (.i2l, 1) := by decide +kernel
theorem dX6_digestReceiver_106 : decode cX6_digestReceiver 106 = .ok (.ladd, 1) := by decide +kernel
theorem dX6_digestReceiver_107 : decode cX6_digestReceiver 107 = .ok (.lreturn, 1) := by decide +kernel
end
section
theorem dX7_init_0 : decode cX7_init 0 = .ok (.aload_n 0, 1) := by decide +kernel
theorem dX7_init_1 : decode cX7_init 1 = .ok (.invokespecial 1, 3) := by decide +kernel
theorem dX7_init_4 : decode cX7_init 4 = .ok (.aload_n 0, 1) := by decide +kernel
theorem dX7_init_5 : decode cX7_init 5 = .ok (.bipush 8, 2) := by decide +kernel
theorem dX7_init_7 : decode cX7_init 7 = .ok (.bipush 6, 2) := by decide +kernel
theorem dX7_init_9 : decode cX7_init 9 = .ok (.multianewarray 9 2, 4) := by decide +kernel
theorem dX7_init_13 : decode cX7_init 13 = .ok (.putfield 11, 3) := by decide +kernel
theorem dX7_init_16 : decode cX7_init 16 = .ok (.aload_n 0, 1) := by decide +kernel
theorem dX7_init_17 : decode cX7_init 17 = .ok (.bipush 8, 2) := by decide +kernel
theorem dX7_init_19 : decode cX7_init 19 = .ok (.iconst 5, 1) := by decide +kernel
theorem dX7_init_20 : decode cX7_init 20 = .ok (.multianewarray 9 2, 4) := by decide +kernel
theorem dX7_init_24 : decode cX7_init 24 = .ok (.putfield 14, 3) := by decide +kernel
theorem dX7_init_27 : decode cX7_init 27 = .ok (.aload_n 0, 1) := by decide +kernel
theorem dX7_init_28 : decode cX7_init 28 = .ok (.iconst 3, 1) := by decide +kernel
theorem dX7_init_29 : decode cX7_init 29 = .ok (.iconst 2, 1) := by decide +kernel
theorem dX7_init_30 : decode cX7_init 30 = .ok (.multianewarray 9 2, 4) := by decide +kernel
theorem dX7_init_34 : decode cX7_init 34 = .ok (.putfield 17, 3) := by decide +kernel
theorem dX7_init_37 : decode cX7_init 37 = .ok (.aload_n 0, 1) := by decide +kernel
theorem dX7_init_38 : decode cX7_init 38 = .ok (.iconst 3, 1) := by decide +kernel
theorem dX7_init_39 : decode cX7_init 39 = .ok (.bipush 22, 2) := by decide +kernel
theorem dX7_init_41 : decode cX7_init 41 = .ok (.multianewarray 9 2, 4) := by decide +kernel
theorem dX7_init_45 : decode cX7_init 45 = .ok (.putfield 20, 3) := by decide +kernel
theorem dX7_init_48 : decode cX7_init 48 = .ok (.aload_n 0, 1) := by decide +kernel
theorem dX7_init_49 : decode cX7_init 49 = .ok (.iconst 3, 1) := by decide +kernel
theorem dX7_init_50 : decode cX7_init 50 = .ok (.bipush 8, 2) := by decide +kernel
theorem dX7_init_52 : decode cX7_init 52 = .ok (.bipush 12, 2) := by decide +kernel
theorem dX7_init_54 : decode cX7_init 54 = .ok (.multianewarray 23 3, 4) := by decide +kernel
theorem dX7_init_58 : decode cX7_init 58 = .ok (.putfield 25, 3) := by decide +kernel
theorem dX7_init_61 : decode cX7_init 61 = .ok (.aload_n 0, 1) := by decide +kernel
theorem dX7_init_62 : decode cX7_init 62 = .ok (.bipush 8, 2) := by decide +kernel
theorem dX7_init_64 : decode cX7_init 64 = .ok (.newarray .int, 2) := by decide +kernel
theorem dX7_init_66 : decode cX7_init 66 = .ok (.putfield 28, 3) := by decide +kernel
theorem dX7_init_69 : decode cX7_init 69 = .ok (.aload_n 0, 1) := by decide +kernel
theorem dX7_init_70 : decode cX7_init 70 = .ok (.bipush 8, 2) := by decide +kernel
theorem dX7_init_72 : decode cX7_init 72 = .ok (.newarray .int, 2) := by decide +kernel
theorem dX7_init_74 : decode cX7_init 74 = .ok (.putfield 32, 3) := by decide +kernel
theorem dX7_init_77 : decode cX7_init 77 = .ok (.aload_n 0, 1) := by decide +kernel
theorem dX7_init_78 : decode cX7_init 78 = .ok (.bipush 8, 2) := by decide +kernel
theorem dX7_init_80 : decode cX7_init 80 = .ok (.newarray .int, 2) := by decide +kernel
theorem dX7_init_82 : decode cX7_init 82 = .ok (.putfield 35, 3) := by decide +kernel
theorem dX7_init_85 : decode cX7_init 85 = .ok (.aload_n 0, 1) := by decide +kernel
theorem dX7_init_86 : decode cX7_init 86 = .ok (.bipush 8, 2) := by decide +kernel
theorem dX7_init_88 : decode cX7_init 88 = .ok (.newarray .int, 2) := by decide +kernel
theorem dX7_init_90 : decode cX7_init 90 = .ok (.putfield 38, 3) := by decide +kernel
theorem dX7_init_93 : decode cX7_init 93 = .ok (.return_, 1) := by decide +kernel
theorem dX7_thrown_0 : decode cX7_thrown 0 = .ok (.aload_n 0, 1) := by decide +kernel
theorem dX7_thrown_1 : decode cX7_thrown 1 = .ok (.getfield 41, 3) := by decide +kernel
theorem dX7_thrown_4 : decode cX7_thrown 4 = .ok (.ireturn, 1) := by decide +kernel
theorem dX7_refuse_0 : decode cX7_refuse 0 = .ok (.aload_n 0, 1) := by decide +kernel
theorem dX7_refuse_1 : decode cX7_refuse 1 = .ok (.iload_n 1, 1) := by decide +kernel
theorem dX7_refuse_2 : decode cX7_refuse 2 = .ok (.putfield 41, 3) := by decide +kernel
theorem dX7_refuse_5 : decode cX7_refuse 5 = .ok (.iconst 0, 1) := by decide +kernel
theorem dX7_refuse_6 : decode cX7_refuse 6 = .ok (.ireturn, 1) := by decide +kernel
theorem dX7_is_0 : decode cX7_is 0 = .ok (.iload_n 0, 1) := by decide +kernel
theorem dX7_is_1 : decode cX7_is 1 = .ok (.iload_n 1, 1) := by decide +kernel
theorem dX7_is_2 : decode cX7_is 2 = .ok (.if_icmp .lt 12, 3) := by decide +kernel
theorem dX7_is_5 : decode cX7_is 5 = .ok (.iload_n 0, 1) := by decide +kernel
theorem dX7_is_6 : decode cX7_is 6 = .ok (.iload_n 2, 1) := by decide +kernel
theorem dX7_is_7 : decode cX7_is 7 = .ok (.if_icmp .gt 7, 3) := by decide +kernel
theorem dX7_is_10 : decode cX7_is 10 = .ok (.iconst 1, 1) := by decide +kernel
theorem dX7_is_11 : decode cX7_is 11 = .ok (.goto 4, 3) := by decide +kernel
theorem dX7_is_14 : decode cX7_is 14 = .ok (.iconst 0, 1) := by decide +kernel
theorem dX7_is_15 : decode cX7_is 15 = .ok (.ireturn, 1) := by decide +kernel
theorem dX7_held_0 : decode cX7_held 0 = .ok (.iload_n 1, 1) := by decide +kernel
theorem dX7_held_1 : decode cX7_held 1 = .ok (.ineg, 1) := by decide +kernel
theorem dX7_held_2 : decode cX7_held 2 = .ok (.iload_n 1, 1) := by decide +kernel
theorem dX7_held_3 : decode cX7_held 3 = .ok (.iload_n 0, 1) := by decide +kernel
theorem dX7_held_4 : decode cX7_held 4 = .ok (.invokestatic 45, 3) := by decide +kernel
theorem dX7_held_7 : decode cX7_held 7 = .ok (.invokestatic 51, 3) := by decide +kernel
theorem dX7_held_10 : decode cX7_held 10 = .ok (.ireturn, 1) := by decide +kernel
theorem dX7_tOf_0 : decode cX7_tOf 0 = .ok (.iload_n 0, 1) := by decide +kernel
theorem dX7_tOf_1 : decode cX7_tOf 1 = .ok (.bipush 48, 2) := by decide +kernel
theorem dX7_tOf_3 : decode cX7_tOf 3 = .ok (.invokestatic 54, 3) := by decide +kernel
theorem dX7_tOf_6 : decode cX7_tOf 6 = .ok (.istore_n 1, 1) := by decide +kernel
theorem dX7_tOf_7 : decode cX7_tOf 7 = .ok (.iload_n 1, 1) := by decide +kernel
theorem dX7_tOf_8 : decode cX7_tOf 8 = .ok (.bipush 12, 2) := by decide +kernel
theorem dX7_tOf_10 : decode cX7_tOf 10 = .ok (.if_icmp .gt 7, 3) := by decide +kernel
theorem dX7_tOf_13 : decode cX7_tOf 13 = .ok (.iload_n 1, 1) := by decide +kernel
theorem dX7_tOf_14 : decode cX7_tOf 14 = .ok (.goto 20, 3) := by decide +kernel
theorem dX7_tOf_17 : decode cX7_tOf 17 = .ok (.iload_n 1, 1) := by decide +kernel
theorem dX7_tOf_18 : decode cX7_tOf 18 = .ok (.bipush 36, 2) := by decide +kernel
theorem dX7_tOf_20 : decode cX7_tOf 20 = .ok (.if_icmp .gt 10, 3) := by decide +kernel
theorem dX7_tOf_23 : decode cX7_tOf 23 = .ok (.bipush 24, 2) := by decide +kernel
theorem dX7_tOf_25 : decode cX7_tOf 25 = .ok (.iload_n 1, 1) := by decide +kernel
theorem dX7_tOf_26 : decode cX7_tOf 26 = .ok (.isub, 1) := by decide +kernel
theorem dX7_tOf_27 : decode cX7_tOf 27 = .ok (.goto 7, 3) := by decide +kernel
theorem dX7_tOf_30 : decode cX7_tOf 30 = .ok (.iload_n 1, 1) := by decide +kernel
theorem dX7_tOf_31 : decode cX7_tOf 31 = .ok (.bipush 48, 2) := by decide +kernel
theorem dX7_tOf_33 : decode cX7_tOf 33 = .ok (.isub, 1) := by decide +kernel
theorem dX7_tOf_34 : decode cX7_tOf 34 = .ok (.ireturn, 1) := by decide +kernel
theorem dX7_xAt_0 : decode cX7_xAt 0 = .ok (.aload_n 0, 1) := by decide +kernel
theorem dX7_xAt_1 : decode cX7_xAt 1 = .ok (.getfield 11, 3) := by decide +kernel
theorem dX7_xAt_4 : decode cX7_xAt 4 = .ok (.iload_n 1, 1) := by decide +kernel
theorem dX7_xAt_5 : decode cX7_xAt 5 = .ok (.aaload, 1) := by decide +kernel
theorem dX7_xAt_6 : decode cX7_xAt 6 = .ok (.iconst 0, 1) := by decide +kernel
theorem dX7_xAt_7 : decode cX7_xAt 7 = .ok (.iaload, 1) := by decide +kernel
theorem dX7_xAt_8 : decode cX7_xAt 8 = .ok (.iload_n 2, 1) := by decide +kernel
theorem dX7_xAt_9 : decode cX7_xAt 9 = .ok (.invokestatic 57, 3) := by decide +kernel
theorem dX7_xAt_12 : decode cX7_xAt 12 = .ok (.imul, 1) := by decide +kernel
theorem dX7_xAt_13 : decode cX7_xAt 13 = .ok (.bipush 12, 2) := by decide +kernel
theorem dX7_xAt_15 : decode cX7_xAt 15 = .ok (.idiv, 1) := by decide +kernel
theorem dX7_xAt_16 : decode cX7_xAt 16 = .ok (.ireturn, 1) := by decide +kernel
theorem dX7_yAt_0 : decode cX7_yAt 0 = .ok (.aload_n 0, 1) := by decide +kernel
theorem dX7_yAt_1 : decode cX7_yAt 1 = .ok (.getfield 11, 3) := by decide +kernel
theorem dX7_yAt_4 : decode cX7_yAt 4 = .ok (.iload_n 1, 1) := by decide +kernel
theorem dX7_yAt_5 : decode cX7_yAt 5 = .ok (.aaload, 1) := by decide +kernel
theorem dX7_yAt_6 : decode cX7_yAt 6 = .ok (.iconst 0, 1) := by decide +kernel
theorem dX7_yAt_7 : decode cX7_yAt 7 = .ok (.iaload, 1) := by decide +kernel
theorem dX7_yAt_8 : decode cX7_yAt 8 = .ok (.iload_n 2, 1) := by decide +kernel
theorem dX7_yAt_9 : decode cX7_yAt 9 = .ok (.bipush 12, 2) := by decide +kernel
theorem dX7_yAt_11 : decode cX7_yAt 11 = .ok (.iadd, 1) := by decide +kernel
theorem dX7_yAt_12 : decode cX7_yAt 12 = .ok (.invokestatic 57, 3) := by decide +kernel
theorem dX7_yAt_15 : decode cX7_yAt 15 = .ok (.imul, 1) := by decide +kernel
theorem dX7_yAt_16 : decode cX7_yAt 16 = .ok (.bipush 12, 2) := by decide +kernel
theorem dX7_yAt_18 : decode cX7_yAt 18 = .ok (.idiv, 1) := by decide +kernel
theorem dX7_yAt_19 : decode cX7_yAt 19 = .ok (.ireturn, 1) := by decide +kernel
theorem dX7_range_0 : decode cX7_range 0 = .ok (.iload_n 0, 1) := by decide +kernel
theorem dX7_range_1 : decode cX7_range 1 = .ok (.iload_n 2, 1) := by decide +kernel
theorem dX7_range_2 : decode cX7_range 2 = .ok (.isub, 1) := by decide +kernel
theorem dX7_range_3 : decode cX7_range 3 = .ok (.invokestatic 61, 3) := by decide +kernel
theorem dX7_range_6 : decode cX7_range 6 = .ok (.iload_n 1, 1) := by decide +kernel
theorem dX7_range_7 : decode cX7_range 7 = .ok (.iload_n 3, 1) := by decide +kernel
theorem dX7_range_8 : decode cX7_range 8 = .ok (.isub, 1) := by decide +kernel
theorem dX7_range_9 : decode cX7_range 9 = .ok (.invokestatic 61, 3) := by decide +kernel
theorem dX7_range_12 : decode cX7_range 12 = .ok (.invokestatic 51, 3) := by decide +kernel
theorem dX7_range_15 : decode cX7_range 15 = .ok (.ireturn, 1) := by decide +kernel
theorem dX7_phaseIn_0 : decode cX7_phaseIn 0 = .ok (.aload_n 0, 1) := by decide +kernel
theorem dX7_phaseIn_1 : decode cX7_phaseIn 1 = .ok (.getfield 11, 3) := by decide +kernel
theorem dX7_phaseIn_4 : decode cX7_phaseIn 4 = .ok (.iload_n 1, 1) := by decide +kernel
theorem dX7_phaseIn_5 : decode cX7_phaseIn 5 = .ok (.aaload, 1) := by decide +kernel
theorem dX7_phaseIn_6 : decode cX7_phaseIn 6 = .ok (.iconst 1, 1) := by decide +kernel
theorem dX7_phaseIn_7 : decode cX7_phaseIn 7 = .ok (.iaload, 1) := by decide +kernel
theorem dX7_phaseIn_8 : decode cX7_phaseIn 8 = .ok (.iload_n 2, 1) := by decide +kernel
theorem dX7_phaseIn_9 : decode cX7_phaseIn 9 = .ok (.aload_n 0, 1) := by decide +kernel
theorem dX7_phaseIn_10 : decode cX7_phaseIn 10 = .ok (.getfield 11, 3) := by decide +kernel
theorem dX7_phaseIn_13 : decode cX7_phaseIn 13 = .ok (.iload_n 1, 1) := by decide +kernel
theorem dX7_phaseIn_14 : decode cX7_phaseIn 14 = .ok (.aaload, 1) := by decide +kernel
theorem dX7_phaseIn_15 : decode cX7_phaseIn 15 = .ok (.iconst 2, 1) := by decide +kernel
theorem dX7_phaseIn_16 : decode cX7_phaseIn 16 = .ok (.iaload, 1) := by decide +kernel
theorem dX7_phaseIn_17 : decode cX7_phaseIn 17 = .ok (.imul, 1) := by decide +kernel
theorem dX7_phaseIn_18 : decode cX7_phaseIn 18 = .ok (.iadd, 1) := by decide +kernel
theorem dX7_phaseIn_19 : decode cX7_phaseIn 19 = .ok (.ireturn, 1) := by decide +kernel
theorem dX7_since_0 : decode cX7_since 0 = .ok (.aload_n 0, 1) := by decide +kernel
theorem dX7_since_1 : decode cX7_since 1 = .ok (.getfield 64, 3) := by decide +kernel
theorem dX7_since_4 : decode cX7_since 4 = .ok (.aload_n 0, 1) := by decide +kernel
theorem dX7_since_5 : decode cX7_since 5 = .ok (.getfield 14, 3) := by decide +kernel
theorem dX7_since_8 : decode cX7_since 8 = .ok (.iload_n 1, 1) := by decide +kernel
theorem dX7_since_9 : decode cX7_since 9 = .ok (.aaload, 1) := by decide +kernel
theorem dX7_since_10 : decode cX7_since 10 = .ok (.iconst 1, 1) := by decide +kernel
theorem dX7_since_11 : decode cX7_since 11 = .ok (.iaload, 1) := by decide +kernel
theorem dX7_since_12 : decode cX7_since 12 = .ok (.isub, 1) := by decide +kernel
theorem dX7_since_13 : decode cX7_since 13 = .ok (.ireturn, 1) := by decide +kernel
theorem dX7_toldPhase_0 : decode cX7_toldPhase 0 = .ok (.aload_n 0, 1) := by decide +kernel
theorem dX7_toldPhase_1 : decode cX7_toldPhase 1 = .ok (.getfield 14, 3) := by decide +kernel
theorem dX7_toldPhase_4 : decode cX7_toldPhase 4 = .ok (.iload_n 1, 1) := by decide +kernel
theorem dX7_toldPhase_5 : decode cX7_toldPhase 5 = .ok (.aaload, 1) := by decide +kernel
theorem dX7_toldPhase_6 : decode cX7_toldPhase 6 = .ok (.iconst 2, 1) := by decide +kernel
theorem dX7_toldPhase_7 : decode cX7_toldPhase 7 = .ok (.iaload, 1) := by decide +kernel
theorem dX7_toldPhase_8 : decode cX7_toldPhase 8 = .ok (.aload_n 0, 1) := by decide +kernel
theorem dX7_toldPhase_9 : decode cX7_toldPhase 9 = .ok (.iload_n 1, 1) := by decide +kernel
theorem dX7_toldPhase_10 : decode cX7_toldPhase 10 = .ok (.invokevirtual 67, 3) := by decide +kernel
theorem dX7_toldPhase_13 : decode cX7_toldPhase 13 = .ok (.aload_n 0, 1) := by decide +kernel
theorem dX7_toldPhase_14 : decode cX7_toldPhase 14 = .ok (.getfield 11, 3) := by decide +kernel
theorem dX7_toldPhase_17 : decode cX7_toldPhase 17 = .ok (.iload_n 1, 1) := by decide +kernel
theorem dX7_toldPhase_18 : decode cX7_toldPhase 18 = .ok (.aaload, 1) := by decide +kernel
theorem dX7_toldPhase_19 : decode cX7_toldPhase 19 = .ok (.iconst 2, 1) := by decide +kernel
theorem dX7_toldPhase_20 : decode cX7_toldPhase 20 = .ok (.iaload, 1) := by decide +kernel
theorem dX7_toldPhase_21 : decode cX7_toldPhase 21 = .ok (.imul, 1) := by decide +kernel
theorem dX7_toldPhase_22 : decode cX7_toldPhase 22 = .ok (.iadd, 1) := by decide +kernel
theorem dX7_toldPhase_23 : decode cX7_toldPhase 23 = .ok (.ireturn, 1) := by decide +kernel
theorem dX7_toldOffset_0 : decode cX7_toldOffset 0 = .ok (.aload_n 0, 1) := by decide +kernel
theorem dX7_toldOffset_1 : decode cX7_toldOffset 1 = .ok (.getfield 14, 3) := by decide +kernel
theorem dX7_toldOffset_4 : decode cX7_toldOffset 4 = .ok (.iload_n 1, 1) := by decide +kernel
theorem dX7_toldOffset_5 : decode cX7_toldOffset 5 = .ok (.aaload, 1) := by decide +kernel
theorem dX7_toldOffset_6 : decode cX7_toldOffset 6 = .ok (.iconst 3, 1) := by decide +kernel
theorem dX7_toldOffset_7 : decode cX7_toldOffset 7 = .ok (.iaload, 1) := by decide +kernel
theorem dX7_toldOffset_8 : decode cX7_toldOffset 8 = .ok (.aload_n 0, 1) := by decide +kernel
theorem dX7_toldOffset_9 : decode cX7_toldOffset 9 = .ok (.iload_n 1, 1) := by decide +kernel
theorem dX7_toldOffset_10 : decode cX7_toldOffset 10 = .ok (.invokevirtual 67, 3) := by decide +kernel
theorem dX7_toldOffset_13 : decode cX7_toldOffset 13 = .ok (.aload_n 0, 1) := by decide +kernel
theorem dX7_toldOffset_14 : decode cX7_toldOffset 14 = .ok (.getfield 14, 3) := by decide +kernel
theorem dX7_toldOffset_17 : decode cX7_toldOffset 17 = .ok (.iload_n 1, 1) := by decide +kernel
theorem dX7_toldOffset_18 : decode cX7_toldOffset 18 = .ok (.aaload, 1) := by decide +kernel
theorem dX7_toldOffset_19 : decode cX7_toldOffset 19 = .ok (.iconst 4, 1) := by decide +kernel
theorem dX7_toldOffset_20 : decode cX7_toldOffset 20 = .ok (.iaload, 1) := by decide +kernel
theorem dX7_toldOffset_21 : decode cX7_toldOffset 21 = .ok (.imul, 1) := by decide +kernel
theorem dX7_toldOffset_22 : decode cX7_toldOffset 22 = .ok (.iadd, 1) := by decide +kernel
theorem dX7_toldOffset_23 : decode cX7_toldOffset 23 = .ok (.ireturn, 1) := by decide +kernel
theorem dX7_holds_0 : decode cX7_holds 0 = .ok (.aload_n 0, 1) := by decide +kernel
theorem dX7_holds_1 : decode cX7_holds 1 = .ok (.getfield 14, 3) := by decide +kernel
theorem dX7_holds_4 : decode cX7_holds 4 = .ok (.iload_n 1, 1) := by decide +kernel
theorem dX7_holds_5 : decode cX7_holds 5 = .ok (.aaload, 1) := by decide +kernel
theorem dX7_holds_6 : decode cX7_holds 6 = .ok (.iconst 0, 1) := by decide +kernel
theorem dX7_holds_7 : decode cX7_holds 7 = .ok (.iaload, 1) := by decide +kernel
theorem dX7_holds_8 : decode cX7_holds 8 = .ok (.ifCond .le 17, 3) := by decide +kernel
theorem dX7_holds_11 : decode cX7_holds 11 = .ok (.aload_n 0, 1) := by decide +kernel
theorem dX7_holds_12 : decode cX7_holds 12 = .ok (.iload_n 1, 1) := by decide +kernel
theorem dX7_holds_13 : decode cX7_holds 13 = .ok (.invokevirtual 67, 3) := by decide +kernel
theorem dX7_holds_16 : decode cX7_holds 16 = .ok (.bipush 12, 2) := by decide +kernel
theorem dX7_holds_18 : decode cX7_holds 18 = .ok (.if_icmp .gt 7, 3) := by decide +kernel
theorem dX7_holds_21 : decode cX7_holds 21 = .ok (.iconst 1, 1) := by decide +kernel
theorem dX7_holds_22 : decode cX7_holds 22 = .ok (.goto 4, 3) := by decide +kernel
theorem dX7_holds_25 : decode cX7_holds 25 = .ok (.iconst 0, 1) := by decide +kernel
theorem dX7_holds_26 : decode cX7_holds 26 = .ok (.ireturn, 1) := by decide +kernel
theorem dX7_isHeard_0 : decode cX7_isHeard 0 = .ok (.aload_n 0, 1) := by decide +kernel
theorem dX7_isHeard_1 : decode cX7_isHeard 1 = .ok (.iload_n 1, 1) := by decide +kernel
theorem dX7_isHeard_2 : decode cX7_isHeard 2 = .ok (.aload_n 0, 1) := by decide +kernel
theorem dX7_isHeard_3 : decode cX7_isHeard 3 = .ok (.iload_n 1, 1) := by decide +kernel
theorem dX7_isHeard_4 : decode cX7_isHeard 4 = .ok (.iload_n 3, 1) := by decide +kernel
theorem dX7_isHeard_5 : decode cX7_isHeard 5 = .ok (.invokevirtual 70, 3) := by decide +kernel
theorem dX7_isHeard_8 : decode cX7_isHeard 8 = .ok (.invokevirtual 73, 3) := by decide +kernel
theorem dX7_isHeard_11 : decode cX7_isHeard 11 = .ok (.istore 4, 2) := by decide +kernel
theorem dX7_isHeard_13 : decode cX7_isHeard 13 = .ok (.aload_n 0, 1) := by decide +kernel
theorem dX7_isHeard_14 : decode cX7_isHeard 14 = .ok (.getfield 11, 3) := by decide +kernel
theorem dX7_isHeard_17 : decode cX7_isHeard 17 = .ok (.iload_n 1, 1) := by decide +kernel
theorem dX7_isHeard_18 : decode cX7_isHeard 18 = .ok (.aaload, 1) := by decide +kernel
theorem dX7_isHeard_19 : decode cX7_isHeard 19 = .ok (.iconst 5, 1) := by decide +kernel
theorem dX7_isHeard_20 : decode cX7_isHeard 20 = .ok (.iaload, 1) := by decide +kernel
theorem dX7_isHeard_21 : decode cX7_isHeard 21 = .ok (.iconst 1, 1) := by decide +kernel
theorem dX7_isHeard_22 : decode cX7_isHeard 22 = .ok (.if_icmp .ne 44, 3) := by decide +kernel
theorem dX7_isHeard_25 : decode cX7_isHeard 25 = .ok (.iload 4, 2) := by decide +kernel
theorem dX7_isHeard_27 : decode cX7_isHeard 27 = .ok (.bipush 10, 2) := by decide +kernel
theorem dX7_isHeard_29 : decode cX7_isHeard 29 = .ok (.if_icmp .lt 37, 3) := by decide +kernel
theorem dX7_isHeard_32 : decode cX7_isHeard 32 = .ok (.aload_n 0, 1) := by decide +kernel
theorem dX7_isHeard_33 : decode cX7_isHeard 33 = .ok (.iload_n 1, 1) := by decide +kernel
theorem dX7_isHeard_34 : decode cX7_isHeard 34 = .ok (.aload_n 0, 1) := by decide +kernel
theorem dX7_isHeard_35 : decode cX7_isHeard 35 = .ok (.iload_n 1, 1) := by decide +kernel
theorem dX7_isHeard_36 : decode cX7_isHeard 36 = .ok (.iload_n 3, 1) := by decide +kernel
theorem dX7_isHeard_37 : decode cX7_isHeard 37 = .ok (.invokevirtual 70, 3) := by decide +kernel
theorem dX7_isHeard_40 : decode cX7_isHeard 40 = .ok (.invokevirtual 76, 3) := by decide +kernel
theorem dX7_isHeard_43 : decode cX7_isHeard 43 = .ok (.aload_n 0, 1) := by decide +kernel
theorem dX7_isHeard_44 : decode cX7_isHeard 44 = .ok (.getfield 17, 3) := by decide +kernel
theorem dX7_isHeard_47 : decode cX7_isHeard 47 = .ok (.iload_n 2, 1) := by decide +kernel
theorem dX7_isHeard_48 : decode cX7_isHeard 48 = .ok (.aaload, 1) := by decide +kernel
theorem dX7_isHeard_49 : decode cX7_isHeard 49 = .ok (.iconst 0, 1) := by decide +kernel
theorem dX7_isHeard_50 : decode cX7_isHeard 50 = .ok (.iaload, 1) := by decide +kernel
theorem dX7_isHeard_51 : decode cX7_isHeard 51 = .ok (.isub, 1) := by decide +kernel
theorem dX7_isHeard_52 : decode cX7_isHeard 52 = .ok (.invokestatic 61, 3) := by decide +kernel
theorem dX7_isHeard_55 : decode cX7_isHeard 55 = .ok (.iconst 2, 1) := by decide +kernel
theorem dX7_isHeard_56 : decode cX7_isHeard 56 = .ok (.iload 4, 2) := by decide +kernel
theorem dX7_isHeard_58 : decode cX7_isHeard 58 = .ok (.imul, 1) := by decide +kernel
theorem dX7_isHeard_59 : decode cX7_isHeard 59 = .ok (.if_icmp .gt 7, 3) := by decide +kernel
theorem dX7_isHeard_62 : decode cX7_isHeard 62 = .ok (.iconst 1, 1) := by decide +kernel
theorem dX7_isHeard_63 : decode cX7_isHeard 63 = .ok (.goto 4, 3) := by decide +kernel
theorem dX7_isHeard_66 : decode cX7_isHeard 66 = .ok (.iconst 0, 1) := by decide +kernel
theorem dX7_isHeard_67 : decode cX7_isHeard 67 = .ok (.ireturn, 1) := by decide +kernel
theorem dX7_sees_0 : decode cX7_sees 0 = .ok (.aload_n 0, 1) := by decide +kernel
theorem dX7_sees_1 : decode cX7_sees 1 = .ok (.getfield 20, 3) := by decide +kernel
theorem dX7_sees_4 : decode cX7_sees 4 = .ok (.iload_n 1, 1) := by decide +kernel
theorem dX7_sees_5 : decode cX7_sees 5 = .ok (.aaload, 1) := by decide +kernel
theorem dX7_sees_6 : decode cX7_sees 6 = .ok (.astore 4, 2) := by decide +kernel
theorem dX7_sees_8 : decode cX7_sees 8 = .ok (.aload_n 0, 1) := by decide +kernel
theorem dX7_sees_9 : decode cX7_sees 9 = .ok (.iload_n 2, 1) := by decide +kernel
theorem dX7_sees_10 : decode cX7_sees 10 = .ok (.iload_n 3, 1) := by decide +kernel
theorem dX7_sees_11 : decode cX7_sees 11 = .ok (.invokevirtual 70, 3) := by decide +kernel
theorem dX7_sees_14 : decode cX7_sees 14 = .ok (.istore 5, 2) := by decide +kernel
theorem dX7_sees_16 : decode cX7_sees 16 = .ok (.aload_n 0, 1) := by decide +kernel
theorem dX7_sees_17 : decode cX7_sees 17 = .ok (.iload_n 2, 1) := by decide +kernel
theorem dX7_sees_18 : decode cX7_sees 18 = .ok (.iload 5, 2) := by decide +kernel
theorem dX7_sees_20 : decode cX7_sees 20 = .ok (.invokevirtual 76, 3) := by decide +kernel
theorem dX7_sees_23 : decode cX7_sees 23 = .ok (.aload 4, 2) := by decide +kernel
theorem dX7_sees_25 : decode cX7_sees 25 = .ok (.iconst 0, 1) := by decide +kernel
theorem dX7_sees_26 : decode cX7_sees 26 = .ok (.iaload, 1) := by decide +kernel
theorem dX7_sees_27 : decode cX7_sees 27 = .ok (.if_icmp .ge 10, 3) := by decide +kernel
theorem dX7_sees_30 : decode cX7_sees 30 = .ok (.aload 4, 2) := by decide +kernel
theorem dX7_sees_32 : decode cX7_sees 32 = .ok (.iconst 3, 1) := by decide +kernel
theorem dX7_sees_33 : decode cX7_sees 33 = .ok (.iaload, 1) := by decide +kernel
theorem dX7_sees_34 : decode cX7_sees 34 = .ok (.goto 7, 3) := by decide +kernel
theorem dX7_sees_37 : decode cX7_sees 37 = .ok (.aload 4, 2) := by decide +kernel
theorem dX7_sees_39 : decode cX7_sees 39 = .ok (.iconst 4, 1) := by decide +kernel
theorem dX7_sees_40 : decode cX7_sees 40 = .ok (.iaload, 1) := by decide +kernel
theorem dX7_sees_41 : decode cX7_sees 41 = .ok (.istore 6, 2) := by decide +kernel
theorem dX7_sees_43 : decode cX7_sees 43 = .ok (.aload_n 0, 1) := by decide +kernel
theorem dX7_sees_44 : decode cX7_sees 44 = .ok (.getfield 11, 3) := by decide +kernel
theorem dX7_sees_47 : decode cX7_sees 47 = .ok (.iload_n 2, 1) := by decide +kernel
theorem dX7_sees_48 : decode cX7_sees 48 = .ok (.aaload, 1) := by decide +kernel
theorem dX7_sees_49 : decode cX7_sees 49 = .ok (.iconst 5, 1) := by decide +kernel
theorem dX7_sees_50 : decode cX7_sees 50 = .ok (.iaload, 1) := by decide +kernel
theorem dX7_sees_51 : decode cX7_sees 51 = .ok (.iconst 1, 1) := by decide +kernel
theorem dX7_sees_52 : decode cX7_sees 52 = .ok (.if_icmp .ne 24, 3) := by decide +kernel
theorem dX7_sees_55 : decode cX7_sees 55 = .ok (.aload_n 0, 1) := by decide +kernel
theorem dX7_sees_56 : decode cX7_sees 56 = .ok (.iload_n 2, 1) := by decide +kernel
theorem dX7_sees_57 : decode cX7_sees 57 = .ok (.iload 5, 2) := by decide +kernel
theorem dX7_sees_59 : decode cX7_sees 59 = .ok (.invokevirtual 73, 3) := by decide +kernel
theorem dX7_sees_62 : decode cX7_sees 62 = .ok (.aload 4, 2) := by decide +kernel
theorem dX7_sees_64 : decode cX7_sees 64 = .ok (.iconst 1, 1) := by decide +kernel
theorem dX7_sees_65 : decode cX7_sees 65 = .ok (.iaload, 1) := by decide +kernel
theorem dX7_sees_66 : decode cX7_sees 66 = .ok (.isub, 1) := by decide +kernel
theorem dX7_sees_67 : decode cX7_sees 67 = .ok (.iload 6, 2) := by decide +kernel
theorem dX7_sees_69 : decode cX7_sees 69 = .ok (.if_icmp .lt 7, 3) := by decide +kernel
theorem dX7_sees_72 : decode cX7_sees 72 = .ok (.iconst 1, 1) := by decide +kernel
theorem dX7_sees_73 : decode cX7_sees 73 = .ok (.goto 4, 3) := by decide +kernel
theorem dX7_sees_76 : decode cX7_sees 76 = .ok (.iconst 0, 1) := by decide +kernel
theorem dX7_sees_77 : decode cX7_sees 77 = .ok (.ireturn, 1) := by decide +kernel
theorem dX7_setSeen_0 : decode cX7_setSeen 0 = .ok (.iconst 0, 1) := by decide +kernel
theorem dX7_setSeen_1 : decode cX7_setSeen 1 = .ok (.istore_n 3, 1) := by decide +kernel
theorem dX7_setSeen_2 : decode cX7_setSeen 2 = .ok (.iconst 0, 1) := by decide +kernel
theorem dX7_setSeen_3 : decode cX7_setSeen 3 = .ok (.istore 4, 2) := by decide +kernel
theorem dX7_setSeen_5 : decode cX7_setSeen 5 = .ok (.iload 4, 2) := by decide +kernel
theorem dX7_setSeen_7 : decode cX7_setSeen 7 = .ok (.aload_n 0, 1) := by decide +kernel
theorem dX7_setSeen_8 : decode cX7_setSeen 8 = .ok (.getfield 79, 3) := by decide +kernel
theorem dX7_setSeen_11 : decode cX7_setSeen 11 = .ok (.if_icmp .ge 31, 3) := by decide +kernel
theorem dX7_setSeen_14 : decode cX7_setSeen 14 = .ok (.iload_n 3, 1) := by decide +kernel
theorem dX7_setSeen_15 : decode cX7_setSeen 15 = .ok (.aload_n 0, 1) := by decide +kernel
theorem dX7_setSeen_16 : decode cX7_setSeen 16 = .ok (.iload_n 1, 1) := by decide +kernel
theorem dX7_setSeen_17 : decode cX7_setSeen 17 = .ok (.iload 4, 2) := by decide +kernel
theorem dX7_setSeen_19 : decode cX7_setSeen 19 = .ok (.iload_n 2, 1) := by decide +kernel
theorem dX7_setSeen_20 : decode cX7_setSeen 20 = .ok (.invokevirtual 82, 3) := by decide +kernel
theorem dX7_setSeen_23 : decode cX7_setSeen 23 = .ok (.ifCond .eq 10, 3) := by decide +kernel
theorem dX7_setSeen_26 : decode cX7_setSeen 26 = .ok (.iconst 1, 1) := by decide +kernel
theorem dX7_setSeen_27 : decode cX7_setSeen 27 = .ok (.iload 4, 2) := by decide +kernel
theorem dX7_setSeen_29 : decode cX7_setSeen 29 = .ok (.ishl, 1) := by decide +kernel
theorem dX7_setSeen_30 : decode cX7_setSeen 30 = .ok (.goto 4, 3) := by decide +kernel
theorem dX7_setSeen_33 : decode cX7_setSeen 33 = .ok (.iconst 0, 1) := by decide +kernel
theorem dX7_setSeen_34 : decode cX7_setSeen 34 = .ok (.ior, 1) := by decide +kernel
theorem dX7_setSeen_35 : decode cX7_setSeen 35 = .ok (.istore_n 3, 1) := by decide +kernel
theorem dX7_setSeen_36 : decode cX7_setSeen 36 = .ok (.iinc 4 1, 3) := by decide +kernel
theorem dX7_setSeen_39 : decode cX7_setSeen 39 = .ok (.goto (-34), 3) := by decide +kernel
theorem dX7_setSeen_42 : decode cX7_setSeen 42 = .ok (.iload_n 3, 1) := by decide +kernel
theorem dX7_setSeen_43 : decode cX7_setSeen 43 = .ok (.ireturn, 1) := by decide +kernel
theorem dX7_isStar_0 : decode cX7_isStar 0 = .ok (.iload_n 1, 1) := by decide +kernel
theorem dX7_isStar_1 : decode cX7_isStar 1 = .ok (.iconst 0, 1) := by decide +kernel
theorem dX7_isStar_2 : decode cX7_isStar 2 = .ok (.aload_n 0, 1) := by decide +kernel
theorem dX7_isStar_3 : decode cX7_isStar 3 = .ok (.getfield 79, 3) := by decide +kernel
theorem dX7_isStar_6 : decode cX7_isStar 6 = .ok (.iconst 1, 1) := by decide +kernel
theorem dX7_isStar_7 : decode cX7_isStar 7 = .ok (.isub, 1) := by decide +kernel
theorem dX7_isStar_8 : decode cX7_isStar 8 = .ok (.invokestatic 86, 3) := by decide +kernel
theorem dX7_isStar_11 : decode cX7_isStar 11 = .ok (.ireturn, 1) := by decide +kernel
theorem dX7_isStation_0 : decode cX7_isStation 0 = .ok (.iload_n 1, 1) := by decide +kernel
theorem dX7_isStation_1 : decode cX7_isStation 1 = .ok (.iconst 0, 1) := by decide +kernel
theorem dX7_isStation_2 : decode cX7_isStation 2 = .ok (.aload_n 0, 1) := by decide +kernel
theorem dX7_isStation_3 : decode cX7_isStation 3 = .ok (.getfield 89, 3) := by decide +kernel
theorem dX7_isStation_6 : decode cX7_isStation 6 = .ok (.iconst 1, 1) := by decide +kernel
theorem dX7_isStation_7 : decode cX7_isStation 7 = .ok (.isub, 1) := by decide +kernel
theorem dX7_isStation_8 : decode cX7_isStation 8 = .ok (.invokestatic 86, 3) := by decide +kernel
theorem dX7_isStation_11 : decode cX7_isStation 11 = .ok (.ireturn, 1) := by decide +kernel
theorem dX7_isReceiver_0 : decode cX7_isReceiver 0 = .ok (.iload_n 1, 1) := by decide +kernel
theorem dX7_isReceiver_1 : decode cX7_isReceiver 1 = .ok (.iconst 0, 1) := by decide +kernel
theorem dX7_isReceiver_2 : decode cX7_isReceiver 2 = .ok (.aload_n 0, 1) := by decide +kernel
theorem dX7_isReceiver_3 : decode cX7_isReceiver 3 = .ok (.getfield 92, 3) := by decide +kernel
theorem dX7_isReceiver_6 : decode cX7_isReceiver 6 = .ok (.iconst 1, 1) := by decide +kernel
theorem dX7_isReceiver_7 : decode cX7_isReceiver 7 = .ok (.isub, 1) := by decide +kernel
theorem dX7_isReceiver_8 : decode cX7_isReceiver 8 = .ok (.invokestatic 86, 3) := by decide +kernel
theorem dX7_isReceiver_11 : decode cX7_isReceiver 11 = .ok (.ireturn, 1) := by decide +kernel
theorem dX7_star_0 : decode cX7_star 0 = .ok (.aload_n 0, 1) := by decide +kernel
theorem dX7_star_1 : decode cX7_star 1 = .ok (.iconst 0, 1) := by decide +kernel
theorem dX7_star_2 : decode cX7_star 2 = .ok (.putfield 41, 3) := by decide +kernel
theorem dX7_star_5 : decode cX7_star 5 = .ok (.iload_n 1, 1) := by decide +kernel
theorem dX7_star_6 : decode cX7_star 6 = .ok (.bipush 60, 2) := by decide +kernel
theorem dX7_star_8 : decode cX7_star 8 = .ok (.sipush 200, 3) := by decide +kernel
theorem dX7_star_11 : decode cX7_star 11 = .ok (.invokestatic 86, 3) := by decide +kernel
theorem dX7_star_14 : decode cX7_star 14 = .ok (.ifCond .eq 48, 3) := by decide +kernel
theorem dX7_star_17 : decode cX7_star 17 = .ok (.iload_n 2, 1) := by decide +kernel
theorem dX7_star_18 : decode cX7_star 18 = .ok (.iconst 0, 1) := by decide +kernel
theorem dX7_star_19 : decode cX7_star 19 = .ok (.bipush 47, 2) := by decide +kernel
theorem dX7_star_21 : decode cX7_star 21 = .ok (.invokestatic 86, 3) := by decide +kernel
theorem dX7_star_24 : decode cX7_star 24 = .ok (.ifCond .eq 38, 3) := by decide +kernel
theorem dX7_star_27 : decode cX7_star 27 = .ok (.iload_n 3, 1) := by decide +kernel
theorem dX7_star_28 : decode cX7_star 28 = .ok (.bipush (-3), 2) := by decide +kernel
theorem dX7_star_30 : decode cX7_star 30 = .ok (.iconst 3, 1) := by decide +kernel
theorem dX7_star_31 : decode cX7_star 31 = .ok (.invokestatic 86, 3) := by decide +kernel
theorem dX7_star_34 : decode cX7_star 34 = .ok (.ifCond .eq 28, 3) := by decide +kernel
theorem dX7_star_37 : decode cX7_star 37 = .ok (.iload 4, 2) := by decide +kernel
theorem dX7_star_39 : decode cX7_star 39 = .ok (.sipush (-500), 3) := by decide +kernel
theorem dX7_star_42 : decode cX7_star 42 = .ok (.sipush 500, 3) := by decide +kernel
theorem dX7_star_45 : decode cX7_star 45 = .ok (.invokestatic 86, 3) := by decide +kernel
theorem dX7_star_48 : decode cX7_star 48 = .ok (.ifCond .eq 14, 3) := by decide +kernel
theorem dX7_star_51 : decode cX7_star 51 = .ok (.iload 5, 2) := by decide +kernel
theorem dX7_star_53 : decode cX7_star 53 = .ok (.bipush (-3), 2) := by decide +kernel
theorem dX7_star_55 : decode cX7_star 55 = .ok (.iconst 3, 1) := by decide +kernel
theorem dX7_star_56 : decode cX7_star 56 = .ok (.invokestatic 86, 3) := by decide +kernel
theorem dX7_star_59 : decode cX7_star 59 = .ok (.ifCond .ne 9, 3) := by decide +kernel
theorem dX7_star_62 : decode cX7_star 62 = .ok (.aload_n 0, 1) := by decide +kernel
theorem dX7_star_63 : decode cX7_star 63 = .ok (.iconst 1, 1) := by decide +kernel
theorem dX7_star_64 : decode cX7_star 64 = .ok (.invokevirtual 95, 3) := by decide +kernel
theorem dX7_star_67 : decode cX7_star 67 = .ok (.ireturn, 1) := by decide +kernel
theorem dX7_star_68 : decode cX7_star 68 = .ok (.aload_n 0, 1) := by decide +kernel
theorem dX7_star_69 : decode cX7_star 69 = .ok (.getfield 79, 3) := by decide +kernel
theorem dX7_star_72 : decode cX7_star 72 = .ok (.bipush 8, 2) := by decide +kernel
theorem dX7_star_74 : decode cX7_star 74 = .ok (.if_icmp .ne 9, 3) := by decide +kernel
theorem dX7_star_77 : decode cX7_star 77 = .ok (.aload_n 0, 1) := by decide +kernel
theorem dX7_star_78 : decode cX7_star 78 = .ok (.iconst 2, 1) := by decide +kernel
theorem dX7_star_79 : decode cX7_star 79 = .ok (.invokevirtual 95, 3) := by decide +kernel
theorem dX7_star_82 : decode cX7_star 82 = .ok (.ireturn, 1) := by decide +kernel
theorem dX7_star_83 : decode cX7_star 83 = .ok (.aload_n 0, 1) := by decide +kernel
theorem dX7_star_84 : decode cX7_star 84 = .ok (.getfield 11, 3) := by decide +kernel
theorem dX7_star_87 : decode cX7_star 87 = .ok (.aload_n 0, 1) := by decide +kernel
theorem dX7_star_88 : decode cX7_star 88 = .ok (.getfield 79, 3) := by decide +kernel
theorem dX7_star_91 : decode cX7_star 91 = .ok (.aaload, 1) := by decide +kernel
theorem dX7_star_92 : decode cX7_star 92 = .ok (.astore 6, 2) := by decide +kernel
theorem dX7_star_94 : decode cX7_star 94 = .ok (.aload 6, 2) := by decide +kernel
theorem dX7_star_96 : decode cX7_star 96 = .ok (.iconst 0, 1) := by decide +kernel
theorem dX7_star_97 : decode cX7_star 97 = .ok (.iload_n 1, 1) := by decide +kernel
theorem dX7_star_98 : decode cX7_star 98 = .ok (.iastore, 1) := by decide +kernel
theorem dX7_star_99 : decode cX7_star 99 = .ok (.aload 6, 2) := by decide +kernel
theorem dX7_star_101 : decode cX7_star 101 = .ok (.iconst 1, 1) := by decide +kernel
theorem dX7_star_102 : decode cX7_star 102 = .ok (.iload_n 2, 1) := by decide +kernel
theorem dX7_star_103 : decode cX7_star 103 = .ok (.iastore, 1) := by decide +kernel
theorem dX7_star_104 : decode cX7_star 104 = .ok (.aload 6, 2) := by decide +kernel
theorem dX7_star_106 : decode cX7_star 106 = .ok (.iconst 2, 1) := by decide +kernel
theorem dX7_star_107 : decode cX7_star 107 = .ok (.iload_n 3, 1) := by decide +kernel
theorem dX7_star_108 : decode cX7_star 108 = .ok (.iastore, 1) := by decide +kernel
theorem dX7_star_109 : decode cX7_star 109 = .ok (.aload 6, 2) := by decide +kernel
theorem dX7_star_111 : decode cX7_star 111 = .ok (.iconst 3, 1) := by decide +kernel
theorem dX7_star_112 : decode cX7_star 112 = .ok (.iload 4, 2) := by decide +kernel
theorem dX7_star_114 : decode cX7_star 114 = .ok (.iastore, 1) := by decide +kernel
theorem dX7_star_115 : decode cX7_star 115 = .ok (.aload 6, 2) := by decide +kernel
theorem dX7_star_117 : decode cX7_star 117 = .ok (.iconst 4, 1) := by decide +kernel
theorem dX7_star_118 : decode cX7_star 118 = .ok (.iload 5, 2) := by decide +kernel
theorem dX7_star_120 : decode cX7_star 120 = .ok (.iastore, 1) := by decide +kernel
theorem dX7_star_121 : decode cX7_star 121 = .ok (.aload 6, 2) := by decide +kernel
theorem dX7_star_123 : decode cX7_star 123 = .ok (.iconst 5, 1) := by decide +kernel
theorem dX7_star_124 : decode cX7_star 124 = .ok (.iconst 1, 1) := by decide +kernel
theorem dX7_star_125 : decode cX7_star 125 = .ok (.iastore, 1) := by decide +kernel
theorem dX7_star_126 : decode cX7_star 126 = .ok (.aload_n 0, 1) := by decide +kernel
theorem dX7_star_127 : decode cX7_star 127 = .ok (.getfield 14, 3) := by decide +kernel
theorem dX7_star_130 : decode cX7_star 130 = .ok (.aload_n 0, 1) := by decide +kernel
theorem dX7_star_131 : decode cX7_star 131 = .ok (.getfield 79, 3) := by decide +kernel
theorem dX7_star_134 : decode cX7_star 134 = .ok (.aaload, 1) := by decide +kernel
theorem dX7_star_135 : decode cX7_star 135 = .ok (.iconst 1, 1) := by decide +kernel
theorem dX7_star_136 : decode cX7_star 136 = .ok (.iconst (-1), 1) := by decide +kernel
theorem dX7_star_137 : decode cX7_star 137 = .ok (.iastore, 1) := by decide +kernel
theorem dX7_star_138 : decode cX7_star 138 = .ok (.aload_n 0, 1) := by decide +kernel
theorem dX7_star_139 : decode cX7_star 139 = .ok (.getfield 14, 3) := by decide +kernel
theorem dX7_star_142 : decode cX7_star 142 = .ok (.aload_n 0, 1) := by decide +kernel
theorem dX7_star_143 : decode cX7_star 143 = .ok (.getfield 79, 3) := by decide +kernel
theorem dX7_star_146 : decode cX7_star 146 = .ok (.aaload, 1) := by decide +kernel
theorem dX7_star_147 : decode cX7_star 147 = .ok (.iconst 2, 1) := by decide +kernel
theorem dX7_star_148 : decode cX7_star 148 = .ok (.iconst (-1), 1) := by decide +kernel
theorem dX7_star_149 : decode cX7_star 149 = .ok (.iastore, 1) := by decide +kernel
theorem dX7_star_150 : decode cX7_star 150 = .ok (.aload_n 0, 1) := by decide +kernel
theorem dX7_star_151 : decode cX7_star 151 = .ok (.dup, 1) := by decide +kernel
theorem dX7_star_152 : decode cX7_star 152 = .ok (.getfield 79, 3) := by decide +kernel
theorem dX7_star_155 : decode cX7_star 155 = .ok (.iconst 1, 1) := by decide +kernel
theorem dX7_star_156 : decode cX7_star 156 = .ok (.iadd, 1) := by decide +kernel
theorem dX7_star_157 : decode cX7_star 157 = .ok (.putfield 79, 3) := by decide +kernel
theorem dX7_star_160 : decode cX7_star 160 = .ok (.aload_n 0, 1) := by decide +kernel
theorem dX7_star_161 : decode cX7_star 161 = .ok (.getfield 79, 3) := by decide +kernel
theorem dX7_star_164 : decode cX7_star 164 = .ok (.iconst 1, 1) := by decide +kernel
theorem dX7_star_165 : decode cX7_star 165 = .ok (.isub, 1) := by decide +kernel
theorem dX7_star_166 : decode cX7_star 166 = .ok (.ireturn, 1) := by decide +kernel
theorem dX7_push_0 : decode cX7_push 0 = .ok (.aload_n 0, 1) := by decide +kernel
theorem dX7_push_1 : decode cX7_push 1 = .ok (.iconst 0, 1) := by decide +kernel
theorem dX7_push_2 : decode cX7_push 2 = .ok (.putfield 41, 3) := by decide +kernel
theorem dX7_push_5 : decode cX7_push 5 = .ok (.aload_n 0, 1) := by decide +kernel
theorem dX7_push_6 : decode cX7_push 6 = .ok (.iload_n 1, 1) := by decide +kernel
theorem dX7_push_7 : decode cX7_push 7 = .ok (.invokevirtual 98, 3) := by decide +kernel
theorem dX7_push_10 : decode cX7_push 10 = .ok (.ifCond .ne 9, 3) := by decide +kernel
theorem dX7_push_13 : decode cX7_push 13 = .ok (.aload_n 0, 1) := by decide +kernel
theorem dX7_push_14 : decode cX7_push 14 = .ok (.iconst 1, 1) := by decide +kernel
theorem dX7_push_15 : decode cX7_push 15 = .ok (.invokevirtual 95, 3) := by decide +kernel
theorem dX7_push_18 : decode cX7_push 18 = .ok (.ireturn, 1) := by decide +kernel
theorem dX7_push_19 : decode cX7_push 19 = .ok (.iload_n 2, 1) := by decide +kernel
theorem dX7_push_20 : decode cX7_push 20 = .ok (.bipush (-5), 2) := by decide +kernel
theorem dX7_push_22 : decode cX7_push 22 = .ok (.iconst 5, 1) := by decide +kernel
theorem dX7_push_23 : decode cX7_push 23 = .ok (.invokestatic 86, 3) := by decide +kernel
theorem dX7_push_26 : decode cX7_push 26 = .ok (.ifCond .ne 9, 3) := by decide +kernel
theorem dX7_push_29 : decode cX7_push 29 = .ok (.aload_n 0, 1) := by decide +kernel
theorem dX7_push_30 : decode cX7_push 30 = .ok (.iconst 2, 1) := by decide +kernel
theorem dX7_push_31 : decode cX7_push 31 = .ok (.invokevirtual 95, 3) := by decide +kernel
theorem dX7_push_34 : decode cX7_push 34 = .ok (.ireturn, 1) := by decide +kernel
theorem dX7_push_35 : decode cX7_push 35 = .ok (.aload_n 0, 1) := by decide +kernel
theorem dX7_push_36 : decode cX7_push 36 = .ok (.getfield 11, 3) := by decide +kernel
theorem dX7_push_39 : decode cX7_push 39 = .ok (.iload_n 1, 1) := by decide +kernel
theorem dX7_push_40 : decode cX7_push 40 = .ok (.aaload, 1) := by decide +kernel
theorem dX7_push_41 : decode cX7_push 41 = .ok (.iconst 1, 1) := by decide +kernel
theorem dX7_push_42 : decode cX7_push 42 = .ok (.aload_n 0, 1) := by decide +kernel
theorem dX7_push_43 : decode cX7_push 43 = .ok (.getfield 11, 3) := by decide +kernel
theorem dX7_push_46 : decode cX7_push 46 = .ok (.iload_n 1, 1) := by decide +kernel
theorem dX7_push_47 : decode cX7_push 47 = .ok (.aaload, 1) := by decide +kernel
theorem dX7_push_48 : decode cX7_push 48 = .ok (.iconst 1, 1) := by decide +kernel
theorem dX7_push_49 : decode cX7_push 49 = .ok (.iaload, 1) := by decide +kernel
theorem dX7_push_50 : decode cX7_push 50 = .ok (.iload_n 2, 1) := by decide +kernel
theorem dX7_push_51 : decode cX7_push 51 = .ok (.iadd, 1) := by decide +kernel
theorem dX7_push_52 : decode cX7_push 52 = .ok (.bipush 48, 2) := by decide +kernel
theorem dX7_push_54 : decode cX7_push 54 = .ok (.invokestatic 54, 3) := by decide +kernel
theorem dX7_push_57 : decode cX7_push 57 = .ok (.iastore, 1) := by decide +kernel
theorem dX7_push_58 : decode cX7_push 58 = .ok (.aload_n 0, 1) := by decide +kernel
theorem dX7_push_59 : decode cX7_push 59 = .ok (.getfield 11, 3) := by decide +kernel
theorem dX7_push_62 : decode cX7_push 62 = .ok (.iload_n 1, 1) := by decide +kernel
theorem dX7_push_63 : decode cX7_push 63 = .ok (.aaload, 1) := by decide +kernel
theorem dX7_push_64 : decode cX7_push 64 = .ok (.iconst 1, 1) := by decide +kernel
theorem dX7_push_65 : decode cX7_push 65 = .ok (.iaload, 1) := by decide +kernel
theorem dX7_push_66 : decode cX7_push 66 = .ok (.ireturn, 1) := by decide +kernel
theorem dX7_jump_0 : decode cX7_jump 0 = .ok (.aload_n 0, 1) := by decide +kernel
theorem dX7_jump_1 : decode cX7_jump 1 = .ok (.iconst 0, 1) := by decide +kernel
theorem dX7_jump_2 : decode cX7_jump 2 = .ok (.putfield 41, 3) := by decide +kernel
theorem dX7_jump_5 : decode cX7_jump 5 = .ok (.aload_n 0, 1) := by decide +kernel
theorem dX7_jump_6 : decode cX7_jump 6 = .ok (.iload_n 1, 1) := by decide +kernel
theorem dX7_jump_7 : decode cX7_jump 7 = .ok (.invokevirtual 98, 3) := by decide +kernel
theorem dX7_jump_10 : decode cX7_jump 10 = .ok (.ifCond .ne 9, 3) := by decide +kernel
theorem dX7_jump_13 : decode cX7_jump 13 = .ok (.aload_n 0, 1) := by decide +kernel
theorem dX7_jump_14 : decode cX7_jump 14 = .ok (.iconst 1, 1) := by decide +kernel
theorem dX7_jump_15 : decode cX7_jump 15 = .ok (.invokevirtual 95, 3) := by decide +kernel
theorem dX7_jump_18 : decode cX7_jump 18 = .ok (.ireturn, 1) := by decide +kernel
theorem dX7_jump_19 : decode cX7_jump 19 = .ok (.iload_n 2, 1) := by decide +kernel
theorem dX7_jump_20 : decode cX7_jump 20 = .ok (.bipush (-99), 2) := by decide +kernel
theorem dX7_jump_22 : decode cX7_jump 22 = .ok (.bipush 99, 2) := by decide +kernel
theorem dX7_jump_24 : decode cX7_jump 24 = .ok (.invokestatic 86, 3) := by decide +kernel
theorem dX7_jump_27 : decode cX7_jump 27 = .ok (.ifCond .eq 13, 3) := by decide +kernel
theorem dX7_jump_30 : decode cX7_jump 30 = .ok (.iload_n 3, 1) := by decide +kernel
theorem dX7_jump_31 : decode cX7_jump 31 = .ok (.bipush (-3), 2) := by decide +kernel
theorem dX7_jump_33 : decode cX7_jump 33 = .ok (.iconst 3, 1) := by decide +kernel
theorem dX7_jump_34 : decode cX7_jump 34 = .ok (.invokestatic 86, 3) := by decide +kernel
theorem dX7_jump_37 : decode cX7_jump 37 = .ok (.ifCond .ne 9, 3) := by decide +kernel
theorem dX7_jump_40 : decode cX7_jump 40 = .ok (.aload_n 0, 1) := by decide +kernel
theorem dX7_jump_41 : decode cX7_jump 41 = .ok (.iconst 2, 1) := by decide +kernel
theorem dX7_jump_42 : decode cX7_jump 42 = .ok (.invokevirtual 95, 3) := by decide +kernel
theorem dX7_jump_45 : decode cX7_jump 45 = .ok (.ireturn, 1) := by decide +kernel
theorem dX7_jump_46 : decode cX7_jump 46 = .ok (.aload_n 0, 1) := by decide +kernel
theorem dX7_jump_47 : decode cX7_jump 47 = .ok (.getfield 11, 3) := by decide +kernel
theorem dX7_jump_50 : decode cX7_jump 50 = .ok (.iload_n 1, 1) := by decide +kernel
theorem dX7_jump_51 : decode cX7_jump 51 = .ok (.aaload, 1) := by decide +kernel
theorem dX7_jump_52 : decode cX7_jump 52 = .ok (.iconst 3, 1) := by decide +kernel
theorem dX7_jump_53 : decode cX7_jump 53 = .ok (.aload_n 0, 1) := by decide +kernel
theorem dX7_jump_54 : decode cX7_jump 54 = .ok (.getfield 11, 3) := by decide +kernel
theorem dX7_jump_57 : decode cX7_jump 57 = .ok (.iload_n 1, 1) := by decide +kernel
theorem dX7_jump_58 : decode cX7_jump 58 = .ok (.aaload, 1) := by decide +kernel
theorem dX7_jump_59 : decode cX7_jump 59 = .ok (.iconst 3, 1) := by decide +kernel
theorem dX7_jump_60 : decode cX7_jump 60 = .ok (.iaload, 1) := by decide +kernel
theorem dX7_jump_61 : decode cX7_jump 61 = .ok (.iload_n 2, 1) := by decide +kernel
theorem dX7_jump_62 : decode cX7_jump 62 = .ok (.iadd, 1) := by decide +kernel
theorem dX7_jump_63 : decode cX7_jump 63 = .ok (.sipush 999, 3) := by decide +kernel
theorem dX7_jump_66 : decode cX7_jump 66 = .ok (.invokestatic 102, 3) := by decide +kernel
theorem dX7_jump_69 : decode cX7_jump 69 = .ok (.iastore, 1) := by decide +kernel
theorem dX7_jump_70 : decode cX7_jump 70 = .ok (.aload_n 0, 1) := by decide +kernel
theorem dX7_jump_71 : decode cX7_jump 71 = .ok (.getfield 11, 3) := by decide +kernel
theorem dX7_jump_74 : decode cX7_jump 74 = .ok (.iload_n 1, 1) := by decide +kernel
theorem dX7_jump_75 : decode cX7_jump 75 = .ok (.aaload, 1) := by decide +kernel
theorem dX7_jump_76 : decode cX7_jump 76 = .ok (.iconst 4, 1) := by decide +kernel
theorem dX7_jump_77 : decode cX7_jump 77 = .ok (.iload_n 3, 1) := by decide +kernel
theorem dX7_jump_78 : decode cX7_jump 78 = .ok (.iastore, 1) := by decide +kernel
theorem dX7_jump_79 : decode cX7_jump 79 = .ok (.aload_n 0, 1) := by decide +kernel
theorem dX7_jump_80 : decode cX7_jump 80 = .ok (.getfield 11, 3) := by decide +kernel
theorem dX7_jump_83 : decode cX7_jump 83 = .ok (.iload_n 1, 1) := by decide +kernel
theorem dX7_jump_84 : decode cX7_jump 84 = .ok (.aaload, 1) := by decide +kernel
theorem dX7_jump_85 : decode cX7_jump 85 = .ok (.iconst 3, 1) := by decide +kernel
theorem dX7_jump_86 : decode cX7_jump 86 = .ok (.iaload, 1) := by decide +kernel
theorem dX7_jump_87 : decode cX7_jump 87 = .ok (.ireturn, 1) := by decide +kernel
theorem dX7_health_0 : decode cX7_health 0 = .ok (.aload_n 0, 1) := by decide +kernel
theorem dX7_health_1 : decode cX7_health 1 = .ok (.aload_n 0, 1) := by decide +kernel
theorem dX7_health_2 : decode cX7_health 2 = .ok (.iload_n 1, 1) := by decide +kernel
theorem dX7_health_3 : decode cX7_health 3 = .ok (.invokevirtual 98, 3) := by decide +kernel
theorem dX7_health_6 : decode cX7_health 6 = .ok (.ifCond .eq 7, 3) := by decide +kernel
theorem dX7_health_9 : decode cX7_health 9 = .ok (.iconst 0, 1) := by decide +kernel
theorem dX7_health_10 : decode cX7_health 10 = .ok (.goto 4, 3) := by decide +kernel
theorem dX7_health_13 : decode cX7_health 13 = .ok (.iconst 1, 1) := by decide +kernel
theorem dX7_health_14 : decode cX7_health 14 = .ok (.putfield 41, 3) := by decide +kernel
theorem dX7_health_17 : decode cX7_health 17 = .ok (.aload_n 0, 1) := by decide +kernel
theorem dX7_health_18 : decode cX7_health 18 = .ok (.getfield 41, 3) := by decide +kernel
theorem dX7_health_21 : decode cX7_health 21 = .ok (.ifCond .le 5, 3) := by decide +kernel
theorem dX7_health_24 : decode cX7_health 24 = .ok (.iconst 0, 1) := by decide +kernel
theorem dX7_health_25 : decode cX7_health 25 = .ok (.ireturn, 1) := by decide +kernel
theorem dX7_health_26 : decode cX7_health 26 = .ok (.aload_n 0, 1) := by decide +kernel
theorem dX7_health_27 : decode cX7_health 27 = .ok (.getfield 11, 3) := by decide +kernel
theorem dX7_health_30 : decode cX7_health 30 = .ok (.iload_n 1, 1) := by decide +kernel
theorem dX7_health_31 : decode cX7_health 31 = .ok (.aaload, 1) := by decide +kernel
theorem dX7_health_32 : decode cX7_health 32 = .ok (.iconst 5, 1) := by decide +kernel
theorem dX7_health_33 : decode cX7_health 33 = .ok (.iaload, 1) := by decide +kernel
theorem dX7_health_34 : decode cX7_health 34 = .ok (.iconst 1, 1) := by decide +kernel
theorem dX7_health_35 : decode cX7_health 35 = .ok (.if_icmp .ne 7, 3) := by decide +kernel
theorem dX7_health_38 : decode cX7_health 38 = .ok (.iconst 1, 1) := by decide +kernel
theorem dX7_health_39 : decode cX7_health 39 = .ok (.goto 4, 3) := by decide +kernel
theorem dX7_health_42 : decode cX7_health 42 = .ok (.iconst 0, 1) := by decide +kernel
theorem dX7_health_43 : decode cX7_health 43 = .ok (.istore_n 3, 1) := by decide +kernel
theorem dX7_health_44 : decode cX7_health 44 = .ok (.aload_n 0, 1) := by decide +kernel
theorem dX7_health_45 : decode cX7_health 45 = .ok (.getfield 11, 3) := by decide +kernel
theorem dX7_health_48 : decode cX7_health 48 = .ok (.iload_n 1, 1) := by decide +kernel
theorem dX7_health_49 : decode cX7_health 49 = .ok (.aaload, 1) := by decide +kernel
theorem dX7_health_50 : decode cX7_health 50 = .ok (.iconst 5, 1) := by decide +kernel
theorem dX7_health_51 : decode cX7_health 51 = .ok (.iload_n 2, 1) := by decide +kernel
theorem dX7_health_52 : decode cX7_health 52 = .ok (.ifCond .eq 7, 3) := by decide +kernel
theorem dX7_health_55 : decode cX7_health 55 = .ok (.iconst 1, 1) := by decide +kernel
theorem dX7_health_56 : decode cX7_health 56 = .ok (.goto 4, 3) := by decide +kernel
theorem dX7_health_59 : decode cX7_health 59 = .ok (.iconst 0, 1) := by decide +kernel
theorem dX7_health_60 : decode cX7_health 60 = .ok (.iastore, 1) := by decide +kernel
theorem dX7_health_61 : decode cX7_health 61 = .ok (.iload_n 3, 1) := by decide +kernel
theorem dX7_health_62 : decode cX7_health 62 = .ok (.ireturn, 1) := by decide +kernel
theorem dX7_station_0 : decode cX7_station 0 = .ok (.aload_n 0, 1) := by decide +kernel
theorem dX7_station_1 : decode cX7_station 1 = .ok (.iconst 0, 1) := by decide +kernel
theorem dX7_station_2 : decode cX7_station 2 = .ok (.putfield 41, 3) := by decide +kernel
theorem dX7_station_5 : decode cX7_station 5 = .ok (.iload_n 1, 1) := by decide +kernel
theorem dX7_station_6 : decode cX7_station 6 = .ok (.bipush (-50), 2) := by decide +kernel
theorem dX7_station_8 : decode cX7_station 8 = .ok (.bipush 50, 2) := by decide +kernel
theorem dX7_station_10 : decode cX7_station 10 = .ok (.invokestatic 86, 3) := by decide +kernel
theorem dX7_station_13 : decode cX7_station 13 = .ok (.ifCond .eq 13, 3) := by decide +kernel
theorem dX7_station_16 : decode cX7_station 16 = .ok (.iload_n 2, 1) := by decide +kernel
theorem dX7_station_17 : decode cX7_station 17 = .ok (.iconst 0, 1) := by decide +kernel
theorem dX7_station_18 : decode cX7_station 18 = .ok (.bipush 9, 2) := by decide +kernel
theorem dX7_station_20 : decode cX7_station 20 = .ok (.invokestatic 86, 3) := by decide +kernel
theorem dX7_station_23 : decode cX7_station 23 = .ok (.ifCond .ne 9, 3) := by decide +kernel
theorem dX7_station_26 : decode cX7_station 26 = .ok (.aload_n 0, 1) := by decide +kernel
theorem dX7_station_27 : decode cX7_station 27 = .ok (.iconst 1, 1) := by decide +kernel
theorem dX7_station_28 : decode cX7_station 28 = .ok (.invokevirtual 95, 3) := by decide +kernel
theorem dX7_station_31 : decode cX7_station 31 = .ok (.ireturn, 1) := by decide +kernel
theorem dX7_station_32 : decode cX7_station 32 = .ok (.aload_n 0, 1) := by decide +kernel
theorem dX7_station_33 : decode cX7_station 33 = .ok (.getfield 89, 3) := by decide +kernel
theorem dX7_station_36 : decode cX7_station 36 = .ok (.iconst 3, 1) := by decide +kernel
theorem dX7_station_37 : decode cX7_station 37 = .ok (.if_icmp .ne 9, 3) := by decide +kernel
theorem dX7_station_40 : decode cX7_station 40 = .ok (.aload_n 0, 1) := by decide +kernel
theorem dX7_station_41 : decode cX7_station 41 = .ok (.iconst 2, 1) := by decide +kernel
theorem dX7_station_42 : decode cX7_station 42 = .ok (.invokevirtual 95, 3) := by decide +kernel
theorem dX7_station_45 : decode cX7_station 45 = .ok (.ireturn, 1) := by decide +kernel
theorem dX7_station_46 : decode cX7_station 46 = .ok (.aload_n 0, 1) := by decide +kernel
theorem dX7_station_47 : decode cX7_station 47 = .ok (.getfield 17, 3) := by decide +kernel
theorem dX7_station_50 : decode cX7_station 50 = .ok (.aload_n 0, 1) := by decide +kernel
theorem dX7_station_51 : decode cX7_station 51 = .ok (.getfield 89, 3) := by decide +kernel
theorem dX7_station_54 : decode cX7_station 54 = .ok (.aaload, 1) := by decide +kernel
theorem dX7_station_55 : decode cX7_station 55 = .ok (.iconst 0, 1) := by decide +kernel
theorem dX7_station_56 : decode cX7_station 56 = .ok (.iload_n 1, 1) := by decide +kernel
theorem dX7_station_57 : decode cX7_station 57 = .ok (.iastore, 1) := by decide +kernel
theorem dX7_station_58 : decode cX7_station 58 = .ok (.aload_n 0, 1) := by decide +kernel
theorem dX7_station_59 : decode cX7_station 59 = .ok (.getfield 17, 3) := by decide +kernel
theorem dX7_station_62 : decode cX7_station 62 = .ok (.aload_n 0, 1) := by decide +kernel
theorem dX7_station_63 : decode cX7_station 63 = .ok (.getfield 89, 3) := by decide +kernel
theorem dX7_station_66 : decode cX7_station 66 = .ok (.aaload, 1) := by decide +kernel
theorem dX7_station_67 : decode cX7_station 67 = .ok (.iconst 1, 1) := by decide +kernel
theorem dX7_station_68 : decode cX7_station 68 = .ok (.iload_n 2, 1) := by decide +kernel
theorem dX7_station_69 : decode cX7_station 69 = .ok (.iastore, 1) := by decide +kernel
theorem dX7_station_70 : decode cX7_station 70 = .ok (.aload_n 0, 1) := by decide +kernel
theorem dX7_station_71 : decode cX7_station 71 = .ok (.dup, 1) := by decide +kernel
theorem dX7_station_72 : decode cX7_station 72 = .ok (.getfield 89, 3) := by decide +kernel
theorem dX7_station_75 : decode cX7_station 75 = .ok (.iconst 1, 1) := by decide +kernel
theorem dX7_station_76 : decode cX7_station 76 = .ok (.iadd, 1) := by decide +kernel
theorem dX7_station_77 : decode cX7_station 77 = .ok (.putfield 89, 3) := by decide +kernel
theorem dX7_station_80 : decode cX7_station 80 = .ok (.aload_n 0, 1) := by decide +kernel
theorem dX7_station_81 : decode cX7_station 81 = .ok (.getfield 89, 3) := by decide +kernel
theorem dX7_station_84 : decode cX7_station 84 = .ok (.iconst 1, 1) := by decide +kernel
theorem dX7_station_85 : decode cX7_station 85 = .ok (.isub, 1) := by decide +kernel
theorem dX7_station_86 : decode cX7_station 86 = .ok (.ireturn, 1) := by decide +kernel
theorem dX7_listen_0 : decode cX7_listen 0 = .ok (.aload_n 0, 1) := by decide +kernel
theorem dX7_listen_1 : decode cX7_listen 1 = .ok (.iconst 0, 1) := by decide +kernel
theorem dX7_listen_2 : decode cX7_listen 2 = .ok (.putfield 41, 3) := by decide +kernel
theorem dX7_listen_5 : decode cX7_listen 5 = .ok (.aload_n 0, 1) := by decide +kernel
theorem dX7_listen_6 : decode cX7_listen 6 = .ok (.iload_n 1, 1) := by decide +kernel
theorem dX7_listen_7 : decode cX7_listen 7 = .ok (.invokevirtual 105, 3) := by decide +kernel
theorem dX7_listen_10 : decode cX7_listen 10 = .ok (.ifCond .eq 11, 3) := by decide +kernel
theorem dX7_listen_13 : decode cX7_listen 13 = .ok (.aload_n 0, 1) := by decide +kernel
theorem dX7_listen_14 : decode cX7_listen 14 = .ok (.iload_n 2, 1) := by decide +kernel
theorem dX7_listen_15 : decode cX7_listen 15 = .ok (.invokevirtual 98, 3) := by decide +kernel
theorem dX7_listen_18 : decode cX7_listen 18 = .ok (.ifCond .ne 9, 3) := by decide +kernel
theorem dX7_listen_21 : decode cX7_listen 21 = .ok (.aload_n 0, 1) := by decide +kernel
theorem dX7_listen_22 : decode cX7_listen 22 = .ok (.iconst 1, 1) := by decide +kernel
theorem dX7_listen_23 : decode cX7_listen 23 = .ok (.invokevirtual 95, 3) := by decide +kernel
theorem dX7_listen_26 : decode cX7_listen 26 = .ok (.ireturn, 1) := by decide +kernel
theorem dX7_listen_27 : decode cX7_listen 27 = .ok (.aload_n 0, 1) := by decide +kernel
theorem dX7_listen_28 : decode cX7_listen 28 = .ok (.iload_n 2, 1) := by decide +kernel
theorem dX7_listen_29 : decode cX7_listen 29 = .ok (.iload_n 1, 1) := by decide +kernel
theorem dX7_listen_30 : decode cX7_listen 30 = .ok (.iconst 0, 1) := by decide +kernel
theorem dX7_listen_31 : decode cX7_listen 31 = .ok (.invokevirtual 108, 3) := by decide +kernel
theorem dX7_listen_34 : decode cX7_listen 34 = .ok (.ifCond .ne 9, 3) := by decide +kernel
theorem dX7_listen_37 : decode cX7_listen 37 = .ok (.aload_n 0, 1) := by decide +kernel
theorem dX7_listen_38 : decode cX7_listen 38 = .ok (.iconst 2, 1) := by decide +kernel
theorem dX7_listen_39 : decode cX7_listen 39 = .ok (.invokevirtual 95, 3) := by decide +kernel
theorem dX7_listen_42 : decode cX7_listen 42 = .ok (.ireturn, 1) := by decide +kernel
theorem dX7_listen_43 : decode cX7_listen 43 = .ok (.aload_n 0, 1) := by decide +kernel
theorem dX7_listen_44 : decode cX7_listen 44 = .ok (.getfield 14, 3) := by decide +kernel
theorem dX7_listen_47 : decode cX7_listen 47 = .ok (.iload_n 2, 1) := by decide +kernel
theorem dX7_listen_48 : decode cX7_listen 48 = .ok (.aaload, 1) := by decide +kernel
theorem dX7_listen_49 : decode cX7_listen 49 = .ok (.astore_n 3, 1) := by decide +kernel
theorem dX7_listen_50 : decode cX7_listen 50 = .ok (.aload_n 0, 1) := by decide +kernel
theorem dX7_listen_51 : decode cX7_listen 51 = .ok (.getfield 11, 3) := by decide +kernel
theorem dX7_listen_54 : decode cX7_listen 54 = .ok (.iload_n 2, 1) := by decide +kernel
theorem dX7_listen_55 : decode cX7_listen 55 = .ok (.aaload, 1) := by decide +kernel
theorem dX7_listen_56 : decode cX7_listen 56 = .ok (.iconst 3, 1) := by decide +kernel
theorem dX7_listen_57 : decode cX7_listen 57 = .ok (.iaload, 1) := by decide +kernel
theorem dX7_listen_58 : decode cX7_listen 58 = .ok (.aload_n 0, 1) := by decide +kernel
theorem dX7_listen_59 : decode cX7_listen 59 = .ok (.getfield 17, 3) := by decide +kernel
theorem dX7_listen_62 : decode cX7_listen 62 = .ok (.iload_n 1, 1) := by decide +kernel
theorem dX7_listen_63 : decode cX7_listen 63 = .ok (.aaload, 1) := by decide +kernel
theorem dX7_listen_64 : decode cX7_listen 64 = .ok (.iconst 1, 1) := by decide +kernel
theorem dX7_listen_65 : decode cX7_listen 65 = .ok (.iaload, 1) := by decide +kernel
theorem dX7_listen_66 : decode cX7_listen 66 = .ok (.iadd, 1) := by decide +kernel
theorem dX7_listen_67 : decode cX7_listen 67 = .ok (.istore 4, 2) := by decide +kernel
theorem dX7_listen_69 : decode cX7_listen 69 = .ok (.aload_n 3, 1) := by decide +kernel
theorem dX7_listen_70 : decode cX7_listen 70 = .ok (.iconst 0, 1) := by decide +kernel
theorem dX7_listen_71 : decode cX7_listen 71 = .ok (.iaload, 1) := by decide +kernel
theorem dX7_listen_72 : decode cX7_listen 72 = .ok (.ifCond .le 31, 3) := by decide +kernel
theorem dX7_listen_75 : decode cX7_listen 75 = .ok (.aload_n 0, 1) := by decide +kernel
theorem dX7_listen_76 : decode cX7_listen 76 = .ok (.iload_n 2, 1) := by decide +kernel
theorem dX7_listen_77 : decode cX7_listen 77 = .ok (.invokevirtual 67, 3) := by decide +kernel
theorem dX7_listen_80 : decode cX7_listen 80 = .ok (.ifCond .le 23, 3) := by decide +kernel
theorem dX7_listen_83 : decode cX7_listen 83 = .ok (.aload_n 3, 1) := by decide +kernel
theorem dX7_listen_84 : decode cX7_listen 84 = .ok (.iconst 4, 1) := by decide +kernel
theorem dX7_listen_85 : decode cX7_listen 85 = .ok (.iload 4, 2) := by decide +kernel
theorem dX7_listen_87 : decode cX7_listen 87 = .ok (.aload_n 3, 1) := by decide +kernel
theorem dX7_listen_88 : decode cX7_listen 88 = .ok (.iconst 3, 1) := by decide +kernel
theorem dX7_listen_89 : decode cX7_listen 89 = .ok (.iaload, 1) := by decide +kernel
theorem dX7_listen_90 : decode cX7_listen 90 = .ok (.isub, 1) := by decide +kernel
theorem dX7_listen_91 : decode cX7_listen 91 = .ok (.aload_n 0, 1) := by decide +kernel
theorem dX7_listen_92 : decode cX7_listen 92 = .ok (.iload_n 2, 1) := by decide +kernel
theorem dX7_listen_93 : decode cX7_listen 93 = .ok (.invokevirtual 67, 3) := by decide +kernel
theorem dX7_listen_96 : decode cX7_listen 96 = .ok (.idiv, 1) := by decide +kernel
theorem dX7_listen_97 : decode cX7_listen 97 = .ok (.bipush 9, 2) := by decide +kernel
theorem dX7_listen_99 : decode cX7_listen 99 = .ok (.invokestatic 102, 3) := by decide +kernel
theorem dX7_listen_102 : decode cX7_listen 102 = .ok (.iastore, 1) := by decide +kernel
theorem dX7_listen_103 : decode cX7_listen 103 = .ok (.aload_n 3, 1) := by decide +kernel
theorem dX7_listen_104 : decode cX7_listen 104 = .ok (.iconst 0, 1) := by decide +kernel
theorem dX7_listen_105 : decode cX7_listen 105 = .ok (.dup2, 1) := by decide +kernel
theorem dX7_listen_106 : decode cX7_listen 106 = .ok (.iaload, 1) := by decide +kernel
theorem dX7_listen_107 : decode cX7_listen 107 = .ok (.iconst 1, 1) := by decide +kernel
theorem dX7_listen_108 : decode cX7_listen 108 = .ok (.iadd, 1) := by decide +kernel
theorem dX7_listen_109 : decode cX7_listen 109 = .ok (.iastore, 1) := by decide +kernel
theorem dX7_listen_110 : decode cX7_listen 110 = .ok (.aload_n 3, 1) := by decide +kernel
theorem dX7_listen_111 : decode cX7_listen 111 = .ok (.iconst 1, 1) := by decide +kernel
theorem dX7_listen_112 : decode cX7_listen 112 = .ok (.aload_n 0, 1) := by decide +kernel
theorem dX7_listen_113 : decode cX7_listen 113 = .ok (.getfield 64, 3) := by decide +kernel
theorem dX7_listen_116 : decode cX7_listen 116 = .ok (.iastore, 1) := by decide +kernel
theorem dX7_listen_117 : decode cX7_listen 117 = .ok (.aload_n 3, 1) := by decide +kernel
theorem dX7_listen_118 : decode cX7_listen 118 = .ok (.iconst 2, 1) := by decide +kernel
theorem dX7_listen_119 : decode cX7_listen 119 = .ok (.aload_n 0, 1) := by decide +kernel
theorem dX7_listen_120 : decode cX7_listen 120 = .ok (.getfield 11, 3) := by decide +kernel
theorem dX7_listen_123 : decode cX7_listen 123 = .ok (.iload_n 2, 1) := by decide +kernel
theorem dX7_listen_124 : decode cX7_listen 124 = .ok (.aaload, 1) := by decide +kernel
theorem dX7_listen_125 : decode cX7_listen 125 = .ok (.iconst 1, 1) := by decide +kernel
theorem dX7_listen_126 : decode cX7_listen 126 = .ok (.iaload, 1) := by decide +kernel
theorem dX7_listen_127 : decode cX7_listen 127 = .ok (.iastore, 1) := by decide +kernel
theorem dX7_listen_128 : decode cX7_listen 128 = .ok (.aload_n 3, 1) := by decide +kernel
theorem dX7_listen_129 : decode cX7_listen 129 = .ok (.iconst 3, 1) := by decide +kernel
theorem dX7_listen_130 : decode cX7_listen 130 = .ok (.iload 4, 2) := by decide +kernel
theorem dX7_listen_132 : decode cX7_listen 132 = .ok (.iastore, 1) := by decide +kernel
theorem dX7_listen_133 : decode cX7_listen 133 = .ok (.aload_n 3, 1) := by decide +kernel
theorem dX7_listen_134 : decode cX7_listen 134 = .ok (.iconst 0, 1) := by decide +kernel
theorem dX7_listen_135 : decode cX7_listen 135 = .ok (.iaload, 1) := by decide +kernel
theorem dX7_listen_136 : decode cX7_listen 136 = .ok (.ireturn, 1) := by decide +kernel
theorem dX7_isPlace_0 : decode cX7_isPlace 0 = .ok (.iload_n 0, 1) := by decide +kernel
theorem dX7_isPlace_1 : decode cX7_isPlace 1 = .ok (.bipush (-12), 2) := by decide +kernel
theorem dX7_isPlace_3 : decode cX7_isPlace 3 = .ok (.bipush 12, 2) := by decide +kernel
theorem dX7_isPlace_5 : decode cX7_isPlace 5 = .ok (.invokestatic 86, 3) := by decide +kernel
theorem dX7_isPlace_8 : decode cX7_isPlace 8 = .ok (.ifCond .eq 17, 3) := by decide +kernel
theorem dX7_isPlace_11 : decode cX7_isPlace 11 = .ok (.iload_n 1, 1) := by decide +kernel
theorem dX7_isPlace_12 : decode cX7_isPlace 12 = .ok (.iconst 0, 1) := by decide +kernel
theorem dX7_isPlace_13 : decode cX7_isPlace 13 = .ok (.bipush 12, 2) := by decide +kernel
theorem dX7_isPlace_15 : decode cX7_isPlace 15 = .ok (.invokestatic 86, 3) := by decide +kernel
theorem dX7_isPlace_18 : decode cX7_isPlace 18 = .ok (.ifCond .eq 7, 3) := by decide +kernel
theorem dX7_isPlace_21 : decode cX7_isPlace 21 = .ok (.iconst 1, 1) := by decide +kernel
theorem dX7_isPlace_22 : decode cX7_isPlace 22 = .ok (.goto 4, 3) := by decide +kernel
theorem dX7_isPlace_25 : decode cX7_isPlace 25 = .ok (.iconst 0, 1) := by decide +kernel
theorem dX7_isPlace_26 : decode cX7_isPlace 26 = .ok (.ireturn, 1) := by decide +kernel
theorem dX7_receiver_0 : decode cX7_receiver 0 = .ok (.aload_n 0, 1) := by decide +kernel
theorem dX7_receiver_1 : decode cX7_receiver 1 = .ok (.iconst 0, 1) := by decide +kernel
theorem dX7_receiver_2 : decode cX7_receiver 2 = .ok (.putfield 41, 3) := by decide +kernel
theorem dX7_receiver_5 : decode cX7_receiver 5 = .ok (.iload_n 1, 1) := by decide +kernel
theorem dX7_receiver_6 : decode cX7_receiver 6 = .ok (.iload_n 2, 1) := by decide +kernel
theorem dX7_receiver_7 : decode cX7_receiver 7 = .ok (.invokestatic 111, 3) := by decide +kernel
theorem dX7_receiver_10 : decode cX7_receiver 10 = .ok (.ifCond .eq 14, 3) := by decide +kernel
theorem dX7_receiver_13 : decode cX7_receiver 13 = .ok (.iload_n 3, 1) := by decide +kernel
theorem dX7_receiver_14 : decode cX7_receiver 14 = .ok (.bipush (-99), 2) := by decide +kernel
theorem dX7_receiver_16 : decode cX7_receiver 16 = .ok (.bipush 99, 2) := by decide +kernel
theorem dX7_receiver_18 : decode cX7_receiver 18 = .ok (.invokestatic 86, 3) := by decide +kernel
theorem dX7_receiver_21 : decode cX7_receiver 21 = .ok (.ifCond .ne 9, 3) := by decide +kernel
theorem dX7_receiver_24 : decode cX7_receiver 24 = .ok (.aload_n 0, 1) := by decide +kernel
theorem dX7_receiver_25 : decode cX7_receiver 25 = .ok (.iconst 1, 1) := by decide +kernel
theorem dX7_receiver_26 : decode cX7_receiver 26 = .ok (.invokevirtual 95, 3) := by decide +kernel
theorem dX7_receiver_29 : decode cX7_receiver 29 = .ok (.ireturn, 1) := by decide +kernel
theorem dX7_receiver_30 : decode cX7_receiver 30 = .ok (.aload_n 0, 1) := by decide +kernel
theorem dX7_receiver_31 : decode cX7_receiver 31 = .ok (.getfield 92, 3) := by decide +kernel
theorem dX7_receiver_34 : decode cX7_receiver 34 = .ok (.iconst 3, 1) := by decide +kernel
theorem dX7_receiver_35 : decode cX7_receiver 35 = .ok (.if_icmp .ne 9, 3) := by decide +kernel
theorem dX7_receiver_38 : decode cX7_receiver 38 = .ok (.aload_n 0, 1) := by decide +kernel
theorem dX7_receiver_39 : decode cX7_receiver 39 = .ok (.iconst 2, 1) := by decide +kernel
theorem dX7_receiver_40 : decode cX7_receiver 40 = .ok (.invokevirtual 95, 3) := by decide +kernel
theorem dX7_receiver_43 : decode cX7_receiver 43 = .ok (.ireturn, 1) := by decide +kernel
theorem dX7_receiver_44 : decode cX7_receiver 44 = .ok (.aload_n 0, 1) := by decide +kernel
theorem dX7_receiver_45 : decode cX7_receiver 45 = .ok (.getfield 20, 3) := by decide +kernel
theorem dX7_receiver_48 : decode cX7_receiver 48 = .ok (.aload_n 0, 1) := by decide +kernel
theorem dX7_receiver_49 : decode cX7_receiver 49 = .ok (.getfield 92, 3) := by decide +kernel
theorem dX7_receiver_52 : decode cX7_receiver 52 = .ok (.aaload, 1) := by decide +kernel
theorem dX7_receiver_53 : decode cX7_receiver 53 = .ok (.astore 4, 2) := by decide +kernel
theorem dX7_receiver_55 : decode cX7_receiver 55 = .ok (.aload 4, 2) := by decide +kernel
theorem dX7_receiver_57 : decode cX7_receiver 57 = .ok (.iconst 0, 1) := by decide +kernel
theorem dX7_receiver_58 : decode cX7_receiver 58 = .ok (.iload_n 1, 1) := by decide +kernel
theorem dX7_receiver_59 : decode cX7_receiver 59 = .ok (.iastore, 1) := by decide +kernel
theorem dX7_receiver_60 : decode cX7_receiver 60 = .ok (.aload 4, 2) := by decide +kernel
theorem dX7_receiver_62 : decode cX7_receiver 62 = .ok (.iconst 1, 1) := by decide +kernel
theorem dX7_receiver_63 : decode cX7_receiver 63 = .ok (.iload_n 2, 1) := by decide +kernel
theorem dX7_receiver_64 : decode cX7_receiver 64 = .ok (.iastore, 1) := by decide +kernel
theorem dX7_receiver_65 : decode cX7_receiver 65 = .ok (.aload 4, 2) := by decide +kernel
theorem dX7_receiver_67 : decode cX7_receiver 67 = .ok (.iconst 2, 1) := by decide +kernel
theorem dX7_receiver_68 : decode cX7_receiver 68 = .ok (.iload_n 3, 1) := by decide +kernel
theorem dX7_receiver_69 : decode cX7_receiver 69 = .ok (.iastore, 1) := by decide +kernel
theorem dX7_receiver_70 : decode cX7_receiver 70 = .ok (.aload 4, 2) := by decide +kernel
theorem dX7_receiver_72 : decode cX7_receiver 72 = .ok (.iconst 3, 1) := by decide +kernel
theorem dX7_receiver_73 : decode cX7_receiver 73 = .ok (.iconst 5, 1) := by decide +kernel
theorem dX7_receiver_74 : decode cX7_receiver 74 = .ok (.iastore, 1) := by decide +kernel
theorem dX7_receiver_75 : decode cX7_receiver 75 = .ok (.aload 4, 2) := by decide +kernel
theorem dX7_receiver_77 : decode cX7_receiver 77 = .ok (.iconst 4, 1) := by decide +kernel
theorem dX7_receiver_78 : decode cX7_receiver 78 = .ok (.iconst 5, 1) := by decide +kernel
theorem dX7_receiver_79 : decode cX7_receiver 79 = .ok (.iastore, 1) := by decide +kernel
theorem dX7_receiver_80 : decode cX7_receiver 80 = .ok (.aload 4, 2) := by decide +kernel
theorem dX7_receiver_82 : decode cX7_receiver 82 = .ok (.bipush 6, 2) := by decide +kernel
theorem dX7_receiver_84 : decode cX7_receiver 84 = .ok (.iconst 1, 1) := by decide +kernel
theorem dX7_receiver_85 : decode cX7_receiver 85 = .ok (.iastore, 1) := by decide +kernel
theorem dX7_receiver_86 : decode cX7_receiver 86 = .ok (.aload 4, 2) := by decide +kernel
theorem dX7_receiver_88 : decode cX7_receiver 88 = .ok (.bipush 7, 2) := by decide +kernel
theorem dX7_receiver_90 : decode cX7_receiver 90 = .ok (.bipush 6, 2) := by decide +kernel
theorem dX7_receiver_92 : decode cX7_receiver 92 = .ok (.iastore, 1) := by decide +kernel
theorem dX7_receiver_93 : decode cX7_receiver 93 = .ok (.aload 4, 2) := by decide +kernel
theorem dX7_receiver_95 : decode cX7_receiver 95 = .ok (.bipush 9, 2) := by decide +kernel
theorem dX7_receiver_97 : decode cX7_receiver 97 = .ok (.iconst (-1), 1) := by decide +kernel
theorem dX7_receiver_98 : decode cX7_receiver 98 = .ok (.iastore, 1) := by decide +kernel
theorem dX7_receiver_99 : decode cX7_receiver 99 = .ok (.aload 4, 2) := by decide +kernel
theorem dX7_receiver_101 : decode cX7_receiver 101 = .ok (.bipush 10, 2) := by decide +kernel
theorem dX7_receiver_103 : decode cX7_receiver 103 = .ok (.iconst (-1), 1) := by decide +kernel
theorem dX7_receiver_104 : decode cX7_receiver 104 = .ok (.iastore, 1) := by decide +kernel
theorem dX7_receiver_105 : decode cX7_receiver 105 = .ok (.aload 4, 2) := by decide +kernel
theorem dX7_receiver_107 : decode cX7_receiver 107 = .ok (.bipush 16, 2) := by decide +kernel
theorem dX7_receiver_109 : decode cX7_receiver 109 = .ok (.bipush 99, 2) := by decide +kernel
theorem dX7_receiver_111 : decode cX7_receiver 111 = .ok (.iastore, 1) := by decide +kernel
theorem dX7_receiver_112 : decode cX7_receiver 112 = .ok (.aload 4, 2) := by decide +kernel
theorem dX7_receiver_114 : decode cX7_receiver 114 = .ok (.bipush 19, 2) := by decide +kernel
theorem dX7_receiver_116 : decode cX7_receiver 116 = .ok (.iconst (-1), 1) := by decide +kernel
theorem dX7_receiver_117 : decode cX7_receiver 117 = .ok (.iastore, 1) := by decide +kernel
theorem dX7_receiver_118 : decode cX7_receiver 118 = .ok (.aload_n 0, 1) := by decide +kernel
theorem dX7_receiver_119 : decode cX7_receiver 119 = .ok (.dup, 1) := by decide +kernel
theorem dX7_receiver_120 : decode cX7_receiver 120 = .ok (.getfield 92, 3) := by decide +kernel
theorem dX7_receiver_123 : decode cX7_receiver 123 = .ok (.iconst 1, 1) := by decide +kernel
theorem dX7_receiver_124 : decode cX7_receiver 124 = .ok (.iadd, 1) := by decide +kernel
theorem dX7_receiver_125 : decode cX7_receiver 125 = .ok (.putfield 92, 3) := by decide +kernel
theorem dX7_receiver_128 : decode cX7_receiver 128 = .ok (.aload_n 0, 1) := by decide +kernel
theorem dX7_receiver_129 : decode cX7_receiver 129 = .ok (.getfield 92, 3) := by decide +kernel
theorem dX7_receiver_132 : decode cX7_receiver 132 = .ok (.iconst 1, 1) := by decide +kernel
theorem dX7_receiver_133 : decode cX7_receiver 133 = .ok (.isub, 1) := by decide +kernel
theorem dX7_receiver_134 : decode cX7_receiver 134 = .ok (.ireturn, 1) := by decide +kernel
theorem dX7_go_0 : decode cX7_go 0 = .ok (.aload_n 0, 1) := by decide +kernel
theorem dX7_go_1 : decode cX7_go 1 = .ok (.iconst 0, 1) := by decide +kernel
theorem dX7_go_2 : decode cX7_go 2 = .ok (.putfield 41, 3) := by decide +kernel
theorem dX7_go_5 : decode cX7_go 5 = .ok (.aload_n 0, 1) := by decide +kernel
theorem dX7_go_6 : decode cX7_go 6 = .ok (.iload_n 1, 1) := by decide +kernel
theorem dX7_go_7 : decode cX7_go 7 = .ok (.invokevirtual 115, 3) := by decide +kernel
theorem dX7_go_10 : decode cX7_go 10 = .ok (.ifCond .ne 9, 3) := by decide +kernel
theorem dX7_go_13 : decode cX7_go 13 = .ok (.aload_n 0, 1) := by decide +kernel
theorem dX7_go_14 : decode cX7_go 14 = .ok (.iconst 1, 1) := by decide +kernel
theorem dX7_go_15 : decode cX7_go 15 = .ok (.invokevirtual 95, 3) := by decide +kernel
theorem dX7_go_18 : decode cX7_go 18 = .ok (.ireturn, 1) := by decide +kernel
theorem dX7_go_19 : decode cX7_go 19 = .ok (.iload_n 2, 1) := by decide +kernel
theorem dX7_go_20 : decode cX7_go 20 = .ok (.iload_n 3, 1) := by decide +kernel
theorem dX7_go_21 : decode cX7_go 21 = .ok (.invokestatic 111, 3) := by decide +kernel
theorem dX7_go_24 : decode cX7_go 24 = .ok (.ifCond .ne 9, 3) := by decide +kernel
theorem dX7_go_27 : decode cX7_go 27 = .ok (.aload_n 0, 1) := by decide +kernel
theorem dX7_go_28 : decode cX7_go 28 = .ok (.iconst 2, 1) := by decide +kernel
theorem dX7_go_29 : decode cX7_go 29 = .ok (.invokevirtual 95, 3) := by decide +kernel
theorem dX7_go_32 : decode cX7_go 32 = .ok (.ireturn, 1) := by decide +kernel
theorem dX7_go_33 : decode cX7_go 33 = .ok (.aload_n 0, 1) := by decide +kernel
theorem dX7_go_34 : decode cX7_go 34 = .ok (.getfield 20, 3) := by decide +kernel
theorem dX7_go_37 : decode cX7_go 37 = .ok (.iload_n 1, 1) := by decide +kernel
theorem dX7_go_38 : decode cX7_go 38 = .ok (.aaload, 1) := by decide +kernel
theorem dX7_go_39 : decode cX7_go 39 = .ok (.astore 4, 2) := by decide +kernel
theorem dX7_go_41 : decode cX7_go 41 = .ok (.aload 4, 2) := by decide +kernel
theorem dX7_go_43 : decode cX7_go 43 = .ok (.iconst 0, 1) := by decide +kernel
theorem dX7_go_44 : decode cX7_go 44 = .ok (.iaload, 1) := by decide +kernel
theorem dX7_go_45 : decode cX7_go 45 = .ok (.aload 4, 2) := by decide +kernel
theorem dX7_go_47 : decode cX7_go 47 = .ok (.iconst 1, 1) := by decide +kernel
theorem dX7_go_48 : decode cX7_go 48 = .ok (.iaload, 1) := by decide +kernel
theorem dX7_go_49 : decode cX7_go 49 = .ok (.iload_n 2, 1) := by decide +kernel
theorem dX7_go_50 : decode cX7_go 50 = .ok (.iload_n 3, 1) := by decide +kernel
theorem dX7_go_51 : decode cX7_go 51 = .ok (.invokestatic 118, 3) := by decide +kernel
theorem dX7_go_54 : decode cX7_go 54 = .ok (.istore 5, 2) := by decide +kernel
theorem dX7_go_56 : decode cX7_go 56 = .ok (.aload 4, 2) := by decide +kernel
theorem dX7_go_58 : decode cX7_go 58 = .ok (.iconst 0, 1) := by decide +kernel
theorem dX7_go_59 : decode cX7_go 59 = .ok (.iload_n 2, 1) := by decide +kernel
theorem dX7_go_60 : decode cX7_go 60 = .ok (.iastore, 1) := by decide +kernel
theorem dX7_go_61 : decode cX7_go 61 = .ok (.aload 4, 2) := by decide +kernel
theorem dX7_go_63 : decode cX7_go 63 = .ok (.iconst 1, 1) := by decide +kernel
theorem dX7_go_64 : decode cX7_go 64 = .ok (.iload_n 3, 1) := by decide +kernel
theorem dX7_go_65 : decode cX7_go 65 = .ok (.iastore, 1) := by decide +kernel
theorem dX7_go_66 : decode cX7_go 66 = .ok (.iload 5, 2) := by decide +kernel
theorem dX7_go_68 : decode cX7_go 68 = .ok (.ireturn, 1) := by decide +kernel
theorem dX7_hills_0 : decode cX7_hills 0 = .ok (.aload_n 0, 1) := by decide +kernel
theorem dX7_hills_1 : decode cX7_hills 1 = .ok (.iconst 0, 1) := by decide +kernel
theorem dX7_hills_2 : decode cX7_hills 2 = .ok (.putfield 41, 3) := by decide +kernel
theorem dX7_hills_5 : decode cX7_hills 5 = .ok (.aload_n 0, 1) := by decide +kernel
theorem dX7_hills_6 : decode cX7_hills 6 = .ok (.iload_n 1, 1) := by decide +kernel
theorem dX7_hills_7 : decode cX7_hills 7 = .ok (.invokevirtual 115, 3) := by decide +kernel
theorem dX7_hills_10 : decode cX7_hills 10 = .ok (.ifCond .ne 9, 3) := by decide +kernel
theorem dX7_hills_13 : decode cX7_hills 13 = .ok (.aload_n 0, 1) := by decide +kernel
theorem dX7_hills_14 : decode cX7_hills 14 = .ok (.iconst 1, 1) := by decide +kernel
theorem dX7_hills_15 : decode cX7_hills 15 = .ok (.invokevirtual 95, 3) := by decide +kernel
theorem dX7_hills_18 : decode cX7_hills 18 = .ok (.ireturn, 1) := by decide +kernel
theorem dX7_hills_19 : decode cX7_hills 19 = .ok (.iload_n 2, 1) := by decide +kernel
theorem dX7_hills_20 : decode cX7_hills 20 = .ok (.iconst 0, 1) := by decide +kernel
theorem dX7_hills_21 : decode cX7_hills 21 = .ok (.bipush 60, 2) := by decide +kernel
theorem dX7_hills_23 : decode cX7_hills 23 = .ok (.invokestatic 86, 3) := by decide +kernel
theorem dX7_hills_26 : decode cX7_hills 26 = .ok (.ifCond .eq 13, 3) := by decide +kernel
theorem dX7_hills_29 : decode cX7_hills 29 = .ok (.iload_n 3, 1) := by decide +kernel
theorem dX7_hills_30 : decode cX7_hills 30 = .ok (.iconst 0, 1) := by decide +kernel
theorem dX7_hills_31 : decode cX7_hills 31 = .ok (.bipush 60, 2) := by decide +kernel
theorem dX7_hills_33 : decode cX7_hills 33 = .ok (.invokestatic 86, 3) := by decide +kernel
theorem dX7_hills_36 : decode cX7_hills 36 = .ok (.ifCond .ne 9, 3) := by decide +kernel
theorem dX7_hills_39 : decode cX7_hills 39 = .ok (.aload_n 0, 1) := by decide +kernel
theorem dX7_hills_40 : decode cX7_hills 40 = .ok (.iconst 2, 1) := by decide +kernel
theorem dX7_hills_41 : decode cX7_hills 41 = .ok (.invokevirtual 95, 3) := by decide +kernel
theorem dX7_hills_44 : decode cX7_hills 44 = .ok (.ireturn, 1) := by decide +kernel
theorem dX7_hills_45 : decode cX7_hills 45 = .ok (.aload_n 0, 1) := by decide +kernel
theorem dX7_hills_46 : decode cX7_hills 46 = .ok (.getfield 20, 3) := by decide +kernel
theorem dX7_hills_49 : decode cX7_hills 49 = .ok (.iload_n 1, 1) := by decide +kernel
theorem dX7_hills_50 : decode cX7_hills 50 = .ok (.aaload, 1) := by decide +kernel
theorem dX7_hills_51 : decode cX7_hills 51 = .ok (.iconst 3, 1) := by decide +kernel
theorem dX7_hills_52 : decode cX7_hills 52 = .ok (.iload_n 2, 1) := by decide +kernel
theorem dX7_hills_53 : decode cX7_hills 53 = .ok (.iastore, 1) := by decide +kernel
theorem dX7_hills_54 : decode cX7_hills 54 = .ok (.aload_n 0, 1) := by decide +kernel
theorem dX7_hills_55 : decode cX7_hills 55 = .ok (.getfield 20, 3) := by decide +kernel
theorem dX7_hills_58 : decode cX7_hills 58 = .ok (.iload_n 1, 1) := by decide +kernel
theorem dX7_hills_59 : decode cX7_hills 59 = .ok (.aaload, 1) := by decide +kernel
theorem dX7_hills_60 : decode cX7_hills 60 = .ok (.iconst 4, 1) := by decide +kernel
theorem dX7_hills_61 : decode cX7_hills 61 = .ok (.iload_n 3, 1) := by decide +kernel
theorem dX7_hills_62 : decode cX7_hills 62 = .ok (.iastore, 1) := by decide +kernel
theorem dX7_hills_63 : decode cX7_hills 63 = .ok (.aload_n 0, 1) := by decide +kernel
theorem dX7_hills_64 : decode cX7_hills 64 = .ok (.iload_n 1, 1) := by decide +kernel
theorem dX7_hills_65 : decode cX7_hills 65 = .ok (.iconst 0, 1) := by decide +kernel
theorem dX7_hills_66 : decode cX7_hills 66 = .ok (.invokevirtual 122, 3) := by decide +kernel
theorem dX7_hills_69 : decode cX7_hills 69 = .ok (.invokestatic 125, 3) := by decide +kernel
theorem dX7_hills_72 : decode cX7_hills 72 = .ok (.ireturn, 1) := by decide +kernel
theorem dX7_change_0 : decode cX7_change 0 = .ok (.aload_n 0, 1) := by decide +kernel
theorem dX7_change_1 : decode cX7_change 1 = .ok (.getfield 20, 3) := by decide +kernel
theorem dX7_change_4 : decode cX7_change 4 = .ok (.iload_n 1, 1) := by decide +kernel
theorem dX7_change_5 : decode cX7_change 5 = .ok (.aaload, 1) := by decide +kernel
theorem dX7_change_6 : decode cX7_change 6 = .ok (.iload_n 2, 1) := by decide +kernel
theorem dX7_change_7 : decode cX7_change 7 = .ok (.iaload, 1) := by decide +kernel
theorem dX7_change_8 : decode cX7_change 8 = .ok (.istore 4, 2) := by decide +kernel
theorem dX7_change_10 : decode cX7_change 10 = .ok (.aload_n 0, 1) := by decide +kernel
theorem dX7_change_11 : decode cX7_change 11 = .ok (.getfield 20, 3) := by decide +kernel
theorem dX7_change_14 : decode cX7_change 14 = .ok (.iload_n 1, 1) := by decide +kernel
theorem dX7_change_15 : decode cX7_change 15 = .ok (.aaload, 1) := by decide +kernel
theorem dX7_change_16 : decode cX7_change 16 = .ok (.iload_n 2, 1) := by decide +kernel
theorem dX7_change_17 : decode cX7_change 17 = .ok (.iload_n 3, 1) := by decide +kernel
theorem dX7_change_18 : decode cX7_change 18 = .ok (.iastore, 1) := by decide +kernel
theorem dX7_change_19 : decode cX7_change 19 = .ok (.iload 4, 2) := by decide +kernel
theorem dX7_change_21 : decode cX7_change 21 = .ok (.ireturn, 1) := by decide +kernel
theorem dX7_air_0 : decode cX7_air 0 = .ok (.aload_n 0, 1) := by decide +kernel
theorem dX7_air_1 : decode cX7_air 1 = .ok (.iconst 0, 1) := by decide +kernel
theorem dX7_air_2 : decode cX7_air 2 = .ok (.putfield 41, 3) := by decide +kernel
theorem dX7_air_5 : decode cX7_air 5 = .ok (.aload_n 0, 1) := by decide +kernel
theorem dX7_air_6 : decode cX7_air 6 = .ok (.iload_n 1, 1) := by decide +kernel
theorem dX7_air_7 : decode cX7_air 7 = .ok (.invokevirtual 115, 3) := by decide +kernel
theorem dX7_air_10 : decode cX7_air 10 = .ok (.ifCond .ne 9, 3) := by decide +kernel
theorem dX7_air_13 : decode cX7_air 13 = .ok (.aload_n 0, 1) := by decide +kernel
theorem dX7_air_14 : decode cX7_air 14 = .ok (.iconst 1, 1) := by decide +kernel
theorem dX7_air_15 : decode cX7_air 15 = .ok (.invokevirtual 95, 3) := by decide +kernel
theorem dX7_air_18 : decode cX7_air 18 = .ok (.ireturn, 1) := by decide +kernel
theorem dX7_air_19 : decode cX7_air 19 = .ok (.iload_n 2, 1) := by decide +kernel
theorem dX7_air_20 : decode cX7_air 20 = .ok (.iconst 0, 1) := by decide +kernel
theorem dX7_air_21 : decode cX7_air 21 = .ok (.bipush 9, 2) := by decide +kernel
theorem dX7_air_23 : decode cX7_air 23 = .ok (.invokestatic 86, 3) := by decide +kernel
theorem dX7_air_26 : decode cX7_air 26 = .ok (.ifCond .ne 9, 3) := by decide +kernel
theorem dX7_air_29 : decode cX7_air 29 = .ok (.aload_n 0, 1) := by decide +kernel
theorem dX7_air_30 : decode cX7_air 30 = .ok (.iconst 2, 1) := by decide +kernel
theorem dX7_air_31 : decode cX7_air 31 = .ok (.invokevirtual 95, 3) := by decide +kernel
theorem dX7_air_34 : decode cX7_air 34 = .ok (.ireturn, 1) := by decide +kernel
theorem dX7_air_35 : decode cX7_air 35 = .ok (.aload_n 0, 1) := by decide +kernel
theorem dX7_air_36 : decode cX7_air 36 = .ok (.getfield 20, 3) := by decide +kernel
theorem dX7_air_39 : decode cX7_air 39 = .ok (.iload_n 1, 1) := by decide +kernel
theorem dX7_air_40 : decode cX7_air 40 = .ok (.aaload, 1) := by decide +kernel
theorem dX7_air_41 : decode cX7_air 41 = .ok (.bipush 6, 2) := by decide +kernel
theorem dX7_air_43 : decode cX7_air 43 = .ok (.iload_n 3, 1) := by decide +kernel
theorem dX7_air_44 : decode cX7_air 44 = .ok (.ifCond .eq 7, 3) := by decide +kernel
theorem dX7_air_47 : decode cX7_air 47 = .ok (.iconst 1, 1) := by decide +kernel
theorem dX7_air_48 : decode cX7_air 48 = .ok (.goto 4, 3) := by decide +kernel
theorem dX7_air_51 : decode cX7_air 51 = .ok (.iconst 0, 1) := by decide +kernel
theorem dX7_air_52 : decode cX7_air 52 = .ok (.iastore, 1) := by decide +kernel
theorem dX7_air_53 : decode cX7_air 53 = .ok (.aload_n 0, 1) := by decide +kernel
theorem dX7_air_54 : decode cX7_air 54 = .ok (.iload_n 1, 1) := by decide +kernel
theorem dX7_air_55 : decode cX7_air 55 = .ok (.iconst 5, 1) := by decide +kernel
theorem dX7_air_56 : decode cX7_air 56 = .ok (.iload_n 2, 1) := by decide +kernel
theorem dX7_air_57 : decode cX7_air 57 = .ok (.invokevirtual 130, 3) := by decide +kernel
theorem dX7_air_60 : decode cX7_air 60 = .ok (.ireturn, 1) := by decide +kernel
theorem dX7_alert_0 : decode cX7_alert 0 = .ok (.aload_n 0, 1) := by decide +kernel
theorem dX7_alert_1 : decode cX7_alert 1 = .ok (.iconst 0, 1) := by decide +kernel
theorem dX7_alert_2 : decode cX7_alert 2 = .ok (.putfield 41, 3) := by decide +kernel
theorem dX7_alert_5 : decode cX7_alert 5 = .ok (.aload_n 0, 1) := by decide +kernel
theorem dX7_alert_6 : decode cX7_alert 6 = .ok (.iload_n 1, 1) := by decide +kernel
theorem dX7_alert_7 : decode cX7_alert 7 = .ok (.invokevirtual 115, 3) := by decide +kernel
theorem dX7_alert_10 : decode cX7_alert 10 = .ok (.ifCond .ne 9, 3) := by decide +kernel
theorem dX7_alert_13 : decode cX7_alert 13 = .ok (.aload_n 0, 1) := by decide +kernel
theorem dX7_alert_14 : decode cX7_alert 14 = .ok (.iconst 1, 1) := by decide +kernel
theorem dX7_alert_15 : decode cX7_alert 15 = .ok (.invokevirtual 95, 3) := by decide +kernel
theorem dX7_alert_18 : decode cX7_alert 18 = .ok (.ireturn, 1) := by decide +kernel
theorem dX7_alert_19 : decode cX7_alert 19 = .ok (.iload_n 2, 1) := by decide +kernel
theorem dX7_alert_20 : decode cX7_alert 20 = .ok (.iconst 1, 1) := by decide +kernel
theorem dX7_alert_21 : decode cX7_alert 21 = .ok (.bipush 24, 2) := by decide +kernel
theorem dX7_alert_23 : decode cX7_alert 23 = .ok (.invokestatic 86, 3) := by decide +kernel
theorem dX7_alert_26 : decode cX7_alert 26 = .ok (.ifCond .eq 14, 3) := by decide +kernel
theorem dX7_alert_29 : decode cX7_alert 29 = .ok (.aload_n 0, 1) := by decide +kernel
theorem dX7_alert_30 : decode cX7_alert 30 = .ok (.iload_n 1, 1) := by decide +kernel
theorem dX7_alert_31 : decode cX7_alert 31 = .ok (.bipush 7, 2) := by decide +kernel
theorem dX7_alert_33 : decode cX7_alert 33 = .ok (.iload_n 2, 1) := by decide +kernel
theorem dX7_alert_34 : decode cX7_alert 34 = .ok (.invokevirtual 130, 3) := by decide +kernel
theorem dX7_alert_37 : decode cX7_alert 37 = .ok (.goto 8, 3) := by decide +kernel
theorem dX7_alert_40 : decode cX7_alert 40 = .ok (.aload_n 0, 1) := by decide +kernel
theorem dX7_alert_41 : decode cX7_alert 41 = .ok (.iconst 2, 1) := by decide +kernel
theorem dX7_alert_42 : decode cX7_alert 42 = .ok (.invokevirtual 95, 3) := by decide +kernel
theorem dX7_alert_45 : decode cX7_alert 45 = .ok (.ireturn, 1) := by decide +kernel
theorem dX7_spoof_0 : decode cX7_spoof 0 = .ok (.aload_n 0, 1) := by decide +kernel
theorem dX7_spoof_1 : decode cX7_spoof 1 = .ok (.iconst 0, 1) := by decide +kernel
theorem dX7_spoof_2 : decode cX7_spoof 2 = .ok (.putfield 41, 3) := by decide +kernel
theorem dX7_spoof_5 : decode cX7_spoof 5 = .ok (.aload_n 0, 1) := by decide +kernel
theorem dX7_spoof_6 : decode cX7_spoof 6 = .ok (.iload_n 1, 1) := by decide +kernel
theorem dX7_spoof_7 : decode cX7_spoof 7 = .ok (.invokevirtual 115, 3) := by decide +kernel
theorem dX7_spoof_10 : decode cX7_spoof 10 = .ok (.ifCond .ne 9, 3) := by decide +kernel
theorem dX7_spoof_13 : decode cX7_spoof 13 = .ok (.aload_n 0, 1) := by decide +kernel
theorem dX7_spoof_14 : decode cX7_spoof 14 = .ok (.iconst 1, 1) := by decide +kernel
theorem dX7_spoof_15 : decode cX7_spoof 15 = .ok (.invokevirtual 95, 3) := by decide +kernel
theorem dX7_spoof_18 : decode cX7_spoof 18 = .ok (.ireturn, 1) := by decide +kernel
theorem dX7_spoof_19 : decode cX7_spoof 19 = .ok (.iload_n 2, 1) := by decide +kernel
theorem dX7_spoof_20 : decode cX7_spoof 20 = .ok (.bipush (-30), 2) := by decide +kernel
theorem dX7_spoof_22 : decode cX7_spoof 22 = .ok (.bipush 30, 2) := by decide +kernel
theorem dX7_spoof_24 : decode cX7_spoof 24 = .ok (.invokestatic 86, 3) := by decide +kernel
theorem dX7_spoof_27 : decode cX7_spoof 27 = .ok (.ifCond .eq 14, 3) := by decide +kernel
theorem dX7_spoof_30 : decode cX7_spoof 30 = .ok (.aload_n 0, 1) := by decide +kernel
theorem dX7_spoof_31 : decode cX7_spoof 31 = .ok (.iload_n 1, 1) := by decide +kernel
theorem dX7_spoof_32 : decode cX7_spoof 32 = .ok (.bipush 8, 2) := by decide +kernel
theorem dX7_spoof_34 : decode cX7_spoof 34 = .ok (.iload_n 2, 1) := by decide +kernel
theorem dX7_spoof_35 : decode cX7_spoof 35 = .ok (.invokevirtual 130, 3) := by decide +kernel
theorem dX7_spoof_38 : decode cX7_spoof 38 = .ok (.goto 8, 3) := by decide +kernel
theorem dX7_spoof_41 : decode cX7_spoof 41 = .ok (.aload_n 0, 1) := by decide +kernel
theorem dX7_spoof_42 : decode cX7_spoof 42 = .ok (.iconst 2, 1) := by decide +kernel
theorem dX7_spoof_43 : decode cX7_spoof 43 = .ok (.invokevirtual 95, 3) := by decide +kernel
theorem dX7_spoof_46 : decode cX7_spoof 46 = .ok (.ireturn, 1) := by decide +kernel
theorem dX7_refer_0 : decode cX7_refer 0 = .ok (.aload_n 0, 1) := by decide +kernel
theorem dX7_refer_1 : decode cX7_refer 1 = .ok (.iconst 0, 1) := by decide +kernel
theorem dX7_refer_2 : decode cX7_refer 2 = .ok (.putfield 41, 3) := by decide +kernel
theorem dX7_refer_5 : decode cX7_refer 5 = .ok (.aload_n 0, 1) := by decide +kernel
theorem dX7_refer_6 : decode cX7_refer 6 = .ok (.iload_n 1, 1) := by decide +kernel
theorem dX7_refer_7 : decode cX7_refer 7 = .ok (.invokevirtual 115, 3) := by decide +kernel
theorem dX7_refer_10 : decode cX7_refer 10 = .ok (.ifCond .eq 16, 3) := by decide +kernel
theorem dX7_refer_13 : decode cX7_refer 13 = .ok (.iload_n 2, 1) := by decide +kernel
theorem dX7_refer_14 : decode cX7_refer 14 = .ok (.iconst (-1), 1) := by decide +kernel
theorem dX7_refer_15 : decode cX7_refer 15 = .ok (.if_icmp .eq 17, 3) := by decide +kernel
theorem dX7_refer_18 : decode cX7_refer 18 = .ok (.aload_n 0, 1) := by decide +kernel
theorem dX7_refer_19 : decode cX7_refer 19 = .ok (.iload_n 2, 1) := by decide +kernel
theorem dX7_refer_20 : decode cX7_refer 20 = .ok (.invokevirtual 115, 3) := by decide +kernel
theorem dX7_refer_23 : decode cX7_refer 23 = .ok (.ifCond .ne 9, 3) := by decide +kernel
theorem dX7_refer_26 : decode cX7_refer 26 = .ok (.aload_n 0, 1) := by decide +kernel
theorem dX7_refer_27 : decode cX7_refer 27 = .ok (.iconst 1, 1) := by decide +kernel
theorem dX7_refer_28 : decode cX7_refer 28 = .ok (.invokevirtual 95, 3) := by decide +kernel
theorem dX7_refer_31 : decode cX7_refer 31 = .ok (.ireturn, 1) := by decide +kernel
theorem dX7_refer_32 : decode cX7_refer 32 = .ok (.iload_n 1, 1) := by decide +kernel
theorem dX7_refer_33 : decode cX7_refer 33 = .ok (.iload_n 2, 1) := by decide +kernel
theorem dX7_refer_34 : decode cX7_refer 34 = .ok (.if_icmp .eq 14, 3) := by decide +kernel
theorem dX7_refer_37 : decode cX7_refer 37 = .ok (.aload_n 0, 1) := by decide +kernel
theorem dX7_refer_38 : decode cX7_refer 38 = .ok (.iload_n 1, 1) := by decide +kernel
theorem dX7_refer_39 : decode cX7_refer 39 = .ok (.bipush 9, 2) := by decide +kernel
theorem dX7_refer_41 : decode cX7_refer 41 = .ok (.iload_n 2, 1) := by decide +kernel
theorem dX7_refer_42 : decode cX7_refer 42 = .ok (.invokevirtual 130, 3) := by decide +kernel
theorem dX7_refer_45 : decode cX7_refer 45 = .ok (.goto 8, 3) := by decide +kernel
theorem dX7_refer_48 : decode cX7_refer 48 = .ok (.aload_n 0, 1) := by decide +kernel
theorem dX7_refer_49 : decode cX7_refer 49 = .ok (.iconst 2, 1) := by decide +kernel
theorem dX7_refer_50 : decode cX7_refer 50 = .ok (.invokevirtual 95, 3) := by decide +kernel
theorem dX7_refer_53 : decode cX7_refer 53 = .ok (.ireturn, 1) := by decide +kernel
theorem dX7_pass_0 : decode cX7_pass 0 = .ok (.aload_n 0, 1) := by decide +kernel
theorem dX7_pass_1 : decode cX7_pass 1 = .ok (.iconst 0, 1) := by decide +kernel
theorem dX7_pass_2 : decode cX7_pass 2 = .ok (.putfield 41, 3) := by decide +kernel
theorem dX7_pass_5 : decode cX7_pass 5 = .ok (.iload_n 1, 1) := by decide +kernel
theorem dX7_pass_6 : decode cX7_pass 6 = .ok (.iconst 1, 1) := by decide +kernel
theorem dX7_pass_7 : decode cX7_pass 7 = .ok (.bipush 48, 2) := by decide +kernel
theorem dX7_pass_9 : decode cX7_pass 9 = .ok (.invokestatic 86, 3) := by decide +kernel
theorem dX7_pass_12 : decode cX7_pass 12 = .ok (.ifCond .ne 9, 3) := by decide +kernel
theorem dX7_pass_15 : decode cX7_pass 15 = .ok (.aload_n 0, 1) := by decide +kernel
theorem dX7_pass_16 : decode cX7_pass 16 = .ok (.iconst 1, 1) := by decide +kernel
theorem dX7_pass_17 : decode cX7_pass 17 = .ok (.invokevirtual 95, 3) := by decide +kernel
theorem dX7_pass_20 : decode cX7_pass 20 = .ok (.ireturn, 1) := by decide +kernel
theorem dX7_pass_21 : decode cX7_pass 21 = .ok (.iconst 0, 1) := by decide +kernel
theorem dX7_pass_22 : decode cX7_pass 22 = .ok (.istore_n 2, 1) := by decide +kernel
theorem dX7_pass_23 : decode cX7_pass 23 = .ok (.iload_n 2, 1) := by decide +kernel
theorem dX7_pass_24 : decode cX7_pass 24 = .ok (.iload_n 1, 1) := by decide +kernel
theorem dX7_pass_25 : decode cX7_pass 25 = .ok (.if_icmp .ge 80, 3) := by decide +kernel
theorem dX7_pass_28 : decode cX7_pass 28 = .ok (.aload_n 0, 1) := by decide +kernel
theorem dX7_pass_29 : decode cX7_pass 29 = .ok (.dup, 1) := by decide +kernel
theorem dX7_pass_30 : decode cX7_pass 30 = .ok (.getfield 64, 3) := by decide +kernel
theorem dX7_pass_33 : decode cX7_pass 33 = .ok (.iconst 1, 1) := by decide +kernel
theorem dX7_pass_34 : decode cX7_pass 34 = .ok (.iadd, 1) := by decide +kernel
theorem dX7_pass_35 : decode cX7_pass 35 = .ok (.putfield 64, 3) := by decide +kernel
theorem dX7_pass_38 : decode cX7_pass 38 = .ok (.iconst 0, 1) := by decide +kernel
theorem dX7_pass_39 : decode cX7_pass 39 = .ok (.istore_n 3, 1) := by decide +kernel
theorem dX7_pass_40 : decode cX7_pass 40 = .ok (.iload_n 3, 1) := by decide +kernel
theorem dX7_pass_41 : decode cX7_pass 41 = .ok (.aload_n 0, 1) := by decide +kernel
theorem dX7_pass_42 : decode cX7_pass 42 = .ok (.getfield 79, 3) := by decide +kernel
theorem dX7_pass_45 : decode cX7_pass 45 = .ok (.if_icmp .ge 54, 3) := by decide +kernel
theorem dX7_pass_48 : decode cX7_pass 48 = .ok (.aload_n 0, 1) := by decide +kernel
theorem dX7_pass_49 : decode cX7_pass 49 = .ok (.getfield 11, 3) := by decide +kernel
theorem dX7_pass_52 : decode cX7_pass 52 = .ok (.iload_n 3, 1) := by decide +kernel
theorem dX7_pass_53 : decode cX7_pass 53 = .ok (.aaload, 1) := by decide +kernel
theorem dX7_pass_54 : decode cX7_pass 54 = .ok (.astore 4, 2) := by decide +kernel
theorem dX7_pass_56 : decode cX7_pass 56 = .ok (.aload 4, 2) := by decide +kernel
theorem dX7_pass_58 : decode cX7_pass 58 = .ok (.iconst 1, 1) := by decide +kernel
theorem dX7_pass_59 : decode cX7_pass 59 = .ok (.aload 4, 2) := by decide +kernel
theorem dX7_pass_61 : decode cX7_pass 61 = .ok (.iconst 1, 1) := by decide +kernel
theorem dX7_pass_62 : decode cX7_pass 62 = .ok (.iaload, 1) := by decide +kernel
theorem dX7_pass_63 : decode cX7_pass 63 = .ok (.aload 4, 2) := by decide +kernel
theorem dX7_pass_65 : decode cX7_pass 65 = .ok (.iconst 2, 1) := by decide +kernel
theorem dX7_pass_66 : decode cX7_pass 66 = .ok (.iaload, 1) := by decide +kernel
theorem dX7_pass_67 : decode cX7_pass 67 = .ok (.iadd, 1) := by decide +kernel
theorem dX7_pass_68 : decode cX7_pass 68 = .ok (.bipush 48, 2) := by decide +kernel
theorem dX7_pass_70 : decode cX7_pass 70 = .ok (.invokestatic 54, 3) := by decide +kernel
theorem dX7_pass_73 : decode cX7_pass 73 = .ok (.iastore, 1) := by decide +kernel
theorem dX7_pass_74 : decode cX7_pass 74 = .ok (.aload 4, 2) := by decide +kernel
theorem dX7_pass_76 : decode cX7_pass 76 = .ok (.iconst 3, 1) := by decide +kernel
theorem dX7_pass_77 : decode cX7_pass 77 = .ok (.aload 4, 2) := by decide +kernel
theorem dX7_pass_79 : decode cX7_pass 79 = .ok (.iconst 3, 1) := by decide +kernel
theorem dX7_pass_80 : decode cX7_pass 80 = .ok (.iaload, 1) := by decide +kernel
theorem dX7_pass_81 : decode cX7_pass 81 = .ok (.aload 4, 2) := by decide +kernel
theorem dX7_pass_83 : decode cX7_pass 83 = .ok (.iconst 4, 1) := by decide +kernel
theorem dX7_pass_84 : decode cX7_pass 84 = .ok (.iaload, 1) := by decide +kernel
theorem dX7_pass_85 : decode cX7_pass 85 = .ok (.iadd, 1) := by decide +kernel
theorem dX7_pass_86 : decode cX7_pass 86 = .ok (.sipush 999, 3) := by decide +kernel
theorem dX7_pass_89 : decode cX7_pass 89 = .ok (.invokestatic 102, 3) := by decide +kernel
theorem dX7_pass_92 : decode cX7_pass 92 = .ok (.iastore, 1) := by decide +kernel
theorem dX7_pass_93 : decode cX7_pass 93 = .ok (.iinc 3 1, 3) := by decide +kernel
theorem dX7_pass_96 : decode cX7_pass 96 = .ok (.goto (-56), 3) := by decide +kernel
theorem dX7_pass_99 : decode cX7_pass 99 = .ok (.iinc 2 1, 3) := by decide +kernel
theorem dX7_pass_102 : decode cX7_pass 102 = .ok (.goto (-79), 3) := by decide +kernel
theorem dX7_pass_105 : decode cX7_pass 105 = .ok (.aload_n 0, 1) := by decide +kernel
theorem dX7_pass_106 : decode cX7_pass 106 = .ok (.getfield 64, 3) := by decide +kernel
theorem dX7_pass_109 : decode cX7_pass 109 = .ok (.ireturn, 1) := by decide +kernel
theorem dX7_trueOf_0 : decode cX7_trueOf 0 = .ok (.aload_n 0, 1) := by decide +kernel
theorem dX7_trueOf_1 : decode cX7_trueOf 1 = .ok (.getfield 20, 3) := by decide +kernel
theorem dX7_trueOf_4 : decode cX7_trueOf 4 = .ok (.iload_n 1, 1) := by decide +kernel
theorem dX7_trueOf_5 : decode cX7_trueOf 5 = .ok (.aaload, 1) := by decide +kernel
theorem dX7_trueOf_6 : decode cX7_trueOf 6 = .ok (.astore_n 3, 1) := by decide +kernel
theorem dX7_trueOf_7 : decode cX7_trueOf 7 = .ok (.aload_n 0, 1) := by decide +kernel
theorem dX7_trueOf_8 : decode cX7_trueOf 8 = .ok (.iload_n 2, 1) := by decide +kernel
theorem dX7_trueOf_9 : decode cX7_trueOf 9 = .ok (.aload_n 0, 1) := by decide +kernel
theorem dX7_trueOf_10 : decode cX7_trueOf 10 = .ok (.getfield 11, 3) := by decide +kernel
theorem dX7_trueOf_13 : decode cX7_trueOf 13 = .ok (.iload_n 2, 1) := by decide +kernel
theorem dX7_trueOf_14 : decode cX7_trueOf 14 = .ok (.aaload, 1) := by decide +kernel
theorem dX7_trueOf_15 : decode cX7_trueOf 15 = .ok (.iconst 1, 1) := by decide +kernel
theorem dX7_trueOf_16 : decode cX7_trueOf 16 = .ok (.iaload, 1) := by decide +kernel
theorem dX7_trueOf_17 : decode cX7_trueOf 17 = .ok (.invokevirtual 76, 3) := by decide +kernel
theorem dX7_trueOf_20 : decode cX7_trueOf 20 = .ok (.istore 4, 2) := by decide +kernel
theorem dX7_trueOf_22 : decode cX7_trueOf 22 = .ok (.aload_n 3, 1) := by decide +kernel
theorem dX7_trueOf_23 : decode cX7_trueOf 23 = .ok (.iconst 0, 1) := by decide +kernel
theorem dX7_trueOf_24 : decode cX7_trueOf 24 = .ok (.iaload, 1) := by decide +kernel
theorem dX7_trueOf_25 : decode cX7_trueOf 25 = .ok (.aload_n 3, 1) := by decide +kernel
theorem dX7_trueOf_26 : decode cX7_trueOf 26 = .ok (.iconst 1, 1) := by decide +kernel
theorem dX7_trueOf_27 : decode cX7_trueOf 27 = .ok (.iaload, 1) := by decide +kernel
theorem dX7_trueOf_28 : decode cX7_trueOf 28 = .ok (.iload 4, 2) := by decide +kernel
theorem dX7_trueOf_30 : decode cX7_trueOf 30 = .ok (.aload_n 0, 1) := by decide +kernel
theorem dX7_trueOf_31 : decode cX7_trueOf 31 = .ok (.iload_n 2, 1) := by decide +kernel
theorem dX7_trueOf_32 : decode cX7_trueOf 32 = .ok (.aload_n 0, 1) := by decide +kernel
theorem dX7_trueOf_33 : decode cX7_trueOf 33 = .ok (.getfield 11, 3) := by decide +kernel
theorem dX7_trueOf_36 : decode cX7_trueOf 36 = .ok (.iload_n 2, 1) := by decide +kernel
theorem dX7_trueOf_37 : decode cX7_trueOf 37 = .ok (.aaload, 1) := by decide +kernel
theorem dX7_trueOf_38 : decode cX7_trueOf 38 = .ok (.iconst 1, 1) := by decide +kernel
theorem dX7_trueOf_39 : decode cX7_trueOf 39 = .ok (.iaload, 1) := by decide +kernel
theorem dX7_trueOf_40 : decode cX7_trueOf 40 = .ok (.invokevirtual 73, 3) := by decide +kernel
theorem dX7_trueOf_43 : decode cX7_trueOf 43 = .ok (.invokestatic 118, 3) := by decide +kernel
theorem dX7_trueOf_46 : decode cX7_trueOf 46 = .ok (.istore 5, 2) := by decide +kernel
theorem dX7_trueOf_48 : decode cX7_trueOf 48 = .ok (.iload 5, 2) := by decide +kernel
theorem dX7_trueOf_50 : decode cX7_trueOf 50 = .ok (.aload_n 0, 1) := by decide +kernel
theorem dX7_trueOf_51 : decode cX7_trueOf 51 = .ok (.getfield 11, 3) := by decide +kernel
theorem dX7_trueOf_54 : decode cX7_trueOf 54 = .ok (.iload_n 2, 1) := by decide +kernel
theorem dX7_trueOf_55 : decode cX7_trueOf 55 = .ok (.aaload, 1) := by decide +kernel
theorem dX7_trueOf_56 : decode cX7_trueOf 56 = .ok (.iconst 3, 1) := by decide +kernel
theorem dX7_trueOf_57 : decode cX7_trueOf 57 = .ok (.iaload, 1) := by decide +kernel
theorem dX7_trueOf_58 : decode cX7_trueOf 58 = .ok (.iadd, 1) := by decide +kernel
theorem dX7_trueOf_59 : decode cX7_trueOf 59 = .ok (.aload_n 3, 1) := by decide +kernel
theorem dX7_trueOf_60 : decode cX7_trueOf 60 = .ok (.iconst 2, 1) := by decide +kernel
theorem dX7_trueOf_61 : decode cX7_trueOf 61 = .ok (.iaload, 1) := by decide +kernel
theorem dX7_trueOf_62 : decode cX7_trueOf 62 = .ok (.iadd, 1) := by decide +kernel
theorem dX7_trueOf_63 : decode cX7_trueOf 63 = .ok (.iload 4, 2) := by decide +kernel
theorem dX7_trueOf_65 : decode cX7_trueOf 65 = .ok (.aload_n 3, 1) := by decide +kernel
theorem dX7_trueOf_66 : decode cX7_trueOf 66 = .ok (.iconst 0, 1) := by decide +kernel
theorem dX7_trueOf_67 : decode cX7_trueOf 67 = .ok (.iaload, 1) := by decide +kernel
theorem dX7_trueOf_68 : decode cX7_trueOf 68 = .ok (.if_icmp .ge 10, 3) := by decide +kernel
theorem dX7_trueOf_71 : decode cX7_trueOf 71 = .ok (.aload_n 3, 1) := by decide +kernel
theorem dX7_trueOf_72 : decode cX7_trueOf 72 = .ok (.bipush 8, 2) := by decide +kernel
theorem dX7_trueOf_74 : decode cX7_trueOf 74 = .ok (.iaload, 1) := by decide +kernel
theorem dX7_trueOf_75 : decode cX7_trueOf 75 = .ok (.goto 8, 3) := by decide +kernel
theorem dX7_trueOf_78 : decode cX7_trueOf 78 = .ok (.aload_n 3, 1) := by decide +kernel
theorem dX7_trueOf_79 : decode cX7_trueOf 79 = .ok (.bipush 8, 2) := by decide +kernel
theorem dX7_trueOf_81 : decode cX7_trueOf 81 = .ok (.iaload, 1) := by decide +kernel
theorem dX7_trueOf_82 : decode cX7_trueOf 82 = .ok (.ineg, 1) := by decide +kernel
theorem dX7_trueOf_83 : decode cX7_trueOf 83 = .ok (.iadd, 1) := by decide +kernel
theorem dX7_trueOf_84 : decode cX7_trueOf 84 = .ok (.ireturn, 1) := by decide +kernel
theorem dX7_codeOf_0 : decode cX7_codeOf 0 = .ok (.aload_n 0, 1) := by decide +kernel
theorem dX7_codeOf_1 : decode cX7_codeOf 1 = .ok (.getfield 20, 3) := by decide +kernel
theorem dX7_codeOf_4 : decode cX7_codeOf 4 = .ok (.iload_n 1, 1) := by decide +kernel
theorem dX7_codeOf_5 : decode cX7_codeOf 5 = .ok (.aaload, 1) := by decide +kernel
theorem dX7_codeOf_6 : decode cX7_codeOf 6 = .ok (.astore_n 3, 1) := by decide +kernel
theorem dX7_codeOf_7 : decode cX7_codeOf 7 = .ok (.aload_n 0, 1) := by decide +kernel
theorem dX7_codeOf_8 : decode cX7_codeOf 8 = .ok (.iload_n 2, 1) := by decide +kernel
theorem dX7_codeOf_9 : decode cX7_codeOf 9 = .ok (.aload_n 0, 1) := by decide +kernel
theorem dX7_codeOf_10 : decode cX7_codeOf 10 = .ok (.getfield 11, 3) := by decide +kernel
theorem dX7_codeOf_13 : decode cX7_codeOf 13 = .ok (.iload_n 2, 1) := by decide +kernel
theorem dX7_codeOf_14 : decode cX7_codeOf 14 = .ok (.aaload, 1) := by decide +kernel
theorem dX7_codeOf_15 : decode cX7_codeOf 15 = .ok (.iconst 1, 1) := by decide +kernel
theorem dX7_codeOf_16 : decode cX7_codeOf 16 = .ok (.iaload, 1) := by decide +kernel
theorem dX7_codeOf_17 : decode cX7_codeOf 17 = .ok (.invokevirtual 76, 3) := by decide +kernel
theorem dX7_codeOf_20 : decode cX7_codeOf 20 = .ok (.aload_n 3, 1) := by decide +kernel
theorem dX7_codeOf_21 : decode cX7_codeOf 21 = .ok (.iconst 0, 1) := by decide +kernel
theorem dX7_codeOf_22 : decode cX7_codeOf 22 = .ok (.iaload, 1) := by decide +kernel
theorem dX7_codeOf_23 : decode cX7_codeOf 23 = .ok (.isub, 1) := by decide +kernel
theorem dX7_codeOf_24 : decode cX7_codeOf 24 = .ok (.invokestatic 61, 3) := by decide +kernel
theorem dX7_codeOf_27 : decode cX7_codeOf 27 = .ok (.istore 4, 2) := by decide +kernel
theorem dX7_codeOf_29 : decode cX7_codeOf 29 = .ok (.aload_n 0, 1) := by decide +kernel
theorem dX7_codeOf_30 : decode cX7_codeOf 30 = .ok (.iload_n 2, 1) := by decide +kernel
theorem dX7_codeOf_31 : decode cX7_codeOf 31 = .ok (.aload_n 0, 1) := by decide +kernel
theorem dX7_codeOf_32 : decode cX7_codeOf 32 = .ok (.getfield 11, 3) := by decide +kernel
theorem dX7_codeOf_35 : decode cX7_codeOf 35 = .ok (.iload_n 2, 1) := by decide +kernel
theorem dX7_codeOf_36 : decode cX7_codeOf 36 = .ok (.aaload, 1) := by decide +kernel
theorem dX7_codeOf_37 : decode cX7_codeOf 37 = .ok (.iconst 1, 1) := by decide +kernel
theorem dX7_codeOf_38 : decode cX7_codeOf 38 = .ok (.iaload, 1) := by decide +kernel
theorem dX7_codeOf_39 : decode cX7_codeOf 39 = .ok (.invokevirtual 73, 3) := by decide +kernel
theorem dX7_codeOf_42 : decode cX7_codeOf 42 = .ok (.aload_n 3, 1) := by decide +kernel
theorem dX7_codeOf_43 : decode cX7_codeOf 43 = .ok (.iconst 1, 1) := by decide +kernel
theorem dX7_codeOf_44 : decode cX7_codeOf 44 = .ok (.iaload, 1) := by decide +kernel
theorem dX7_codeOf_45 : decode cX7_codeOf 45 = .ok (.isub, 1) := by decide +kernel
theorem dX7_codeOf_46 : decode cX7_codeOf 46 = .ok (.invokestatic 61, 3) := by decide +kernel
theorem dX7_codeOf_49 : decode cX7_codeOf 49 = .ok (.istore 5, 2) := by decide +kernel
theorem dX7_codeOf_51 : decode cX7_codeOf 51 = .ok (.aload_n 3, 1) := by decide +kernel
theorem dX7_codeOf_52 : decode cX7_codeOf 52 = .ok (.bipush 6, 2) := by decide +kernel
theorem dX7_codeOf_54 : decode cX7_codeOf 54 = .ok (.iaload, 1) := by decide +kernel
theorem dX7_codeOf_55 : decode cX7_codeOf 55 = .ok (.iconst 1, 1) := by decide +kernel
theorem dX7_codeOf_56 : decode cX7_codeOf 56 = .ok (.if_icmp .ne 7, 3) := by decide +kernel
theorem dX7_codeOf_59 : decode cX7_codeOf 59 = .ok (.iconst 0, 1) := by decide +kernel
theorem dX7_codeOf_60 : decode cX7_codeOf 60 = .ok (.goto 21, 3) := by decide +kernel
theorem dX7_codeOf_63 : decode cX7_codeOf 63 = .ok (.iload 4, 2) := by decide +kernel
theorem dX7_codeOf_65 : decode cX7_codeOf 65 = .ok (.iload 5, 2) := by decide +kernel
theorem dX7_codeOf_67 : decode cX7_codeOf 67 = .ok (.if_icmp .le 11, 3) := by decide +kernel
theorem dX7_codeOf_70 : decode cX7_codeOf 70 = .ok (.iconst 2, 1) := by decide +kernel
theorem dX7_codeOf_71 : decode cX7_codeOf 71 = .ok (.aload_n 3, 1) := by decide +kernel
theorem dX7_codeOf_72 : decode cX7_codeOf 72 = .ok (.iconst 5, 1) := by decide +kernel
theorem dX7_codeOf_73 : decode cX7_codeOf 73 = .ok (.iaload, 1) := by decide +kernel
theorem dX7_codeOf_74 : decode cX7_codeOf 74 = .ok (.imul, 1) := by decide +kernel
theorem dX7_codeOf_75 : decode cX7_codeOf 75 = .ok (.goto 6, 3) := by decide +kernel
theorem dX7_codeOf_78 : decode cX7_codeOf 78 = .ok (.aload_n 3, 1) := by decide +kernel
theorem dX7_codeOf_79 : decode cX7_codeOf 79 = .ok (.iconst 5, 1) := by decide +kernel
theorem dX7_codeOf_80 : decode cX7_codeOf 80 = .ok (.iaload, 1) := by decide +kernel
theorem dX7_codeOf_81 : decode cX7_codeOf 81 = .ok (.istore 6, 2) := by decide +kernel
theorem dX7_codeOf_83 : decode cX7_codeOf 83 = .ok (.aload_n 0, 1) := by decide +kernel
theorem dX7_codeOf_84 : decode cX7_codeOf 84 = .ok (.iload_n 1, 1) := by decide +kernel
theorem dX7_codeOf_85 : decode cX7_codeOf 85 = .ok (.iload_n 2, 1) := by decide +kernel
theorem dX7_codeOf_86 : decode cX7_codeOf 86 = .ok (.invokevirtual 134, 3) := by decide +kernel
theorem dX7_codeOf_89 : decode cX7_codeOf 89 = .ok (.iload 6, 2) := by decide +kernel
theorem dX7_codeOf_91 : decode cX7_codeOf 91 = .ok (.iadd, 1) := by decide +kernel
theorem dX7_codeOf_92 : decode cX7_codeOf 92 = .ok (.bipush 7, 2) := by decide +kernel
theorem dX7_codeOf_94 : decode cX7_codeOf 94 = .ok (.aload_n 0, 1) := by decide +kernel
theorem dX7_codeOf_95 : decode cX7_codeOf 95 = .ok (.getfield 64, 3) := by decide +kernel
theorem dX7_codeOf_98 : decode cX7_codeOf 98 = .ok (.imul, 1) := by decide +kernel
theorem dX7_codeOf_99 : decode cX7_codeOf 99 = .ok (.iconst 3, 1) := by decide +kernel
theorem dX7_codeOf_100 : decode cX7_codeOf 100 = .ok (.iload_n 2, 1) := by decide +kernel
theorem dX7_codeOf_101 : decode cX7_codeOf 101 = .ok (.imul, 1) := by decide +kernel
theorem dX7_codeOf_102 : decode cX7_codeOf 102 = .ok (.iadd, 1) := by decide +kernel
theorem dX7_codeOf_103 : decode cX7_codeOf 103 = .ok (.iconst 2, 1) := by decide +kernel
theorem dX7_codeOf_104 : decode cX7_codeOf 104 = .ok (.iload_n 1, 1) := by decide +kernel
theorem dX7_codeOf_105 : decode cX7_codeOf 105 = .ok (.imul, 1) := by decide +kernel
theorem dX7_codeOf_106 : decode cX7_codeOf 106 = .ok (.iadd, 1) := by decide +kernel
theorem dX7_codeOf_107 : decode cX7_codeOf 107 = .ok (.iconst 5, 1) := by decide +kernel
theorem dX7_codeOf_108 : decode cX7_codeOf 108 = .ok (.invokestatic 54, 3) := by decide +kernel
theorem dX7_codeOf_111 : decode cX7_codeOf 111 = .ok (.iadd, 1) := by decide +kernel
theorem dX7_codeOf_112 : decode cX7_codeOf 112 = .ok (.iconst 2, 1) := by decide +kernel
theorem dX7_codeOf_113 : decode cX7_codeOf 113 = .ok (.isub, 1) := by decide +kernel
theorem dX7_codeOf_114 : decode cX7_codeOf 114 = .ok (.ireturn, 1) := by decide +kernel
theorem dX7_correction_0 : decode cX7_correction 0 = .ok (.aload_n 0, 1) := by decide +kernel
theorem dX7_correction_1 : decode cX7_correction 1 = .ok (.getfield 20, 3) := by decide +kernel
theorem dX7_correction_4 : decode cX7_correction 4 = .ok (.iload_n 1, 1) := by decide +kernel
theorem dX7_correction_5 : decode cX7_correction 5 = .ok (.aaload, 1) := by decide +kernel
theorem dX7_correction_6 : decode cX7_correction 6 = .ok (.bipush 9, 2) := by decide +kernel
theorem dX7_correction_8 : decode cX7_correction 8 = .ok (.iaload, 1) := by decide +kernel
theorem dX7_correction_9 : decode cX7_correction 9 = .ok (.istore_n 3, 1) := by decide +kernel
theorem dX7_correction_10 : decode cX7_correction 10 = .ok (.iload_n 3, 1) := by decide +kernel
theorem dX7_correction_11 : decode cX7_correction 11 = .ok (.iconst (-1), 1) := by decide +kernel
theorem dX7_correction_12 : decode cX7_correction 12 = .ok (.if_icmp .ne 5, 3) := by decide +kernel
theorem dX7_correction_15 : decode cX7_correction 15 = .ok (.iconst 0, 1) := by decide +kernel
theorem dX7_correction_16 : decode cX7_correction 16 = .ok (.ireturn, 1) := by decide +kernel
theorem dX7_correction_17 : decode cX7_correction 17 = .ok (.aload_n 0, 1) := by decide +kernel
theorem dX7_correction_18 : decode cX7_correction 18 = .ok (.getfield 20, 3) := by decide +kernel
theorem dX7_correction_21 : decode cX7_correction 21 = .ok (.iload_n 3, 1) := by decide +kernel
theorem dX7_correction_22 : decode cX7_correction 22 = .ok (.aaload, 1) := by decide +kernel
theorem dX7_correction_23 : decode cX7_correction 23 = .ok (.astore 4, 2) := by decide +kernel
theorem dX7_correction_25 : decode cX7_correction 25 = .ok (.aload_n 0, 1) := by decide +kernel
theorem dX7_correction_26 : decode cX7_correction 26 = .ok (.getfield 25, 3) := by decide +kernel
theorem dX7_correction_29 : decode cX7_correction 29 = .ok (.iload_n 3, 1) := by decide +kernel
theorem dX7_correction_30 : decode cX7_correction 30 = .ok (.aaload, 1) := by decide +kernel
theorem dX7_correction_31 : decode cX7_correction 31 = .ok (.iload_n 2, 1) := by decide +kernel
theorem dX7_correction_32 : decode cX7_correction 32 = .ok (.aaload, 1) := by decide +kernel
theorem dX7_correction_33 : decode cX7_correction 33 = .ok (.astore 5, 2) := by decide +kernel
theorem dX7_correction_35 : decode cX7_correction 35 = .ok (.aload 4, 2) := by decide +kernel
theorem dX7_correction_37 : decode cX7_correction 37 = .ok (.bipush 10, 2) := by decide +kernel
theorem dX7_correction_39 : decode cX7_correction 39 = .ok (.iaload, 1) := by decide +kernel
theorem dX7_correction_40 : decode cX7_correction 40 = .ok (.iconst (-1), 1) := by decide +kernel
theorem dX7_correction_41 : decode cX7_correction 41 = .ok (.if_icmp .eq 25, 3) := by decide +kernel
theorem dX7_correction_44 : decode cX7_correction 44 = .ok (.aload_n 0, 1) := by decide +kernel
theorem dX7_correction_45 : decode cX7_correction 45 = .ok (.getfield 64, 3) := by decide +kernel
theorem dX7_correction_48 : decode cX7_correction 48 = .ok (.aload 4, 2) := by decide +kernel
theorem dX7_correction_50 : decode cX7_correction 50 = .ok (.bipush 10, 2) := by decide +kernel
theorem dX7_correction_52 : decode cX7_correction 52 = .ok (.iaload, 1) := by decide +kernel
theorem dX7_correction_53 : decode cX7_correction 53 = .ok (.isub, 1) := by decide +kernel
theorem dX7_correction_54 : decode cX7_correction 54 = .ok (.iconst 5, 1) := by decide +kernel
theorem dX7_correction_55 : decode cX7_correction 55 = .ok (.if_icmp .gt 11, 3) := by decide +kernel
theorem dX7_correction_58 : decode cX7_correction 58 = .ok (.aload 5, 2) := by decide +kernel
theorem dX7_correction_60 : decode cX7_correction 60 = .ok (.bipush 6, 2) := by decide +kernel
theorem dX7_correction_62 : decode cX7_correction 62 = .ok (.iaload, 1) := by decide +kernel
theorem dX7_correction_63 : decode cX7_correction 63 = .ok (.ifCond .ne 5, 3) := by decide +kernel
theorem dX7_correction_66 : decode cX7_correction 66 = .ok (.iconst 0, 1) := by decide +kernel
theorem dX7_correction_67 : decode cX7_correction 67 = .ok (.ireturn, 1) := by decide +kernel
theorem dX7_correction_68 : decode cX7_correction 68 = .ok (.iconst 0, 1) := by decide +kernel
theorem dX7_correction_69 : decode cX7_correction 69 = .ok (.istore 6, 2) := by decide +kernel
theorem dX7_correction_71 : decode cX7_correction 71 = .ok (.iconst 0, 1) := by decide +kernel
theorem dX7_correction_72 : decode cX7_correction 72 = .ok (.istore 7, 2) := by decide +kernel
theorem dX7_correction_74 : decode cX7_correction 74 = .ok (.iload 7, 2) := by decide +kernel
theorem dX7_correction_76 : decode cX7_correction 76 = .ok (.aload_n 0, 1) := by decide +kernel
theorem dX7_correction_77 : decode cX7_correction 77 = .ok (.getfield 79, 3) := by decide +kernel
theorem dX7_correction_80 : decode cX7_correction 80 = .ok (.if_icmp .ge 46, 3) := by decide +kernel
theorem dX7_correction_83 : decode cX7_correction 83 = .ok (.iload 6, 2) := by decide +kernel
theorem dX7_correction_85 : decode cX7_correction 85 = .ok (.aload_n 0, 1) := by decide +kernel
theorem dX7_correction_86 : decode cX7_correction 86 = .ok (.getfield 25, 3) := by decide +kernel
theorem dX7_correction_89 : decode cX7_correction 89 = .ok (.iload_n 3, 1) := by decide +kernel
theorem dX7_correction_90 : decode cX7_correction 90 = .ok (.aaload, 1) := by decide +kernel
theorem dX7_correction_91 : decode cX7_correction 91 = .ok (.iload 7, 2) := by decide +kernel
theorem dX7_correction_93 : decode cX7_correction 93 = .ok (.aaload, 1) := by decide +kernel
theorem dX7_correction_94 : decode cX7_correction 94 = .ok (.bipush 6, 2) := by decide +kernel
theorem dX7_correction_96 : decode cX7_correction 96 = .ok (.iaload, 1) := by decide +kernel
theorem dX7_correction_97 : decode cX7_correction 97 = .ok (.iconst 1, 1) := by decide +kernel
theorem dX7_correction_98 : decode cX7_correction 98 = .ok (.if_icmp .ne 18, 3) := by decide +kernel
theorem dX7_correction_101 : decode cX7_correction 101 = .ok (.aload_n 0, 1) := by decide +kernel
theorem dX7_correction_102 : decode cX7_correction 102 = .ok (.getfield 25, 3) := by decide +kernel
theorem dX7_correction_105 : decode cX7_correction 105 = .ok (.iload_n 3, 1) := by decide +kernel
theorem dX7_correction_106 : decode cX7_correction 106 = .ok (.aaload, 1) := by decide +kernel
theorem dX7_correction_107 : decode cX7_correction 107 = .ok (.iload 7, 2) := by decide +kernel
theorem dX7_correction_109 : decode cX7_correction 109 = .ok (.aaload, 1) := by decide +kernel
theorem dX7_correction_110 : decode cX7_correction 110 = .ok (.bipush 10, 2) := by decide +kernel
theorem dX7_correction_112 : decode cX7_correction 112 = .ok (.iaload, 1) := by decide +kernel
theorem dX7_correction_113 : decode cX7_correction 113 = .ok (.goto 4, 3) := by decide +kernel
theorem dX7_correction_116 : decode cX7_correction 116 = .ok (.iconst 0, 1) := by decide +kernel
theorem dX7_correction_117 : decode cX7_correction 117 = .ok (.iadd, 1) := by decide +kernel
theorem dX7_correction_118 : decode cX7_correction 118 = .ok (.istore 6, 2) := by decide +kernel
theorem dX7_correction_120 : decode cX7_correction 120 = .ok (.iinc 7 1, 3) := by decide +kernel
theorem dX7_correction_123 : decode cX7_correction 123 = .ok (.goto (-49), 3) := by decide +kernel
theorem dX7_correction_126 : decode cX7_correction 126 = .ok (.aload 5, 2) := by decide +kernel
theorem dX7_correction_128 : decode cX7_correction 128 = .ok (.bipush 10, 2) := by decide +kernel
theorem dX7_correction_130 : decode cX7_correction 130 = .ok (.iaload, 1) := by decide +kernel
theorem dX7_correction_131 : decode cX7_correction 131 = .ok (.iload 6, 2) := by decide +kernel
theorem dX7_correction_133 : decode cX7_correction 133 = .ok (.aload 4, 2) := by decide +kernel
theorem dX7_correction_135 : decode cX7_correction 135 = .ok (.bipush 11, 2) := by decide +kernel
theorem dX7_correction_137 : decode cX7_correction 137 = .ok (.iaload, 1) := by decide +kernel
theorem dX7_correction_138 : decode cX7_correction 138 = .ok (.invokestatic 137, 3) := by decide +kernel
theorem dX7_correction_141 : decode cX7_correction 141 = .ok (.isub, 1) := by decide +kernel
theorem dX7_correction_142 : decode cX7_correction 142 = .ok (.ireturn, 1) := by decide +kernel
theorem dX7_solve_0 : decode cX7_solve 0 = .ok (.aload_n 0, 1) := by decide +kernel
theorem dX7_solve_1 : decode cX7_solve 1 = .ok (.ldc2_w 142, 3) := by decide +kernel
theorem dX7_solve_4 : decode cX7_solve 4 = .ok (.putfield 144, 3) := by decide +kernel
theorem dX7_solve_7 : decode cX7_solve 7 = .ok (.iconst 0, 1) := by decide +kernel
theorem dX7_solve_8 : decode cX7_solve 8 = .ok (.istore_n 1, 1) := by decide +kernel
theorem dX7_solve_9 : decode cX7_solve 9 = .ok (.iload_n 1, 1) := by decide +kernel
theorem dX7_solve_10 : decode cX7_solve 10 = .ok (.bipush 12, 2) := by decide +kernel
theorem dX7_solve_12 : decode cX7_solve 12 = .ok (.if_icmp .gt 30, 3) := by decide +kernel
theorem dX7_solve_15 : decode cX7_solve 15 = .ok (.bipush (-12), 2) := by decide +kernel
theorem dX7_solve_17 : decode cX7_solve 17 = .ok (.istore_n 2, 1) := by decide +kernel
theorem dX7_solve_18 : decode cX7_solve 18 = .ok (.iload_n 2, 1) := by decide +kernel
theorem dX7_solve_19 : decode cX7_solve 19 = .ok (.bipush 12, 2) := by decide +kernel
theorem dX7_solve_21 : decode cX7_solve 21 = .ok (.if_icmp .gt 15, 3) := by decide +kernel
theorem dX7_solve_24 : decode cX7_solve 24 = .ok (.aload_n 0, 1) := by decide +kernel
theorem dX7_solve_25 : decode cX7_solve 25 = .ok (.iload_n 2, 1) := by decide +kernel
theorem dX7_solve_26 : decode cX7_solve 26 = .ok (.iload_n 1, 1) := by decide +kernel
theorem dX7_solve_27 : decode cX7_solve 27 = .ok (.invokevirtual 148, 3) := by decide +kernel
theorem dX7_solve_30 : decode cX7_solve 30 = .ok (.iinc 2 1, 3) := by decide +kernel
theorem dX7_solve_33 : decode cX7_solve 33 = .ok (.goto (-15), 3) := by decide +kernel
theorem dX7_solve_36 : decode cX7_solve 36 = .ok (.iinc 1 1, 3) := by decide +kernel
theorem dX7_solve_39 : decode cX7_solve 39 = .ok (.goto (-30), 3) := by decide +kernel
theorem dX7_solve_42 : decode cX7_solve 42 = .ok (.return_, 1) := by decide +kernel
theorem dX7_over_0 : decode cX7_over 0 = .ok (.aload_n 0, 1) := by decide +kernel
theorem dX7_over_1 : decode cX7_over 1 = .ok (.getfield 35, 3) := by decide +kernel
theorem dX7_over_4 : decode cX7_over 4 = .ok (.iload_n 1, 1) := by decide +kernel
theorem dX7_over_5 : decode cX7_over 5 = .ok (.iaload, 1) := by decide +kernel
theorem dX7_over_6 : decode cX7_over 6 = .ok (.iload_n 2, 1) := by decide +kernel
theorem dX7_over_7 : decode cX7_over 7 = .ok (.iload_n 3, 1) := by decide +kernel
theorem dX7_over_8 : decode cX7_over 8 = .ok (.aload_n 0, 1) := by decide +kernel
theorem dX7_over_9 : decode cX7_over 9 = .ok (.getfield 28, 3) := by decide +kernel
theorem dX7_over_12 : decode cX7_over 12 = .ok (.iload_n 1, 1) := by decide +kernel
theorem dX7_over_13 : decode cX7_over 13 = .ok (.iaload, 1) := by decide +kernel
theorem dX7_over_14 : decode cX7_over 14 = .ok (.aload_n 0, 1) := by decide +kernel
theorem dX7_over_15 : decode cX7_over 15 = .ok (.getfield 32, 3) := by decide +kernel
theorem dX7_over_18 : decode cX7_over 18 = .ok (.iload_n 1, 1) := by decide +kernel
theorem dX7_over_19 : decode cX7_over 19 = .ok (.iaload, 1) := by decide +kernel
theorem dX7_over_20 : decode cX7_over 20 = .ok (.invokestatic 118, 3) := by decide +kernel
theorem dX7_over_23 : decode cX7_over 23 = .ok (.isub, 1) := by decide +kernel
theorem dX7_over_24 : decode cX7_over 24 = .ok (.ireturn, 1) := by decide +kernel
theorem dX7_look_0 : decode cX7_look 0 = .ok (.iconst 0, 1) := by decide +kernel
theorem dX7_look_1 : decode cX7_look 1 = .ok (.istore_n 3, 1) := by decide +kernel
theorem dX7_look_2 : decode cX7_look 2 = .ok (.iconst 0, 1) := by decide +kernel
theorem dX7_look_3 : decode cX7_look 3 = .ok (.istore 4, 2) := by decide +kernel
theorem dX7_look_5 : decode cX7_look 5 = .ok (.iconst 0, 1) := by decide +kernel
theorem dX7_look_6 : decode cX7_look 6 = .ok (.istore 5, 2) := by decide +kernel
theorem dX7_look_8 : decode cX7_look 8 = .ok (.iload 5, 2) := by decide +kernel
theorem dX7_look_10 : decode cX7_look 10 = .ok (.aload_n 0, 1) := by decide +kernel
theorem dX7_look_11 : decode cX7_look 11 = .ok (.getfield 79, 3) := by decide +kernel
theorem dX7_look_14 : decode cX7_look 14 = .ok (.if_icmp .ge 53, 3) := by decide +kernel
theorem dX7_look_17 : decode cX7_look 17 = .ok (.aload_n 0, 1) := by decide +kernel
theorem dX7_look_18 : decode cX7_look 18 = .ok (.getfield 38, 3) := by decide +kernel
theorem dX7_look_21 : decode cX7_look 21 = .ok (.iload 5, 2) := by decide +kernel
theorem dX7_look_23 : decode cX7_look 23 = .ok (.iaload, 1) := by decide +kernel
theorem dX7_look_24 : decode cX7_look 24 = .ok (.ifCond .ne 6, 3) := by decide +kernel
theorem dX7_look_27 : decode cX7_look 27 = .ok (.goto 34, 3) := by decide +kernel
theorem dX7_look_30 : decode cX7_look 30 = .ok (.iload_n 3, 1) := by decide +kernel
theorem dX7_look_31 : decode cX7_look 31 = .ok (.aload_n 0, 1) := by decide +kernel
theorem dX7_look_32 : decode cX7_look 32 = .ok (.getfield 38, 3) := by decide +kernel
theorem dX7_look_35 : decode cX7_look 35 = .ok (.iload 5, 2) := by decide +kernel
theorem dX7_look_37 : decode cX7_look 37 = .ok (.iaload, 1) := by decide +kernel
theorem dX7_look_38 : decode cX7_look 38 = .ok (.aload_n 0, 1) := by decide +kernel
theorem dX7_look_39 : decode cX7_look 39 = .ok (.iload 5, 2) := by decide +kernel
theorem dX7_look_41 : decode cX7_look 41 = .ok (.iload_n 1, 1) := by decide +kernel
theorem dX7_look_42 : decode cX7_look 42 = .ok (.iload_n 2, 1) := by decide +kernel
theorem dX7_look_43 : decode cX7_look 43 = .ok (.invokevirtual 152, 3) := by decide +kernel
theorem dX7_look_46 : decode cX7_look 46 = .ok (.imul, 1) := by decide +kernel
theorem dX7_look_47 : decode cX7_look 47 = .ok (.iadd, 1) := by decide +kernel
theorem dX7_look_48 : decode cX7_look 48 = .ok (.istore_n 3, 1) := by decide +kernel
theorem dX7_look_49 : decode cX7_look 49 = .ok (.iload 4, 2) := by decide +kernel
theorem dX7_look_51 : decode cX7_look 51 = .ok (.aload_n 0, 1) := by decide +kernel
theorem dX7_look_52 : decode cX7_look 52 = .ok (.getfield 38, 3) := by decide +kernel
theorem dX7_look_55 : decode cX7_look 55 = .ok (.iload 5, 2) := by decide +kernel
theorem dX7_look_57 : decode cX7_look 57 = .ok (.iaload, 1) := by decide +kernel
theorem dX7_look_58 : decode cX7_look 58 = .ok (.iadd, 1) := by decide +kernel
theorem dX7_look_59 : decode cX7_look 59 = .ok (.istore 4, 2) := by decide +kernel
theorem dX7_look_61 : decode cX7_look 61 = .ok (.iinc 5 1, 3) := by decide +kernel
theorem dX7_look_64 : decode cX7_look 64 = .ok (.goto (-56), 3) := by decide +kernel
theorem dX7_look_67 : decode cX7_look 67 = .ok (.iload_n 3, 1) := by decide +kernel
theorem dX7_look_68 : decode cX7_look 68 = .ok (.iload 4, 2) := by decide +kernel
theorem dX7_look_70 : decode cX7_look 70 = .ok (.invokestatic 137, 3) := by decide +kernel
theorem dX7_look_73 : decode cX7_look 73 = .ok (.istore 5, 2) := by decide +kernel
theorem dX7_look_75 : decode cX7_look 75 = .ok (.lconst 0, 1) := by decide +kernel
theorem dX7_look_76 : decode cX7_look 76 = .ok (.lstore 6, 2) := by decide +kernel
theorem dX7_look_78 : decode cX7_look 78 = .ok (.iconst 0, 1) := by decide +kernel
theorem dX7_look_79 : decode cX7_look 79 = .ok (.istore 8, 2) := by decide +kernel
theorem dX7_look_81 : decode cX7_look 81 = .ok (.iload 8, 2) := by decide +kernel
theorem dX7_look_83 : decode cX7_look 83 = .ok (.aload_n 0, 1) := by decide +kernel
theorem dX7_look_84 : decode cX7_look 84 = .ok (.getfield 79, 3) := by decide +kernel
theorem dX7_look_87 : decode cX7_look 87 = .ok (.if_icmp .ge 55, 3) := by decide +kernel
theorem dX7_look_90 : decode cX7_look 90 = .ok (.aload_n 0, 1) := by decide +kernel
theorem dX7_look_91 : decode cX7_look 91 = .ok (.getfield 38, 3) := by decide +kernel
theorem dX7_look_94 : decode cX7_look 94 = .ok (.iload 8, 2) := by decide +kernel
theorem dX7_look_96 : decode cX7_look 96 = .ok (.iaload, 1) := by decide +kernel
theorem dX7_look_97 : decode cX7_look 97 = .ok (.ifCond .ne 6, 3) := by decide +kernel
theorem dX7_look_100 : decode cX7_look 100 = .ok (.goto 36, 3) := by decide +kernel
theorem dX7_look_103 : decode cX7_look 103 = .ok (.aload_n 0, 1) := by decide +kernel
theorem dX7_look_104 : decode cX7_look 104 = .ok (.iload 8, 2) := by decide +kernel
theorem dX7_look_106 : decode cX7_look 106 = .ok (.iload_n 1, 1) := by decide +kernel
theorem dX7_look_107 : decode cX7_look 107 = .ok (.iload_n 2, 1) := by decide +kernel
theorem dX7_look_108 : decode cX7_look 108 = .ok (.invokevirtual 152, 3) := by decide +kernel
theorem dX7_look_111 : decode cX7_look 111 = .ok (.iload 5, 2) := by decide +kernel
theorem dX7_look_113 : decode cX7_look 113 = .ok (.isub, 1) := by decide +kernel
theorem dX7_look_114 : decode cX7_look 114 = .ok (.i2l, 1) := by decide +kernel
theorem dX7_look_115 : decode cX7_look 115 = .ok (.lstore 9, 2) := by decide +kernel
theorem dX7_look_117 : decode cX7_look 117 = .ok (.lload 6, 2) := by decide +kernel
theorem dX7_look_119 : decode cX7_look 119 = .ok (.aload_n 0, 1) := by decide +kernel
theorem dX7_look_120 : decode cX7_look 120 = .ok (.getfield 38, 3) := by decide +kernel
theorem dX7_look_123 : decode cX7_look 123 = .ok (.iload 8, 2) := by decide +kernel
theorem dX7_look_125 : decode cX7_look 125 = .ok (.iaload, 1) := by decide +kernel
theorem dX7_look_126 : decode cX7_look 126 = .ok (.i2l, 1) := by decide +kernel
theorem dX7_look_127 : decode cX7_look 127 = .ok (.lload 9, 2) := by decide +kernel
theorem dX7_look_129 : decode cX7_look 129 = .ok (.lmul, 1) := by decide +kernel
theorem dX7_look_130 : decode cX7_look 130 = .ok (.lload 9, 2) := by decide +kernel
theorem dX7_look_132 : decode cX7_look 132 = .ok (.lmul, 1) := by decide +kernel
theorem dX7_look_133 : decode cX7_look 133 = .ok (.ladd, 1) := by decide +kernel
theorem dX7_look_134 : decode cX7_look 134 = .ok (.lstore 6, 2) := by decide +kernel
theorem dX7_look_136 : decode cX7_look 136 = .ok (.iinc 8 1, 3) := by decide +kernel
theorem dX7_look_139 : decode cX7_look 139 = .ok (.goto (-58), 3) := by decide +kernel
theorem dX7_look_142 : decode cX7_look 142 = .ok (.lload 6, 2) := by decide +kernel
theorem dX7_look_144 : decode cX7_look 144 = .ok (.aload_n 0, 1) := by decide +kernel
theorem dX7_look_145 : decode cX7_look 145 = .ok (.getfield 144, 3) := by decide +kernel
theorem dX7_look_148 : decode cX7_look 148 = .ok (.lcmp, 1) := by decide +kernel
theorem dX7_look_149 : decode cX7_look 149 = .ok (.ifCond .lt 4, 3) := by decide +kernel
theorem dX7_look_152 : decode cX7_look 152 = .ok (.return_, 1) := by decide +kernel
theorem dX7_look_153 : decode cX7_look 153 = .ok (.aload_n 0, 1) := by decide +kernel
theorem dX7_look_154 : decode cX7_look 154 = .ok (.lload 6, 2) := by decide +kernel
theorem dX7_look_156 : decode cX7_look 156 = .ok (.putfield 144, 3) := by decide +kernel
theorem dX7_look_159 : decode cX7_look 159 = .ok (.aload_n 0, 1) := by decide +kernel
theorem dX7_look_160 : decode cX7_look 160 = .ok (.iload_n 1, 1) := by decide +kernel
theorem dX7_look_161 : decode cX7_look 161 = .ok (.putfield 155, 3) := by decide +kernel
theorem dX7_look_164 : decode cX7_look 164 = .ok (.aload_n 0, 1) := by decide +kernel
theorem dX7_look_165 : decode cX7_look 165 = .ok (.iload_n 2, 1) := by decide +kernel
theorem dX7_look_166 : decode cX7_look 166 = .ok (.putfield 158, 3) := by decide +kernel
theorem dX7_look_169 : decode cX7_look 169 = .ok (.aload_n 0, 1) := by decide +kernel
theorem dX7_look_170 : decode cX7_look 170 = .ok (.iload 5, 2) := by decide +kernel
theorem dX7_look_172 : decode cX7_look 172 = .ok (.putfield 161, 3) := by decide +kernel
theorem dX7_look_175 : decode cX7_look 175 = .ok (.return_, 1) := by decide +kernel
theorem dX7_lay_0 : decode cX7_lay 0 = .ok (.iconst 0, 1) := by decide +kernel
theorem dX7_lay_1 : decode cX7_lay 1 = .ok (.istore 4, 2) := by decide +kernel
theorem dX7_lay_3 : decode cX7_lay 3 = .ok (.iconst 0, 1) := by decide +kernel
theorem dX7_lay_4 : decode cX7_lay 4 = .ok (.istore 5, 2) := by decide +kernel
theorem dX7_lay_6 : decode cX7_lay 6 = .ok (.iload 5, 2) := by decide +kernel
theorem dX7_lay_8 : decode cX7_lay 8 = .ok (.aload_n 0, 1) := by decide +kernel
theorem dX7_lay_9 : decode cX7_lay 9 = .ok (.getfield 79, 3) := by decide +kernel
theorem dX7_lay_12 : decode cX7_lay 12 = .ok (.if_icmp .ge 207, 3) := by decide +kernel
theorem dX7_lay_15 : decode cX7_lay 15 = .ok (.aload_n 0, 1) := by decide +kernel
theorem dX7_lay_16 : decode cX7_lay 16 = .ok (.getfield 38, 3) := by decide +kernel
theorem dX7_lay_19 : decode cX7_lay 19 = .ok (.iload 5, 2) := by decide +kernel
theorem dX7_lay_21 : decode cX7_lay 21 = .ok (.iconst 0, 1) := by decide +kernel
theorem dX7_lay_22 : decode cX7_lay 22 = .ok (.iastore, 1) := by decide +kernel
theorem dX7_lay_23 : decode cX7_lay 23 = .ok (.iload 5, 2) := by decide +kernel
theorem dX7_lay_25 : decode cX7_lay 25 = .ok (.iload_n 3, 1) := by decide +kernel
theorem dX7_lay_26 : decode cX7_lay 26 = .ok (.if_icmp .eq 187, 3) := by decide +kernel
theorem dX7_lay_29 : decode cX7_lay 29 = .ok (.aload_n 0, 1) := by decide +kernel
theorem dX7_lay_30 : decode cX7_lay 30 = .ok (.iload 5, 2) := by decide +kernel
theorem dX7_lay_32 : decode cX7_lay 32 = .ok (.invokevirtual 164, 3) := by decide +kernel
theorem dX7_lay_35 : decode cX7_lay 35 = .ok (.ifCond .eq 178, 3) := by decide +kernel
theorem dX7_lay_38 : decode cX7_lay 38 = .ok (.aload_n 0, 1) := by decide +kernel
theorem dX7_lay_39 : decode cX7_lay 39 = .ok (.iload_n 1, 1) := by decide +kernel
theorem dX7_lay_40 : decode cX7_lay 40 = .ok (.iload 5, 2) := by decide +kernel
theorem dX7_lay_42 : decode cX7_lay 42 = .ok (.iconst 0, 1) := by decide +kernel
theorem dX7_lay_43 : decode cX7_lay 43 = .ok (.invokevirtual 82, 3) := by decide +kernel
theorem dX7_lay_46 : decode cX7_lay 46 = .ok (.ifCond .ne 6, 3) := by decide +kernel
theorem dX7_lay_49 : decode cX7_lay 49 = .ok (.goto 164, 3) := by decide +kernel
theorem dX7_lay_52 : decode cX7_lay 52 = .ok (.aload_n 0, 1) := by decide +kernel
theorem dX7_lay_53 : decode cX7_lay 53 = .ok (.getfield 25, 3) := by decide +kernel
theorem dX7_lay_56 : decode cX7_lay 56 = .ok (.iload_n 1, 1) := by decide +kernel
theorem dX7_lay_57 : decode cX7_lay 57 = .ok (.aaload, 1) := by decide +kernel
theorem dX7_lay_58 : decode cX7_lay 58 = .ok (.iload 5, 2) := by decide +kernel
theorem dX7_lay_60 : decode cX7_lay 60 = .ok (.aaload, 1) := by decide +kernel
theorem dX7_lay_61 : decode cX7_lay 61 = .ok (.astore 6, 2) := by decide +kernel
theorem dX7_lay_63 : decode cX7_lay 63 = .ok (.iload_n 2, 1) := by decide +kernel
theorem dX7_lay_64 : decode cX7_lay 64 = .ok (.ifCond .eq 15, 3) := by decide +kernel
theorem dX7_lay_67 : decode cX7_lay 67 = .ok (.aload 6, 2) := by decide +kernel
theorem dX7_lay_69 : decode cX7_lay 69 = .ok (.iconst 5, 1) := by decide +kernel
theorem dX7_lay_70 : decode cX7_lay 70 = .ok (.iaload, 1) := by decide +kernel
theorem dX7_lay_71 : decode cX7_lay 71 = .ok (.iconst 1, 1) := by decide +kernel
theorem dX7_lay_72 : decode cX7_lay 72 = .ok (.if_icmp .ne 7, 3) := by decide +kernel
theorem dX7_lay_75 : decode cX7_lay 75 = .ok (.iconst 1, 1) := by decide +kernel
theorem dX7_lay_76 : decode cX7_lay 76 = .ok (.goto 4, 3) := by decide +kernel
theorem dX7_lay_79 : decode cX7_lay 79 = .ok (.iconst 0, 1) := by decide +kernel
theorem dX7_lay_80 : decode cX7_lay 80 = .ok (.istore 7, 2) := by decide +kernel
theorem dX7_lay_82 : decode cX7_lay 82 = .ok (.aload_n 0, 1) := by decide +kernel
theorem dX7_lay_83 : decode cX7_lay 83 = .ok (.getfield 28, 3) := by decide +kernel
theorem dX7_lay_86 : decode cX7_lay 86 = .ok (.iload 5, 2) := by decide +kernel
theorem dX7_lay_88 : decode cX7_lay 88 = .ok (.aload_n 0, 1) := by decide +kernel
theorem dX7_lay_89 : decode cX7_lay 89 = .ok (.iload 5, 2) := by decide +kernel
theorem dX7_lay_91 : decode cX7_lay 91 = .ok (.aload_n 0, 1) := by decide +kernel
theorem dX7_lay_92 : decode cX7_lay 92 = .ok (.iload 5, 2) := by decide +kernel
theorem dX7_lay_94 : decode cX7_lay 94 = .ok (.invokevirtual 167, 3) := by decide +kernel
theorem dX7_lay_97 : decode cX7_lay 97 = .ok (.invokevirtual 76, 3) := by decide +kernel
theorem dX7_lay_100 : decode cX7_lay 100 = .ok (.iastore, 1) := by decide +kernel
theorem dX7_lay_101 : decode cX7_lay 101 = .ok (.aload_n 0, 1) := by decide +kernel
theorem dX7_lay_102 : decode cX7_lay 102 = .ok (.getfield 32, 3) := by decide +kernel
theorem dX7_lay_105 : decode cX7_lay 105 = .ok (.iload 5, 2) := by decide +kernel
theorem dX7_lay_107 : decode cX7_lay 107 = .ok (.aload_n 0, 1) := by decide +kernel
theorem dX7_lay_108 : decode cX7_lay 108 = .ok (.iload 5, 2) := by decide +kernel
theorem dX7_lay_110 : decode cX7_lay 110 = .ok (.aload_n 0, 1) := by decide +kernel
theorem dX7_lay_111 : decode cX7_lay 111 = .ok (.iload 5, 2) := by decide +kernel
theorem dX7_lay_113 : decode cX7_lay 113 = .ok (.invokevirtual 167, 3) := by decide +kernel
theorem dX7_lay_116 : decode cX7_lay 116 = .ok (.invokevirtual 73, 3) := by decide +kernel
theorem dX7_lay_119 : decode cX7_lay 119 = .ok (.iastore, 1) := by decide +kernel
theorem dX7_lay_120 : decode cX7_lay 120 = .ok (.aload_n 0, 1) := by decide +kernel
theorem dX7_lay_121 : decode cX7_lay 121 = .ok (.getfield 35, 3) := by decide +kernel
theorem dX7_lay_124 : decode cX7_lay 124 = .ok (.iload 5, 2) := by decide +kernel
theorem dX7_lay_126 : decode cX7_lay 126 = .ok (.iload 7, 2) := by decide +kernel
theorem dX7_lay_128 : decode cX7_lay 128 = .ok (.ifCond .eq 18, 3) := by decide +kernel
theorem dX7_lay_131 : decode cX7_lay 131 = .ok (.aload 6, 2) := by decide +kernel
theorem dX7_lay_133 : decode cX7_lay 133 = .ok (.iconst 1, 1) := by decide +kernel
theorem dX7_lay_134 : decode cX7_lay 134 = .ok (.iaload, 1) := by decide +kernel
theorem dX7_lay_135 : decode cX7_lay 135 = .ok (.bipush 10, 2) := by decide +kernel
theorem dX7_lay_137 : decode cX7_lay 137 = .ok (.aload 6, 2) := by decide +kernel
theorem dX7_lay_139 : decode cX7_lay 139 = .ok (.iconst 2, 1) := by decide +kernel
theorem dX7_lay_140 : decode cX7_lay 140 = .ok (.iaload, 1) := by decide +kernel
theorem dX7_lay_141 : decode cX7_lay 141 = .ok (.imul, 1) := by decide +kernel
theorem dX7_lay_142 : decode cX7_lay 142 = .ok (.iadd, 1) := by decide +kernel
theorem dX7_lay_143 : decode cX7_lay 143 = .ok (.goto 10, 3) := by decide +kernel
theorem dX7_lay_146 : decode cX7_lay 146 = .ok (.aload_n 0, 1) := by decide +kernel
theorem dX7_lay_147 : decode cX7_lay 147 = .ok (.iload_n 1, 1) := by decide +kernel
theorem dX7_lay_148 : decode cX7_lay 148 = .ok (.iload 5, 2) := by decide +kernel
theorem dX7_lay_150 : decode cX7_lay 150 = .ok (.invokevirtual 170, 3) := by decide +kernel
theorem dX7_lay_153 : decode cX7_lay 153 = .ok (.aload_n 0, 1) := by decide +kernel
theorem dX7_lay_154 : decode cX7_lay 154 = .ok (.iload 5, 2) := by decide +kernel
theorem dX7_lay_156 : decode cX7_lay 156 = .ok (.invokevirtual 173, 3) := by decide +kernel
theorem dX7_lay_159 : decode cX7_lay 159 = .ok (.isub, 1) := by decide +kernel
theorem dX7_lay_160 : decode cX7_lay 160 = .ok (.aload_n 0, 1) := by decide +kernel
theorem dX7_lay_161 : decode cX7_lay 161 = .ok (.iload_n 1, 1) := by decide +kernel
theorem dX7_lay_162 : decode cX7_lay 162 = .ok (.iload 5, 2) := by decide +kernel
theorem dX7_lay_164 : decode cX7_lay 164 = .ok (.invokevirtual 176, 3) := by decide +kernel
theorem dX7_lay_167 : decode cX7_lay 167 = .ok (.isub, 1) := by decide +kernel
theorem dX7_lay_168 : decode cX7_lay 168 = .ok (.iastore, 1) := by decide +kernel
theorem dX7_lay_169 : decode cX7_lay 169 = .ok (.aload_n 0, 1) := by decide +kernel
theorem dX7_lay_170 : decode cX7_lay 170 = .ok (.getfield 38, 3) := by decide +kernel
theorem dX7_lay_173 : decode cX7_lay 173 = .ok (.iload 5, 2) := by decide +kernel
theorem dX7_lay_175 : decode cX7_lay 175 = .ok (.iload 7, 2) := by decide +kernel
theorem dX7_lay_177 : decode cX7_lay 177 = .ok (.ifCond .eq 7, 3) := by decide +kernel
theorem dX7_lay_180 : decode cX7_lay 180 = .ok (.iconst 4, 1) := by decide +kernel
theorem dX7_lay_181 : decode cX7_lay 181 = .ok (.goto 28, 3) := by decide +kernel
theorem dX7_lay_184 : decode cX7_lay 184 = .ok (.aload_n 0, 1) := by decide +kernel
theorem dX7_lay_185 : decode cX7_lay 185 = .ok (.getfield 32, 3) := by decide +kernel
theorem dX7_lay_188 : decode cX7_lay 188 = .ok (.iload 5, 2) := by decide +kernel
theorem dX7_lay_190 : decode cX7_lay 190 = .ok (.iaload, 1) := by decide +kernel
theorem dX7_lay_191 : decode cX7_lay 191 = .ok (.aload_n 0, 1) := by decide +kernel
theorem dX7_lay_192 : decode cX7_lay 192 = .ok (.getfield 28, 3) := by decide +kernel
theorem dX7_lay_195 : decode cX7_lay 195 = .ok (.iload 5, 2) := by decide +kernel
theorem dX7_lay_197 : decode cX7_lay 197 = .ok (.iaload, 1) := by decide +kernel
theorem dX7_lay_198 : decode cX7_lay 198 = .ok (.invokestatic 61, 3) := by decide +kernel
theorem dX7_lay_201 : decode cX7_lay 201 = .ok (.if_icmp .le 7, 3) := by decide +kernel
theorem dX7_lay_204 : decode cX7_lay 204 = .ok (.iconst 2, 1) := by decide +kernel
theorem dX7_lay_205 : decode cX7_lay 205 = .ok (.goto 4, 3) := by decide +kernel
theorem dX7_lay_208 : decode cX7_lay 208 = .ok (.iconst 1, 1) := by decide +kernel
theorem dX7_lay_209 : decode cX7_lay 209 = .ok (.iastore, 1) := by decide +kernel
theorem dX7_lay_210 : decode cX7_lay 210 = .ok (.iinc 4 1, 3) := by decide +kernel
theorem dX7_lay_213 : decode cX7_lay 213 = .ok (.iinc 5 1, 3) := by decide +kernel
theorem dX7_lay_216 : decode cX7_lay 216 = .ok (.goto (-210), 3) := by decide +kernel
theorem dX7_lay_219 : decode cX7_lay 219 = .ok (.iload 4, 2) := by decide +kernel
theorem dX7_lay_221 : decode cX7_lay 221 = .ok (.ireturn, 1) := by decide +kernel
theorem dX7_level_0 : decode cX7_level 0 = .ok (.iload_n 1, 1) := by decide +kernel
theorem dX7_level_1 : decode cX7_level 1 = .ok (.iconst 4, 1) := by decide +kernel
theorem dX7_level_2 : decode cX7_level 2 = .ok (.if_icmp .ge 6, 3) := by decide +kernel
theorem dX7_level_5 : decode cX7_level 5 = .ok (.bipush 99, 2) := by decide +kernel
theorem dX7_level_7 : decode cX7_level 7 = .ok (.ireturn, 1) := by decide +kernel
theorem dX7_level_8 : decode cX7_level 8 = .ok (.aload_n 0, 1) := by decide +kernel
theorem dX7_level_9 : decode cX7_level 9 = .ok (.getfield 155, 3) := by decide +kernel
theorem dX7_level_12 : decode cX7_level 12 = .ok (.istore_n 2, 1) := by decide +kernel
theorem dX7_level_13 : decode cX7_level 13 = .ok (.aload_n 0, 1) := by decide +kernel
theorem dX7_level_14 : decode cX7_level 14 = .ok (.getfield 158, 3) := by decide +kernel
theorem dX7_level_17 : decode cX7_level 17 = .ok (.istore_n 3, 1) := by decide +kernel
theorem dX7_level_18 : decode cX7_level 18 = .ok (.aload_n 0, 1) := by decide +kernel
theorem dX7_level_19 : decode cX7_level 19 = .ok (.getfield 161, 3) := by decide +kernel
theorem dX7_level_22 : decode cX7_level 22 = .ok (.istore 4, 2) := by decide +kernel
theorem dX7_level_24 : decode cX7_level 24 = .ok (.aload_n 0, 1) := by decide +kernel
theorem dX7_level_25 : decode cX7_level 25 = .ok (.getfield 144, 3) := by decide +kernel
theorem dX7_level_28 : decode cX7_level 28 = .ok (.lstore 5, 2) := by decide +kernel
theorem dX7_level_30 : decode cX7_level 30 = .ok (.iconst 0, 1) := by decide +kernel
theorem dX7_level_31 : decode cX7_level 31 = .ok (.istore 7, 2) := by decide +kernel
theorem dX7_level_33 : decode cX7_level 33 = .ok (.iconst 0, 1) := by decide +kernel
theorem dX7_level_34 : decode cX7_level 34 = .ok (.istore 8, 2) := by decide +kernel
theorem dX7_level_36 : decode cX7_level 36 = .ok (.iload 8, 2) := by decide +kernel
theorem dX7_level_38 : decode cX7_level 38 = .ok (.aload_n 0, 1) := by decide +kernel
theorem dX7_level_39 : decode cX7_level 39 = .ok (.getfield 79, 3) := by decide +kernel
theorem dX7_level_42 : decode cX7_level 42 = .ok (.if_icmp .ge 67, 3) := by decide +kernel
theorem dX7_level_45 : decode cX7_level 45 = .ok (.aload_n 0, 1) := by decide +kernel
theorem dX7_level_46 : decode cX7_level 46 = .ok (.getfield 38, 3) := by decide +kernel
theorem dX7_level_49 : decode cX7_level 49 = .ok (.iload 8, 2) := by decide +kernel
theorem dX7_level_51 : decode cX7_level 51 = .ok (.iaload, 1) := by decide +kernel
theorem dX7_level_52 : decode cX7_level 52 = .ok (.istore 9, 2) := by decide +kernel
theorem dX7_level_54 : decode cX7_level 54 = .ok (.iload 9, 2) := by decide +kernel
theorem dX7_level_56 : decode cX7_level 56 = .ok (.ifCond .ne 6, 3) := by decide +kernel
theorem dX7_level_59 : decode cX7_level 59 = .ok (.goto 44, 3) := by decide +kernel
theorem dX7_level_62 : decode cX7_level 62 = .ok (.aload_n 0, 1) := by decide +kernel
theorem dX7_level_63 : decode cX7_level 63 = .ok (.getfield 38, 3) := by decide +kernel
theorem dX7_level_66 : decode cX7_level 66 = .ok (.iload 8, 2) := by decide +kernel
theorem dX7_level_68 : decode cX7_level 68 = .ok (.iconst 0, 1) := by decide +kernel
theorem dX7_level_69 : decode cX7_level 69 = .ok (.iastore, 1) := by decide +kernel
theorem dX7_level_70 : decode cX7_level 70 = .ok (.aload_n 0, 1) := by decide +kernel
theorem dX7_level_71 : decode cX7_level 71 = .ok (.invokevirtual 179, 3) := by decide +kernel
theorem dX7_level_74 : decode cX7_level 74 = .ok (.iload 7, 2) := by decide +kernel
theorem dX7_level_76 : decode cX7_level 76 = .ok (.iload_n 2, 1) := by decide +kernel
theorem dX7_level_77 : decode cX7_level 77 = .ok (.iload_n 3, 1) := by decide +kernel
theorem dX7_level_78 : decode cX7_level 78 = .ok (.aload_n 0, 1) := by decide +kernel
theorem dX7_level_79 : decode cX7_level 79 = .ok (.getfield 155, 3) := by decide +kernel
theorem dX7_level_82 : decode cX7_level 82 = .ok (.aload_n 0, 1) := by decide +kernel
theorem dX7_level_83 : decode cX7_level 83 = .ok (.getfield 158, 3) := by decide +kernel
theorem dX7_level_86 : decode cX7_level 86 = .ok (.invokestatic 118, 3) := by decide +kernel
theorem dX7_level_89 : decode cX7_level 89 = .ok (.invokestatic 51, 3) := by decide +kernel
theorem dX7_level_92 : decode cX7_level 92 = .ok (.istore 7, 2) := by decide +kernel
theorem dX7_level_94 : decode cX7_level 94 = .ok (.aload_n 0, 1) := by decide +kernel
theorem dX7_level_95 : decode cX7_level 95 = .ok (.getfield 38, 3) := by decide +kernel
theorem dX7_level_98 : decode cX7_level 98 = .ok (.iload 8, 2) := by decide +kernel
theorem dX7_level_100 : decode cX7_level 100 = .ok (.iload 9, 2) := by decide +kernel
theorem dX7_level_102 : decode cX7_level 102 = .ok (.iastore, 1) := by decide +kernel
theorem dX7_level_103 : decode cX7_level 103 = .ok (.iinc 8 1, 3) := by decide +kernel
theorem dX7_level_106 : decode cX7_level 106 = .ok (.goto (-70), 3) := by decide +kernel
theorem dX7_level_109 : decode cX7_level 109 = .ok (.aload_n 0, 1) := by decide +kernel
theorem dX7_level_110 : decode cX7_level 110 = .ok (.iload_n 2, 1) := by decide +kernel
theorem dX7_level_111 : decode cX7_level 111 = .ok (.putfield 155, 3) := by decide +kernel
theorem dX7_level_114 : decode cX7_level 114 = .ok (.aload_n 0, 1) := by decide +kernel
theorem dX7_level_115 : decode cX7_level 115 = .ok (.iload_n 3, 1) := by decide +kernel
theorem dX7_level_116 : decode cX7_level 116 = .ok (.putfield 158, 3) := by decide +kernel
theorem dX7_level_119 : decode cX7_level 119 = .ok (.aload_n 0, 1) := by decide +kernel
theorem dX7_level_120 : decode cX7_level 120 = .ok (.iload 4, 2) := by decide +kernel
theorem dX7_level_122 : decode cX7_level 122 = .ok (.putfield 161, 3) := by decide +kernel
theorem dX7_level_125 : decode cX7_level 125 = .ok (.aload_n 0, 1) := by decide +kernel
theorem dX7_level_126 : decode cX7_level 126 = .ok (.lload 5, 2) := by decide +kernel
theorem dX7_level_128 : decode cX7_level 128 = .ok (.putfield 144, 3) := by decide +kernel
theorem dX7_level_131 : decode cX7_level 131 = .ok (.iconst 3, 1) := by decide +kernel
theorem dX7_level_132 : decode cX7_level 132 = .ok (.iload 7, 2) := by decide +kernel
theorem dX7_level_134 : decode cX7_level 134 = .ok (.iadd, 1) := by decide +kernel
theorem dX7_level_135 : decode cX7_level 135 = .ok (.ireturn, 1) := by decide +kernel
theorem dX7_alarm_0 : decode cX7_alarm 0 = .ok (.iload_n 2, 1) := by decide +kernel
theorem dX7_alarm_1 : decode cX7_alarm 1 = .ok (.iconst 4, 1) := by decide +kernel
theorem dX7_alarm_2 : decode cX7_alarm 2 = .ok (.if_icmp .ge 7, 3) := by decide +kernel
theorem dX7_alarm_5 : decode cX7_alarm 5 = .ok (.iconst 1, 1) := by decide +kernel
theorem dX7_alarm_6 : decode cX7_alarm 6 = .ok (.goto 39, 3) := by decide +kernel
theorem dX7_alarm_9 : decode cX7_alarm 9 = .ok (.aload_n 0, 1) := by decide +kernel
theorem dX7_alarm_10 : decode cX7_alarm 10 = .ok (.getfield 144, 3) := by decide +kernel
theorem dX7_alarm_13 : decode cX7_alarm 13 = .ok (.ldc2_w 182, 3) := by decide +kernel
theorem dX7_alarm_16 : decode cX7_alarm 16 = .ok (.iload_n 2, 1) := by decide +kernel
theorem dX7_alarm_17 : decode cX7_alarm 17 = .ok (.i2l, 1) := by decide +kernel
theorem dX7_alarm_18 : decode cX7_alarm 18 = .ok (.lmul, 1) := by decide +kernel
theorem dX7_alarm_19 : decode cX7_alarm 19 = .ok (.lcmp, 1) := by decide +kernel
theorem dX7_alarm_20 : decode cX7_alarm 20 = .ok (.ifCond .le 7, 3) := by decide +kernel
theorem dX7_alarm_23 : decode cX7_alarm 23 = .ok (.iconst 2, 1) := by decide +kernel
theorem dX7_alarm_24 : decode cX7_alarm 24 = .ok (.goto 21, 3) := by decide +kernel
theorem dX7_alarm_27 : decode cX7_alarm 27 = .ok (.iload_n 3, 1) := by decide +kernel
theorem dX7_alarm_28 : decode cX7_alarm 28 = .ok (.aload_n 0, 1) := by decide +kernel
theorem dX7_alarm_29 : decode cX7_alarm 29 = .ok (.getfield 20, 3) := by decide +kernel
theorem dX7_alarm_32 : decode cX7_alarm 32 = .ok (.iload_n 1, 1) := by decide +kernel
theorem dX7_alarm_33 : decode cX7_alarm 33 = .ok (.aaload, 1) := by decide +kernel
theorem dX7_alarm_34 : decode cX7_alarm 34 = .ok (.bipush 7, 2) := by decide +kernel
theorem dX7_alarm_36 : decode cX7_alarm 36 = .ok (.iaload, 1) := by decide +kernel
theorem dX7_alarm_37 : decode cX7_alarm 37 = .ok (.if_icmp .le 7, 3) := by decide +kernel
theorem dX7_alarm_40 : decode cX7_alarm 40 = .ok (.iconst 3, 1) := by decide +kernel
theorem dX7_alarm_41 : decode cX7_alarm 41 = .ok (.goto 4, 3) := by decide +kernel
theorem dX7_alarm_44 : decode cX7_alarm 44 = .ok (.iconst 0, 1) := by decide +kernel
theorem dX7_alarm_45 : decode cX7_alarm 45 = .ok (.ireturn, 1) := by decide +kernel
theorem dX7_see_0 : decode cX7_see 0 = .ok (.aload_n 0, 1) := by decide +kernel
theorem dX7_see_1 : decode cX7_see 1 = .ok (.getfield 25, 3) := by decide +kernel
theorem dX7_see_4 : decode cX7_see 4 = .ok (.iload_n 1, 1) := by decide +kernel
theorem dX7_see_5 : decode cX7_see 5 = .ok (.aaload, 1) := by decide +kernel
theorem dX7_see_6 : decode cX7_see 6 = .ok (.iload_n 2, 1) := by decide +kernel
theorem dX7_see_7 : decode cX7_see 7 = .ok (.aaload, 1) := by decide +kernel
theorem dX7_see_8 : decode cX7_see 8 = .ok (.astore 4, 2) := by decide +kernel
theorem dX7_see_10 : decode cX7_see 10 = .ok (.iload_n 3, 1) := by decide +kernel
theorem dX7_see_11 : decode cX7_see 11 = .ok (.ifCond .eq 16, 3) := by decide +kernel
theorem dX7_see_14 : decode cX7_see 14 = .ok (.aload 4, 2) := by decide +kernel
theorem dX7_see_16 : decode cX7_see 16 = .ok (.bipush 11, 2) := by decide +kernel
theorem dX7_see_18 : decode cX7_see 18 = .ok (.iaload, 1) := by decide +kernel
theorem dX7_see_19 : decode cX7_see 19 = .ok (.iconst 1, 1) := by decide +kernel
theorem dX7_see_20 : decode cX7_see 20 = .ok (.if_icmp .ne 7, 3) := by decide +kernel
theorem dX7_see_23 : decode cX7_see 23 = .ok (.iconst 1, 1) := by decide +kernel
theorem dX7_see_24 : decode cX7_see 24 = .ok (.goto 4, 3) := by decide +kernel
theorem dX7_see_27 : decode cX7_see 27 = .ok (.iconst 0, 1) := by decide +kernel
theorem dX7_see_28 : decode cX7_see 28 = .ok (.istore 5, 2) := by decide +kernel
theorem dX7_see_30 : decode cX7_see 30 = .ok (.aload 4, 2) := by decide +kernel
theorem dX7_see_32 : decode cX7_see 32 = .ok (.bipush 11, 2) := by decide +kernel
theorem dX7_see_34 : decode cX7_see 34 = .ok (.aload_n 0, 1) := by decide +kernel
theorem dX7_see_35 : decode cX7_see 35 = .ok (.iload_n 1, 1) := by decide +kernel
theorem dX7_see_36 : decode cX7_see 36 = .ok (.iload_n 2, 1) := by decide +kernel
theorem dX7_see_37 : decode cX7_see 37 = .ok (.iconst 0, 1) := by decide +kernel
theorem dX7_see_38 : decode cX7_see 38 = .ok (.invokevirtual 82, 3) := by decide +kernel
theorem dX7_see_41 : decode cX7_see 41 = .ok (.ifCond .eq 7, 3) := by decide +kernel
theorem dX7_see_44 : decode cX7_see 44 = .ok (.iconst 1, 1) := by decide +kernel
theorem dX7_see_45 : decode cX7_see 45 = .ok (.goto 4, 3) := by decide +kernel
theorem dX7_see_48 : decode cX7_see 48 = .ok (.iconst 0, 1) := by decide +kernel
theorem dX7_see_49 : decode cX7_see 49 = .ok (.iastore, 1) := by decide +kernel
theorem dX7_see_50 : decode cX7_see 50 = .ok (.aload 4, 2) := by decide +kernel
theorem dX7_see_52 : decode cX7_see 52 = .ok (.iconst 5, 1) := by decide +kernel
theorem dX7_see_53 : decode cX7_see 53 = .ok (.iconst 0, 1) := by decide +kernel
theorem dX7_see_54 : decode cX7_see 54 = .ok (.iastore, 1) := by decide +kernel
theorem dX7_see_55 : decode cX7_see 55 = .ok (.aload 4, 2) := by decide +kernel
theorem dX7_see_57 : decode cX7_see 57 = .ok (.bipush 6, 2) := by decide +kernel
theorem dX7_see_59 : decode cX7_see 59 = .ok (.iconst 0, 1) := by decide +kernel
theorem dX7_see_60 : decode cX7_see 60 = .ok (.iastore, 1) := by decide +kernel
theorem dX7_see_61 : decode cX7_see 61 = .ok (.aload 4, 2) := by decide +kernel
theorem dX7_see_63 : decode cX7_see 63 = .ok (.bipush 7, 2) := by decide +kernel
theorem dX7_see_65 : decode cX7_see 65 = .ok (.iconst 0, 1) := by decide +kernel
theorem dX7_see_66 : decode cX7_see 66 = .ok (.iastore, 1) := by decide +kernel
theorem dX7_see_67 : decode cX7_see 67 = .ok (.aload 4, 2) := by decide +kernel
theorem dX7_see_69 : decode cX7_see 69 = .ok (.bipush 11, 2) := by decide +kernel
theorem dX7_see_71 : decode cX7_see 71 = .ok (.iaload, 1) := by decide +kernel
theorem dX7_see_72 : decode cX7_see 72 = .ok (.ifCond .ne 4, 3) := by decide +kernel
theorem dX7_see_75 : decode cX7_see 75 = .ok (.return_, 1) := by decide +kernel
theorem dX7_see_76 : decode cX7_see 76 = .ok (.aload 4, 2) := by decide +kernel
theorem dX7_see_78 : decode cX7_see 78 = .ok (.bipush 9, 2) := by decide +kernel
theorem dX7_see_80 : decode cX7_see 80 = .ok (.aload 4, 2) := by decide +kernel
theorem dX7_see_82 : decode cX7_see 82 = .ok (.bipush 8, 2) := by decide +kernel
theorem dX7_see_84 : decode cX7_see 84 = .ok (.iaload, 1) := by decide +kernel
theorem dX7_see_85 : decode cX7_see 85 = .ok (.iastore, 1) := by decide +kernel
theorem dX7_see_86 : decode cX7_see 86 = .ok (.aload 4, 2) := by decide +kernel
theorem dX7_see_88 : decode cX7_see 88 = .ok (.bipush 8, 2) := by decide +kernel
theorem dX7_see_90 : decode cX7_see 90 = .ok (.aload 4, 2) := by decide +kernel
theorem dX7_see_92 : decode cX7_see 92 = .ok (.iconst 3, 1) := by decide +kernel
theorem dX7_see_93 : decode cX7_see 93 = .ok (.iaload, 1) := by decide +kernel
theorem dX7_see_94 : decode cX7_see 94 = .ok (.iastore, 1) := by decide +kernel
theorem dX7_see_95 : decode cX7_see 95 = .ok (.aload 4, 2) := by decide +kernel
theorem dX7_see_97 : decode cX7_see 97 = .ok (.iconst 4, 1) := by decide +kernel
theorem dX7_see_98 : decode cX7_see 98 = .ok (.iload 5, 2) := by decide +kernel
theorem dX7_see_100 : decode cX7_see 100 = .ok (.ifCond .eq 12, 3) := by decide +kernel
theorem dX7_see_103 : decode cX7_see 103 = .ok (.aload 4, 2) := by decide +kernel
theorem dX7_see_105 : decode cX7_see 105 = .ok (.iconst 4, 1) := by decide +kernel
theorem dX7_see_106 : decode cX7_see 106 = .ok (.iaload, 1) := by decide +kernel
theorem dX7_see_107 : decode cX7_see 107 = .ok (.iconst 1, 1) := by decide +kernel
theorem dX7_see_108 : decode cX7_see 108 = .ok (.iadd, 1) := by decide +kernel
theorem dX7_see_109 : decode cX7_see 109 = .ok (.goto 4, 3) := by decide +kernel
theorem dX7_see_112 : decode cX7_see 112 = .ok (.iconst 1, 1) := by decide +kernel
theorem dX7_see_113 : decode cX7_see 113 = .ok (.iastore, 1) := by decide +kernel
theorem dX7_see_114 : decode cX7_see 114 = .ok (.aload 4, 2) := by decide +kernel
theorem dX7_see_116 : decode cX7_see 116 = .ok (.iconst 0, 1) := by decide +kernel
theorem dX7_see_117 : decode cX7_see 117 = .ok (.aload_n 0, 1) := by decide +kernel
theorem dX7_see_118 : decode cX7_see 118 = .ok (.iload_n 1, 1) := by decide +kernel
theorem dX7_see_119 : decode cX7_see 119 = .ok (.iload_n 2, 1) := by decide +kernel
theorem dX7_see_120 : decode cX7_see 120 = .ok (.invokevirtual 170, 3) := by decide +kernel
theorem dX7_see_123 : decode cX7_see 123 = .ok (.iastore, 1) := by decide +kernel
theorem dX7_see_124 : decode cX7_see 124 = .ok (.aload 4, 2) := by decide +kernel
theorem dX7_see_126 : decode cX7_see 126 = .ok (.iconst 1, 1) := by decide +kernel
theorem dX7_see_127 : decode cX7_see 127 = .ok (.aload_n 0, 1) := by decide +kernel
theorem dX7_see_128 : decode cX7_see 128 = .ok (.iload_n 1, 1) := by decide +kernel
theorem dX7_see_129 : decode cX7_see 129 = .ok (.iload_n 2, 1) := by decide +kernel
theorem dX7_see_130 : decode cX7_see 130 = .ok (.invokevirtual 134, 3) := by decide +kernel
theorem dX7_see_133 : decode cX7_see 133 = .ok (.bipush 10, 2) := by decide +kernel
theorem dX7_see_135 : decode cX7_see 135 = .ok (.invokestatic 54, 3) := by decide +kernel
theorem dX7_see_138 : decode cX7_see 138 = .ok (.iastore, 1) := by decide +kernel
theorem dX7_see_139 : decode cX7_see 139 = .ok (.aload 4, 2) := by decide +kernel
theorem dX7_see_141 : decode cX7_see 141 = .ok (.iconst 2, 1) := by decide +kernel
theorem dX7_see_142 : decode cX7_see 142 = .ok (.aload 4, 2) := by decide +kernel
theorem dX7_see_144 : decode cX7_see 144 = .ok (.iconst 0, 1) := by decide +kernel
theorem dX7_see_145 : decode cX7_see 145 = .ok (.iaload, 1) := by decide +kernel
theorem dX7_see_146 : decode cX7_see 146 = .ok (.aload 4, 2) := by decide +kernel
theorem dX7_see_148 : decode cX7_see 148 = .ok (.iconst 1, 1) := by decide +kernel
theorem dX7_see_149 : decode cX7_see 149 = .ok (.iaload, 1) := by decide +kernel
theorem dX7_see_150 : decode cX7_see 150 = .ok (.isub, 1) := by decide +kernel
theorem dX7_see_151 : decode cX7_see 151 = .ok (.iconst 5, 1) := by decide +kernel
theorem dX7_see_152 : decode cX7_see 152 = .ok (.iadd, 1) := by decide +kernel
theorem dX7_see_153 : decode cX7_see 153 = .ok (.bipush 10, 2) := by decide +kernel
theorem dX7_see_155 : decode cX7_see 155 = .ok (.invokestatic 137, 3) := by decide +kernel
theorem dX7_see_158 : decode cX7_see 158 = .ok (.iastore, 1) := by decide +kernel
theorem dX7_see_159 : decode cX7_see 159 = .ok (.aload 4, 2) := by decide +kernel
theorem dX7_see_161 : decode cX7_see 161 = .ok (.iconst 3, 1) := by decide +kernel
theorem dX7_see_162 : decode cX7_see 162 = .ok (.aload 4, 2) := by decide +kernel
theorem dX7_see_164 : decode cX7_see 164 = .ok (.iconst 0, 1) := by decide +kernel
theorem dX7_see_165 : decode cX7_see 165 = .ok (.iaload, 1) := by decide +kernel
theorem dX7_see_166 : decode cX7_see 166 = .ok (.aload 4, 2) := by decide +kernel
theorem dX7_see_168 : decode cX7_see 168 = .ok (.iconst 1, 1) := by decide +kernel
theorem dX7_see_169 : decode cX7_see 169 = .ok (.iaload, 1) := by decide +kernel
theorem dX7_see_170 : decode cX7_see 170 = .ok (.isub, 1) := by decide +kernel
theorem dX7_see_171 : decode cX7_see 171 = .ok (.bipush 10, 2) := by decide +kernel
theorem dX7_see_173 : decode cX7_see 173 = .ok (.aload 4, 2) := by decide +kernel
theorem dX7_see_175 : decode cX7_see 175 = .ok (.iconst 2, 1) := by decide +kernel
theorem dX7_see_176 : decode cX7_see 176 = .ok (.iaload, 1) := by decide +kernel
theorem dX7_see_177 : decode cX7_see 177 = .ok (.imul, 1) := by decide +kernel
theorem dX7_see_178 : decode cX7_see 178 = .ok (.isub, 1) := by decide +kernel
theorem dX7_see_179 : decode cX7_see 179 = .ok (.iastore, 1) := by decide +kernel
theorem dX7_see_180 : decode cX7_see 180 = .ok (.aload 4, 2) := by decide +kernel
theorem dX7_see_182 : decode cX7_see 182 = .ok (.iconst 5, 1) := by decide +kernel
theorem dX7_see_183 : decode cX7_see 183 = .ok (.aload 4, 2) := by decide +kernel
theorem dX7_see_185 : decode cX7_see 185 = .ok (.iconst 4, 1) := by decide +kernel
theorem dX7_see_186 : decode cX7_see 186 = .ok (.iaload, 1) := by decide +kernel
theorem dX7_see_187 : decode cX7_see 187 = .ok (.iconst 3, 1) := by decide +kernel
theorem dX7_see_188 : decode cX7_see 188 = .ok (.if_icmp .lt 48, 3) := by decide +kernel
theorem dX7_see_191 : decode cX7_see 191 = .ok (.aload 4, 2) := by decide +kernel
theorem dX7_see_193 : decode cX7_see 193 = .ok (.iconst 3, 1) := by decide +kernel
theorem dX7_see_194 : decode cX7_see 194 = .ok (.iaload, 1) := by decide +kernel
theorem dX7_see_195 : decode cX7_see 195 = .ok (.bipush (-2), 2) := by decide +kernel
theorem dX7_see_197 : decode cX7_see 197 = .ok (.iconst 2, 1) := by decide +kernel
theorem dX7_see_198 : decode cX7_see 198 = .ok (.invokestatic 86, 3) := by decide +kernel
theorem dX7_see_201 : decode cX7_see 201 = .ok (.ifCond .eq 35, 3) := by decide +kernel
theorem dX7_see_204 : decode cX7_see 204 = .ok (.aload 4, 2) := by decide +kernel
theorem dX7_see_206 : decode cX7_see 206 = .ok (.bipush 8, 2) := by decide +kernel
theorem dX7_see_208 : decode cX7_see 208 = .ok (.iaload, 1) := by decide +kernel
theorem dX7_see_209 : decode cX7_see 209 = .ok (.bipush (-2), 2) := by decide +kernel
theorem dX7_see_211 : decode cX7_see 211 = .ok (.iconst 2, 1) := by decide +kernel
theorem dX7_see_212 : decode cX7_see 212 = .ok (.invokestatic 86, 3) := by decide +kernel
theorem dX7_see_215 : decode cX7_see 215 = .ok (.ifCond .eq 21, 3) := by decide +kernel
theorem dX7_see_218 : decode cX7_see 218 = .ok (.aload 4, 2) := by decide +kernel
theorem dX7_see_220 : decode cX7_see 220 = .ok (.bipush 9, 2) := by decide +kernel
theorem dX7_see_222 : decode cX7_see 222 = .ok (.iaload, 1) := by decide +kernel
theorem dX7_see_223 : decode cX7_see 223 = .ok (.bipush (-2), 2) := by decide +kernel
theorem dX7_see_225 : decode cX7_see 225 = .ok (.iconst 2, 1) := by decide +kernel
theorem dX7_see_226 : decode cX7_see 226 = .ok (.invokestatic 86, 3) := by decide +kernel
theorem dX7_see_229 : decode cX7_see 229 = .ok (.ifCond .eq 7, 3) := by decide +kernel
theorem dX7_see_232 : decode cX7_see 232 = .ok (.iconst 1, 1) := by decide +kernel
theorem dX7_see_233 : decode cX7_see 233 = .ok (.goto 4, 3) := by decide +kernel
theorem dX7_see_236 : decode cX7_see 236 = .ok (.iconst 0, 1) := by decide +kernel
theorem dX7_see_237 : decode cX7_see 237 = .ok (.iastore, 1) := by decide +kernel
theorem dX7_see_238 : decode cX7_see 238 = .ok (.return_, 1) := by decide +kernel
theorem dX7_observe_0 : decode cX7_observe 0 = .ok (.aload_n 0, 1) := by decide +kernel
theorem dX7_observe_1 : decode cX7_observe 1 = .ok (.iconst 0, 1) := by decide +kernel
theorem dX7_observe_2 : decode cX7_observe 2 = .ok (.putfield 41, 3) := by decide +kernel
theorem dX7_observe_5 : decode cX7_observe 5 = .ok (.aload_n 0, 1) := by decide +kernel
theorem dX7_observe_6 : decode cX7_observe 6 = .ok (.iload_n 1, 1) := by decide +kernel
theorem dX7_observe_7 : decode cX7_observe 7 = .ok (.invokevirtual 115, 3) := by decide +kernel
theorem dX7_observe_10 : decode cX7_observe 10 = .ok (.ifCond .ne 9, 3) := by decide +kernel
theorem dX7_observe_13 : decode cX7_observe 13 = .ok (.aload_n 0, 1) := by decide +kernel
theorem dX7_observe_14 : decode cX7_observe 14 = .ok (.iconst 1, 1) := by decide +kernel
theorem dX7_observe_15 : decode cX7_observe 15 = .ok (.invokevirtual 95, 3) := by decide +kernel
theorem dX7_observe_18 : decode cX7_observe 18 = .ok (.ireturn, 1) := by decide +kernel
theorem dX7_observe_19 : decode cX7_observe 19 = .ok (.aload_n 0, 1) := by decide +kernel
theorem dX7_observe_20 : decode cX7_observe 20 = .ok (.getfield 20, 3) := by decide +kernel
theorem dX7_observe_23 : decode cX7_observe 23 = .ok (.iload_n 1, 1) := by decide +kernel
theorem dX7_observe_24 : decode cX7_observe 24 = .ok (.aaload, 1) := by decide +kernel
theorem dX7_observe_25 : decode cX7_observe 25 = .ok (.astore_n 2, 1) := by decide +kernel
theorem dX7_observe_26 : decode cX7_observe 26 = .ok (.aload_n 2, 1) := by decide +kernel
theorem dX7_observe_27 : decode cX7_observe 27 = .ok (.bipush 10, 2) := by decide +kernel
theorem dX7_observe_29 : decode cX7_observe 29 = .ok (.iaload, 1) := by decide +kernel
theorem dX7_observe_30 : decode cX7_observe 30 = .ok (.aload_n 0, 1) := by decide +kernel
theorem dX7_observe_31 : decode cX7_observe 31 = .ok (.getfield 64, 3) := by decide +kernel
theorem dX7_observe_34 : decode cX7_observe 34 = .ok (.if_icmp .ne 9, 3) := by decide +kernel
theorem dX7_observe_37 : decode cX7_observe 37 = .ok (.aload_n 0, 1) := by decide +kernel
theorem dX7_observe_38 : decode cX7_observe 38 = .ok (.iconst 2, 1) := by decide +kernel
theorem dX7_observe_39 : decode cX7_observe 39 = .ok (.invokevirtual 95, 3) := by decide +kernel
theorem dX7_observe_42 : decode cX7_observe 42 = .ok (.ireturn, 1) := by decide +kernel
theorem dX7_observe_43 : decode cX7_observe 43 = .ok (.aload_n 2, 1) := by decide +kernel
theorem dX7_observe_44 : decode cX7_observe 44 = .ok (.bipush 10, 2) := by decide +kernel
theorem dX7_observe_46 : decode cX7_observe 46 = .ok (.iaload, 1) := by decide +kernel
theorem dX7_observe_47 : decode cX7_observe 47 = .ok (.iconst (-1), 1) := by decide +kernel
theorem dX7_observe_48 : decode cX7_observe 48 = .ok (.if_icmp .eq 20, 3) := by decide +kernel
theorem dX7_observe_51 : decode cX7_observe 51 = .ok (.aload_n 2, 1) := by decide +kernel
theorem dX7_observe_52 : decode cX7_observe 52 = .ok (.bipush 10, 2) := by decide +kernel
theorem dX7_observe_54 : decode cX7_observe 54 = .ok (.iaload, 1) := by decide +kernel
theorem dX7_observe_55 : decode cX7_observe 55 = .ok (.aload_n 0, 1) := by decide +kernel
theorem dX7_observe_56 : decode cX7_observe 56 = .ok (.getfield 64, 3) := by decide +kernel
theorem dX7_observe_59 : decode cX7_observe 59 = .ok (.iconst 1, 1) := by decide +kernel
theorem dX7_observe_60 : decode cX7_observe 60 = .ok (.isub, 1) := by decide +kernel
theorem dX7_observe_61 : decode cX7_observe 61 = .ok (.if_icmp .ne 7, 3) := by decide +kernel
theorem dX7_observe_64 : decode cX7_observe 64 = .ok (.iconst 1, 1) := by decide +kernel
theorem dX7_observe_65 : decode cX7_observe 65 = .ok (.goto 4, 3) := by decide +kernel
theorem dX7_observe_68 : decode cX7_observe 68 = .ok (.iconst 0, 1) := by decide +kernel
theorem dX7_observe_69 : decode cX7_observe 69 = .ok (.istore_n 3, 1) := by decide +kernel
theorem dX7_observe_70 : decode cX7_observe 70 = .ok (.iload_n 3, 1) := by decide +kernel
theorem dX7_observe_71 : decode cX7_observe 71 = .ok (.ifCond .eq 15, 3) := by decide +kernel
theorem dX7_observe_74 : decode cX7_observe 74 = .ok (.aload_n 2, 1) := by decide +kernel
theorem dX7_observe_75 : decode cX7_observe 75 = .ok (.bipush 11, 2) := by decide +kernel
theorem dX7_observe_77 : decode cX7_observe 77 = .ok (.iaload, 1) := by decide +kernel
theorem dX7_observe_78 : decode cX7_observe 78 = .ok (.iconst 3, 1) := by decide +kernel
theorem dX7_observe_79 : decode cX7_observe 79 = .ok (.if_icmp .lt 7, 3) := by decide +kernel
theorem dX7_observe_82 : decode cX7_observe 82 = .ok (.iconst 1, 1) := by decide +kernel
theorem dX7_observe_83 : decode cX7_observe 83 = .ok (.goto 4, 3) := by decide +kernel
theorem dX7_observe_86 : decode cX7_observe 86 = .ok (.iconst 0, 1) := by decide +kernel
theorem dX7_observe_87 : decode cX7_observe 87 = .ok (.istore 4, 2) := by decide +kernel
theorem dX7_observe_89 : decode cX7_observe 89 = .ok (.aload_n 2, 1) := by decide +kernel
theorem dX7_observe_90 : decode cX7_observe 90 = .ok (.bipush 12, 2) := by decide +kernel
theorem dX7_observe_92 : decode cX7_observe 92 = .ok (.iaload, 1) := by decide +kernel
theorem dX7_observe_93 : decode cX7_observe 93 = .ok (.istore 5, 2) := by decide +kernel
theorem dX7_observe_95 : decode cX7_observe 95 = .ok (.aload_n 2, 1) := by decide +kernel
theorem dX7_observe_96 : decode cX7_observe 96 = .ok (.bipush 13, 2) := by decide +kernel
theorem dX7_observe_98 : decode cX7_observe 98 = .ok (.iaload, 1) := by decide +kernel
theorem dX7_observe_99 : decode cX7_observe 99 = .ok (.istore 6, 2) := by decide +kernel
theorem dX7_observe_101 : decode cX7_observe 101 = .ok (.iconst 0, 1) := by decide +kernel
theorem dX7_observe_102 : decode cX7_observe 102 = .ok (.istore 7, 2) := by decide +kernel
theorem dX7_observe_104 : decode cX7_observe 104 = .ok (.iload 7, 2) := by decide +kernel
theorem dX7_observe_106 : decode cX7_observe 106 = .ok (.aload_n 0, 1) := by decide +kernel
theorem dX7_observe_107 : decode cX7_observe 107 = .ok (.getfield 79, 3) := by decide +kernel
theorem dX7_observe_110 : decode cX7_observe 110 = .ok (.if_icmp .ge 17, 3) := by decide +kernel
theorem dX7_observe_113 : decode cX7_observe 113 = .ok (.aload_n 0, 1) := by decide +kernel
theorem dX7_observe_114 : decode cX7_observe 114 = .ok (.iload_n 1, 1) := by decide +kernel
theorem dX7_observe_115 : decode cX7_observe 115 = .ok (.iload 7, 2) := by decide +kernel
theorem dX7_observe_117 : decode cX7_observe 117 = .ok (.iload_n 3, 1) := by decide +kernel
theorem dX7_observe_118 : decode cX7_observe 118 = .ok (.invokevirtual 184, 3) := by decide +kernel
theorem dX7_observe_121 : decode cX7_observe 121 = .ok (.iinc 7 1, 3) := by decide +kernel
theorem dX7_observe_124 : decode cX7_observe 124 = .ok (.goto (-20), 3) := by decide +kernel
theorem dX7_observe_127 : decode cX7_observe 127 = .ok (.aload_n 0, 1) := by decide +kernel
theorem dX7_observe_128 : decode cX7_observe 128 = .ok (.iload_n 1, 1) := by decide +kernel
theorem dX7_observe_129 : decode cX7_observe 129 = .ok (.iconst 1, 1) := by decide +kernel
theorem dX7_observe_130 : decode cX7_observe 130 = .ok (.iconst (-1), 1) := by decide +kernel
theorem dX7_observe_131 : decode cX7_observe 131 = .ok (.invokevirtual 188, 3) := by decide +kernel
theorem dX7_observe_134 : decode cX7_observe 134 = .ok (.istore 7, 2) := by decide +kernel
theorem dX7_observe_136 : decode cX7_observe 136 = .ok (.iconst 0, 1) := by decide +kernel
theorem dX7_observe_137 : decode cX7_observe 137 = .ok (.istore 8, 2) := by decide +kernel
theorem dX7_observe_139 : decode cX7_observe 139 = .ok (.iload 8, 2) := by decide +kernel
theorem dX7_observe_141 : decode cX7_observe 141 = .ok (.aload_n 0, 1) := by decide +kernel
theorem dX7_observe_142 : decode cX7_observe 142 = .ok (.getfield 79, 3) := by decide +kernel
theorem dX7_observe_145 : decode cX7_observe 145 = .ok (.if_icmp .ge 93, 3) := by decide +kernel
theorem dX7_observe_148 : decode cX7_observe 148 = .ok (.aload_n 0, 1) := by decide +kernel
theorem dX7_observe_149 : decode cX7_observe 149 = .ok (.getfield 38, 3) := by decide +kernel
theorem dX7_observe_152 : decode cX7_observe 152 = .ok (.iload 8, 2) := by decide +kernel
theorem dX7_observe_154 : decode cX7_observe 154 = .ok (.iaload, 1) := by decide +kernel
theorem dX7_observe_155 : decode cX7_observe 155 = .ok (.ifCond .ne 6, 3) := by decide +kernel
theorem dX7_observe_158 : decode cX7_observe 158 = .ok (.goto 74, 3) := by decide +kernel
theorem dX7_observe_161 : decode cX7_observe 161 = .ok (.aload_n 0, 1) := by decide +kernel
theorem dX7_observe_162 : decode cX7_observe 162 = .ok (.getfield 25, 3) := by decide +kernel
theorem dX7_observe_165 : decode cX7_observe 165 = .ok (.iload_n 1, 1) := by decide +kernel
theorem dX7_observe_166 : decode cX7_observe 166 = .ok (.aaload, 1) := by decide +kernel
theorem dX7_observe_167 : decode cX7_observe 167 = .ok (.iload 8, 2) := by decide +kernel
theorem dX7_observe_169 : decode cX7_observe 169 = .ok (.aaload, 1) := by decide +kernel
theorem dX7_observe_170 : decode cX7_observe 170 = .ok (.astore 9, 2) := by decide +kernel
theorem dX7_observe_172 : decode cX7_observe 172 = .ok (.aload 9, 2) := by decide +kernel
theorem dX7_observe_174 : decode cX7_observe 174 = .ok (.bipush 6, 2) := by decide +kernel
theorem dX7_observe_176 : decode cX7_observe 176 = .ok (.iconst 1, 1) := by decide +kernel
theorem dX7_observe_177 : decode cX7_observe 177 = .ok (.iastore, 1) := by decide +kernel
theorem dX7_observe_178 : decode cX7_observe 178 = .ok (.aload 9, 2) := by decide +kernel
theorem dX7_observe_180 : decode cX7_observe 180 = .ok (.bipush 7, 2) := by decide +kernel
theorem dX7_observe_182 : decode cX7_observe 182 = .ok (.aload_n 0, 1) := by decide +kernel
theorem dX7_observe_183 : decode cX7_observe 183 = .ok (.iload_n 1, 1) := by decide +kernel
theorem dX7_observe_184 : decode cX7_observe 184 = .ok (.iload 8, 2) := by decide +kernel
theorem dX7_observe_186 : decode cX7_observe 186 = .ok (.invokevirtual 176, 3) := by decide +kernel
theorem dX7_observe_189 : decode cX7_observe 189 = .ok (.iastore, 1) := by decide +kernel
theorem dX7_observe_190 : decode cX7_observe 190 = .ok (.aload 9, 2) := by decide +kernel
theorem dX7_observe_192 : decode cX7_observe 192 = .ok (.bipush 10, 2) := by decide +kernel
theorem dX7_observe_194 : decode cX7_observe 194 = .ok (.aload_n 0, 1) := by decide +kernel
theorem dX7_observe_195 : decode cX7_observe 195 = .ok (.getfield 35, 3) := by decide +kernel
theorem dX7_observe_198 : decode cX7_observe 198 = .ok (.iload 8, 2) := by decide +kernel
theorem dX7_observe_200 : decode cX7_observe 200 = .ok (.iaload, 1) := by decide +kernel
theorem dX7_observe_201 : decode cX7_observe 201 = .ok (.aload 9, 2) := by decide +kernel
theorem dX7_observe_203 : decode cX7_observe 203 = .ok (.bipush 7, 2) := by decide +kernel
theorem dX7_observe_205 : decode cX7_observe 205 = .ok (.iaload, 1) := by decide +kernel
theorem dX7_observe_206 : decode cX7_observe 206 = .ok (.iadd, 1) := by decide +kernel
theorem dX7_observe_207 : decode cX7_observe 207 = .ok (.aload_n 2, 1) := by decide +kernel
theorem dX7_observe_208 : decode cX7_observe 208 = .ok (.iconst 0, 1) := by decide +kernel
theorem dX7_observe_209 : decode cX7_observe 209 = .ok (.iaload, 1) := by decide +kernel
theorem dX7_observe_210 : decode cX7_observe 210 = .ok (.aload_n 2, 1) := by decide +kernel
theorem dX7_observe_211 : decode cX7_observe 211 = .ok (.iconst 1, 1) := by decide +kernel
theorem dX7_observe_212 : decode cX7_observe 212 = .ok (.iaload, 1) := by decide +kernel
theorem dX7_observe_213 : decode cX7_observe 213 = .ok (.aload_n 0, 1) := by decide +kernel
theorem dX7_observe_214 : decode cX7_observe 214 = .ok (.getfield 28, 3) := by decide +kernel
theorem dX7_observe_217 : decode cX7_observe 217 = .ok (.iload 8, 2) := by decide +kernel
theorem dX7_observe_219 : decode cX7_observe 219 = .ok (.iaload, 1) := by decide +kernel
theorem dX7_observe_220 : decode cX7_observe 220 = .ok (.aload_n 0, 1) := by decide +kernel
theorem dX7_observe_221 : decode cX7_observe 221 = .ok (.getfield 32, 3) := by decide +kernel
theorem dX7_observe_224 : decode cX7_observe 224 = .ok (.iload 8, 2) := by decide +kernel
theorem dX7_observe_226 : decode cX7_observe 226 = .ok (.iaload, 1) := by decide +kernel
theorem dX7_observe_227 : decode cX7_observe 227 = .ok (.invokestatic 118, 3) := by decide +kernel
theorem dX7_observe_230 : decode cX7_observe 230 = .ok (.isub, 1) := by decide +kernel
theorem dX7_observe_231 : decode cX7_observe 231 = .ok (.iastore, 1) := by decide +kernel
theorem dX7_observe_232 : decode cX7_observe 232 = .ok (.iinc 8 1, 3) := by decide +kernel
theorem dX7_observe_235 : decode cX7_observe 235 = .ok (.goto (-96), 3) := by decide +kernel
theorem dX7_observe_238 : decode cX7_observe 238 = .ok (.aload_n 2, 1) := by decide +kernel
theorem dX7_observe_239 : decode cX7_observe 239 = .ok (.bipush 10, 2) := by decide +kernel
theorem dX7_observe_241 : decode cX7_observe 241 = .ok (.aload_n 0, 1) := by decide +kernel
theorem dX7_observe_242 : decode cX7_observe 242 = .ok (.getfield 64, 3) := by decide +kernel
theorem dX7_observe_245 : decode cX7_observe 245 = .ok (.iastore, 1) := by decide +kernel
theorem dX7_observe_246 : decode cX7_observe 246 = .ok (.aload_n 2, 1) := by decide +kernel
theorem dX7_observe_247 : decode cX7_observe 247 = .ok (.bipush 11, 2) := by decide +kernel
theorem dX7_observe_249 : decode cX7_observe 249 = .ok (.iload 7, 2) := by decide +kernel
theorem dX7_observe_251 : decode cX7_observe 251 = .ok (.iastore, 1) := by decide +kernel
theorem dX7_observe_252 : decode cX7_observe 252 = .ok (.aload_n 0, 1) := by decide +kernel
theorem dX7_observe_253 : decode cX7_observe 253 = .ok (.dup, 1) := by decide +kernel
theorem dX7_observe_254 : decode cX7_observe 254 = .ok (.getfield 192, 3) := by decide +kernel
theorem dX7_observe_257 : decode cX7_observe 257 = .ok (.iconst 1, 1) := by decide +kernel
theorem dX7_observe_258 : decode cX7_observe 258 = .ok (.iadd, 1) := by decide +kernel
theorem dX7_observe_259 : decode cX7_observe 259 = .ok (.putfield 192, 3) := by decide +kernel
theorem dX7_observe_262 : decode cX7_observe 262 = .ok (.aload_n 2, 1) := by decide +kernel
theorem dX7_observe_263 : decode cX7_observe 263 = .ok (.bipush 16, 2) := by decide +kernel
theorem dX7_observe_265 : decode cX7_observe 265 = .ok (.bipush 99, 2) := by decide +kernel
theorem dX7_observe_267 : decode cX7_observe 267 = .ok (.iastore, 1) := by decide +kernel
theorem dX7_observe_268 : decode cX7_observe 268 = .ok (.aload_n 2, 1) := by decide +kernel
theorem dX7_observe_269 : decode cX7_observe 269 = .ok (.bipush 17, 2) := by decide +kernel
theorem dX7_observe_271 : decode cX7_observe 271 = .ok (.iconst 1, 1) := by decide +kernel
theorem dX7_observe_272 : decode cX7_observe 272 = .ok (.iastore, 1) := by decide +kernel
theorem dX7_observe_273 : decode cX7_observe 273 = .ok (.iload 7, 2) := by decide +kernel
theorem dX7_observe_275 : decode cX7_observe 275 = .ok (.iconst 3, 1) := by decide +kernel
theorem dX7_observe_276 : decode cX7_observe 276 = .ok (.if_icmp .lt 30, 3) := by decide +kernel
theorem dX7_observe_279 : decode cX7_observe 279 = .ok (.aload_n 0, 1) := by decide +kernel
theorem dX7_observe_280 : decode cX7_observe 280 = .ok (.iload_n 1, 1) := by decide +kernel
theorem dX7_observe_281 : decode cX7_observe 281 = .ok (.iload 7, 2) := by decide +kernel
theorem dX7_observe_283 : decode cX7_observe 283 = .ok (.iload 4, 2) := by decide +kernel
theorem dX7_observe_285 : decode cX7_observe 285 = .ok (.ifCond .eq 13, 3) := by decide +kernel
theorem dX7_observe_288 : decode cX7_observe 288 = .ok (.iload 7, 2) := by decide +kernel
theorem dX7_observe_290 : decode cX7_observe 290 = .ok (.iconst 4, 1) := by decide +kernel
theorem dX7_observe_291 : decode cX7_observe 291 = .ok (.if_icmp .lt 7, 3) := by decide +kernel
theorem dX7_observe_294 : decode cX7_observe 294 = .ok (.iconst 1, 1) := by decide +kernel
theorem dX7_observe_295 : decode cX7_observe 295 = .ok (.goto 4, 3) := by decide +kernel
theorem dX7_observe_298 : decode cX7_observe 298 = .ok (.iconst 0, 1) := by decide +kernel
theorem dX7_observe_299 : decode cX7_observe 299 = .ok (.iload 5, 2) := by decide +kernel
theorem dX7_observe_301 : decode cX7_observe 301 = .ok (.iload 6, 2) := by decide +kernel
theorem dX7_observe_303 : decode cX7_observe 303 = .ok (.invokevirtual 195, 3) := by decide +kernel
theorem dX7_observe_306 : decode cX7_observe 306 = .ok (.aload_n 2, 1) := by decide +kernel
theorem dX7_observe_307 : decode cX7_observe 307 = .ok (.bipush 17, 2) := by decide +kernel
theorem dX7_observe_309 : decode cX7_observe 309 = .ok (.iaload, 1) := by decide +kernel
theorem dX7_observe_310 : decode cX7_observe 310 = .ok (.ifCond .le 11, 3) := by decide +kernel
theorem dX7_observe_313 : decode cX7_observe 313 = .ok (.aload_n 2, 1) := by decide +kernel
theorem dX7_observe_314 : decode cX7_observe 314 = .ok (.bipush 19, 2) := by decide +kernel
theorem dX7_observe_316 : decode cX7_observe 316 = .ok (.aload_n 0, 1) := by decide +kernel
theorem dX7_observe_317 : decode cX7_observe 317 = .ok (.getfield 64, 3) := by decide +kernel
theorem dX7_observe_320 : decode cX7_observe 320 = .ok (.iastore, 1) := by decide +kernel
theorem dX7_observe_321 : decode cX7_observe 321 = .ok (.aload_n 2, 1) := by decide +kernel
theorem dX7_observe_322 : decode cX7_observe 322 = .ok (.bipush 17, 2) := by decide +kernel
theorem dX7_observe_324 : decode cX7_observe 324 = .ok (.iaload, 1) := by decide +kernel
theorem dX7_observe_325 : decode cX7_observe 325 = .ok (.ireturn, 1) := by decide +kernel
theorem dX7_place_0 : decode cX7_place 0 = .ok (.aload_n 0, 1) := by decide +kernel
theorem dX7_place_1 : decode cX7_place 1 = .ok (.getfield 20, 3) := by decide +kernel
theorem dX7_place_4 : decode cX7_place 4 = .ok (.iload_n 1, 1) := by decide +kernel
theorem dX7_place_5 : decode cX7_place 5 = .ok (.aaload, 1) := by decide +kernel
theorem dX7_place_6 : decode cX7_place 6 = .ok (.astore 6, 2) := by decide +kernel
theorem dX7_place_8 : decode cX7_place 8 = .ok (.aload_n 0, 1) := by decide +kernel
theorem dX7_place_9 : decode cX7_place 9 = .ok (.invokevirtual 179, 3) := by decide +kernel
theorem dX7_place_12 : decode cX7_place 12 = .ok (.aload 6, 2) := by decide +kernel
theorem dX7_place_14 : decode cX7_place 14 = .ok (.bipush 12, 2) := by decide +kernel
theorem dX7_place_16 : decode cX7_place 16 = .ok (.aload_n 0, 1) := by decide +kernel
theorem dX7_place_17 : decode cX7_place 17 = .ok (.getfield 155, 3) := by decide +kernel
theorem dX7_place_20 : decode cX7_place 20 = .ok (.iastore, 1) := by decide +kernel
theorem dX7_place_21 : decode cX7_place 21 = .ok (.aload 6, 2) := by decide +kernel
theorem dX7_place_23 : decode cX7_place 23 = .ok (.bipush 13, 2) := by decide +kernel
theorem dX7_place_25 : decode cX7_place 25 = .ok (.aload_n 0, 1) := by decide +kernel
theorem dX7_place_26 : decode cX7_place 26 = .ok (.getfield 158, 3) := by decide +kernel
theorem dX7_place_29 : decode cX7_place 29 = .ok (.iastore, 1) := by decide +kernel
theorem dX7_place_30 : decode cX7_place 30 = .ok (.aload 6, 2) := by decide +kernel
theorem dX7_place_32 : decode cX7_place 32 = .ok (.bipush 14, 2) := by decide +kernel
theorem dX7_place_34 : decode cX7_place 34 = .ok (.aload_n 0, 1) := by decide +kernel
theorem dX7_place_35 : decode cX7_place 35 = .ok (.getfield 161, 3) := by decide +kernel
theorem dX7_place_38 : decode cX7_place 38 = .ok (.iastore, 1) := by decide +kernel
theorem dX7_place_39 : decode cX7_place 39 = .ok (.aload 6, 2) := by decide +kernel
theorem dX7_place_41 : decode cX7_place 41 = .ok (.bipush 15, 2) := by decide +kernel
theorem dX7_place_43 : decode cX7_place 43 = .ok (.aload_n 0, 1) := by decide +kernel
theorem dX7_place_44 : decode cX7_place 44 = .ok (.getfield 144, 3) := by decide +kernel
theorem dX7_place_47 : decode cX7_place 47 = .ok (.l2i, 1) := by decide +kernel
theorem dX7_place_48 : decode cX7_place 48 = .ok (.iastore, 1) := by decide +kernel
theorem dX7_place_49 : decode cX7_place 49 = .ok (.aload 6, 2) := by decide +kernel
theorem dX7_place_51 : decode cX7_place 51 = .ok (.bipush 16, 2) := by decide +kernel
theorem dX7_place_53 : decode cX7_place 53 = .ok (.aload_n 0, 1) := by decide +kernel
theorem dX7_place_54 : decode cX7_place 54 = .ok (.iload_n 2, 1) := by decide +kernel
theorem dX7_place_55 : decode cX7_place 55 = .ok (.invokevirtual 199, 3) := by decide +kernel
theorem dX7_place_58 : decode cX7_place 58 = .ok (.iastore, 1) := by decide +kernel
theorem dX7_place_59 : decode cX7_place 59 = .ok (.aload 6, 2) := by decide +kernel
theorem dX7_place_61 : decode cX7_place 61 = .ok (.bipush 17, 2) := by decide +kernel
theorem dX7_place_63 : decode cX7_place 63 = .ok (.aload_n 0, 1) := by decide +kernel
theorem dX7_place_64 : decode cX7_place 64 = .ok (.iload_n 1, 1) := by decide +kernel
theorem dX7_place_65 : decode cX7_place 65 = .ok (.iload_n 2, 1) := by decide +kernel
theorem dX7_place_66 : decode cX7_place 66 = .ok (.aload 6, 2) := by decide +kernel
theorem dX7_place_68 : decode cX7_place 68 = .ok (.bipush 16, 2) := by decide +kernel
theorem dX7_place_70 : decode cX7_place 70 = .ok (.iaload, 1) := by decide +kernel
theorem dX7_place_71 : decode cX7_place 71 = .ok (.invokevirtual 202, 3) := by decide +kernel
theorem dX7_place_74 : decode cX7_place 74 = .ok (.iastore, 1) := by decide +kernel
theorem dX7_place_75 : decode cX7_place 75 = .ok (.aload 6, 2) := by decide +kernel
theorem dX7_place_77 : decode cX7_place 77 = .ok (.bipush 17, 2) := by decide +kernel
theorem dX7_place_79 : decode cX7_place 79 = .ok (.iaload, 1) := by decide +kernel
theorem dX7_place_80 : decode cX7_place 80 = .ok (.ifCond .ne 32, 3) := by decide +kernel
theorem dX7_place_83 : decode cX7_place 83 = .ok (.iload_n 3, 1) := by decide +kernel
theorem dX7_place_84 : decode cX7_place 84 = .ok (.ifCond .eq 28, 3) := by decide +kernel
theorem dX7_place_87 : decode cX7_place 87 = .ok (.iload 4, 2) := by decide +kernel
theorem dX7_place_89 : decode cX7_place 89 = .ok (.iload 5, 2) := by decide +kernel
theorem dX7_place_91 : decode cX7_place 91 = .ok (.aload_n 0, 1) := by decide +kernel
theorem dX7_place_92 : decode cX7_place 92 = .ok (.getfield 155, 3) := by decide +kernel
theorem dX7_place_95 : decode cX7_place 95 = .ok (.aload_n 0, 1) := by decide +kernel
theorem dX7_place_96 : decode cX7_place 96 = .ok (.getfield 158, 3) := by decide +kernel
theorem dX7_place_99 : decode cX7_place 99 = .ok (.invokestatic 118, 3) := by decide +kernel
theorem dX7_place_102 : decode cX7_place 102 = .ok (.iconst 4, 1) := by decide +kernel
theorem dX7_place_103 : decode cX7_place 103 = .ok (.if_icmp .le 9, 3) := by decide +kernel
theorem dX7_place_106 : decode cX7_place 106 = .ok (.aload 6, 2) := by decide +kernel
theorem dX7_place_108 : decode cX7_place 108 = .ok (.bipush 17, 2) := by decide +kernel
theorem dX7_place_110 : decode cX7_place 110 = .ok (.iconst 4, 1) := by decide +kernel
theorem dX7_place_111 : decode cX7_place 111 = .ok (.iastore, 1) := by decide +kernel
theorem dX7_place_112 : decode cX7_place 112 = .ok (.aload 6, 2) := by decide +kernel
theorem dX7_place_114 : decode cX7_place 114 = .ok (.iconst 0, 1) := by decide +kernel
theorem dX7_place_115 : decode cX7_place 115 = .ok (.iaload, 1) := by decide +kernel
theorem dX7_place_116 : decode cX7_place 116 = .ok (.aload 6, 2) := by decide +kernel
theorem dX7_place_118 : decode cX7_place 118 = .ok (.iconst 1, 1) := by decide +kernel
theorem dX7_place_119 : decode cX7_place 119 = .ok (.iaload, 1) := by decide +kernel
theorem dX7_place_120 : decode cX7_place 120 = .ok (.aload_n 0, 1) := by decide +kernel
theorem dX7_place_121 : decode cX7_place 121 = .ok (.getfield 155, 3) := by decide +kernel
theorem dX7_place_124 : decode cX7_place 124 = .ok (.aload_n 0, 1) := by decide +kernel
theorem dX7_place_125 : decode cX7_place 125 = .ok (.getfield 158, 3) := by decide +kernel
theorem dX7_place_128 : decode cX7_place 128 = .ok (.invokestatic 118, 3) := by decide +kernel
theorem dX7_place_131 : decode cX7_place 131 = .ok (.istore 7, 2) := by decide +kernel
theorem dX7_place_133 : decode cX7_place 133 = .ok (.aload 6, 2) := by decide +kernel
theorem dX7_place_135 : decode cX7_place 135 = .ok (.bipush 20, 2) := by decide +kernel
theorem dX7_place_137 : decode cX7_place 137 = .ok (.dup2, 1) := by decide +kernel
theorem dX7_place_138 : decode cX7_place 138 = .ok (.iaload, 1) := by decide +kernel
theorem dX7_place_139 : decode cX7_place 139 = .ok (.iconst 1, 1) := by decide +kernel
theorem dX7_place_140 : decode cX7_place 140 = .ok (.iadd, 1) := by decide +kernel
theorem dX7_place_141 : decode cX7_place 141 = .ok (.iastore, 1) := by decide +kernel
theorem dX7_place_142 : decode cX7_place 142 = .ok (.aload 6, 2) := by decide +kernel
theorem dX7_place_144 : decode cX7_place 144 = .ok (.bipush 21, 2) := by decide +kernel
theorem dX7_place_146 : decode cX7_place 146 = .ok (.dup2, 1) := by decide +kernel
theorem dX7_place_147 : decode cX7_place 147 = .ok (.iaload, 1) := by decide +kernel
theorem dX7_place_148 : decode cX7_place 148 = .ok (.iload 7, 2) := by decide +kernel
theorem dX7_place_150 : decode cX7_place 150 = .ok (.iadd, 1) := by decide +kernel
theorem dX7_place_151 : decode cX7_place 151 = .ok (.iastore, 1) := by decide +kernel
theorem dX7_place_152 : decode cX7_place 152 = .ok (.aload 6, 2) := by decide +kernel
theorem dX7_place_154 : decode cX7_place 154 = .ok (.bipush 17, 2) := by decide +kernel
theorem dX7_place_156 : decode cX7_place 156 = .ok (.iaload, 1) := by decide +kernel
theorem dX7_place_157 : decode cX7_place 157 = .ok (.ifCond .ne 22, 3) := by decide +kernel
theorem dX7_place_160 : decode cX7_place 160 = .ok (.iload 7, 2) := by decide +kernel
theorem dX7_place_162 : decode cX7_place 162 = .ok (.aload 6, 2) := by decide +kernel
theorem dX7_place_164 : decode cX7_place 164 = .ok (.bipush 16, 2) := by decide +kernel
theorem dX7_place_166 : decode cX7_place 166 = .ok (.iaload, 1) := by decide +kernel
theorem dX7_place_167 : decode cX7_place 167 = .ok (.if_icmp .le 12, 3) := by decide +kernel
theorem dX7_place_170 : decode cX7_place 170 = .ok (.aload 6, 2) := by decide +kernel
theorem dX7_place_172 : decode cX7_place 172 = .ok (.bipush 18, 2) := by decide +kernel
theorem dX7_place_174 : decode cX7_place 174 = .ok (.dup2, 1) := by decide +kernel
theorem dX7_place_175 : decode cX7_place 175 = .ok (.iaload, 1) := by decide +kernel
theorem dX7_place_176 : decode cX7_place 176 = .ok (.iconst 1, 1) := by decide +kernel
theorem dX7_place_177 : decode cX7_place 177 = .ok (.iadd, 1) := by decide +kernel
theorem dX7_place_178 : decode cX7_place 178 = .ok (.iastore, 1) := by decide +kernel
theorem dX7_place_179 : decode cX7_place 179 = .ok (.return_, 1) := by decide +kernel
theorem dX7_ofStarNow_0 : decode cX7_ofStarNow 0 = .ok (.aload_n 0, 1) := by decide +kernel
theorem dX7_ofStarNow_1 : decode cX7_ofStarNow 1 = .ok (.getfield 11, 3) := by decide +kernel
theorem dX7_ofStarNow_4 : decode cX7_ofStarNow 4 = .ok (.iload_n 1, 1) := by decide +kernel
theorem dX7_ofStarNow_5 : decode cX7_ofStarNow 5 = .ok (.aaload, 1) := by decide +kernel
theorem dX7_ofStarNow_6 : decode cX7_ofStarNow 6 = .ok (.astore_n 3, 1) := by decide +kernel
theorem dX7_ofStarNow_7 : decode cX7_ofStarNow 7 = .ok (.iload_n 2, 1) := by decide +kernel
theorem dX7_ofStarNow_8 : decode cX7_ofStarNow 8 = .ok (.bipush 6, 2) := by decide +kernel
theorem dX7_ofStarNow_10 : decode cX7_ofStarNow 10 = .ok (.if_icmp .ge 9, 3) := by decide +kernel
theorem dX7_ofStarNow_13 : decode cX7_ofStarNow 13 = .ok (.aload_n 3, 1) := by decide +kernel
theorem dX7_ofStarNow_14 : decode cX7_ofStarNow 14 = .ok (.iload_n 2, 1) := by decide +kernel
theorem dX7_ofStarNow_15 : decode cX7_ofStarNow 15 = .ok (.iaload, 1) := by decide +kernel
theorem dX7_ofStarNow_16 : decode cX7_ofStarNow 16 = .ok (.goto 28, 3) := by decide +kernel
theorem dX7_ofStarNow_19 : decode cX7_ofStarNow 19 = .ok (.iload_n 2, 1) := by decide +kernel
theorem dX7_ofStarNow_20 : decode cX7_ofStarNow 20 = .ok (.bipush 6, 2) := by decide +kernel
theorem dX7_ofStarNow_22 : decode cX7_ofStarNow 22 = .ok (.if_icmp .ne 14, 3) := by decide +kernel
theorem dX7_ofStarNow_25 : decode cX7_ofStarNow 25 = .ok (.aload_n 0, 1) := by decide +kernel
theorem dX7_ofStarNow_26 : decode cX7_ofStarNow 26 = .ok (.iload_n 1, 1) := by decide +kernel
theorem dX7_ofStarNow_27 : decode cX7_ofStarNow 27 = .ok (.aload_n 3, 1) := by decide +kernel
theorem dX7_ofStarNow_28 : decode cX7_ofStarNow 28 = .ok (.iconst 1, 1) := by decide +kernel
theorem dX7_ofStarNow_29 : decode cX7_ofStarNow 29 = .ok (.iaload, 1) := by decide +kernel
theorem dX7_ofStarNow_30 : decode cX7_ofStarNow 30 = .ok (.invokevirtual 76, 3) := by decide +kernel
theorem dX7_ofStarNow_33 : decode cX7_ofStarNow 33 = .ok (.goto 11, 3) := by decide +kernel
theorem dX7_ofStarNow_36 : decode cX7_ofStarNow 36 = .ok (.aload_n 0, 1) := by decide +kernel
theorem dX7_ofStarNow_37 : decode cX7_ofStarNow 37 = .ok (.iload_n 1, 1) := by decide +kernel
theorem dX7_ofStarNow_38 : decode cX7_ofStarNow 38 = .ok (.aload_n 3, 1) := by decide +kernel
theorem dX7_ofStarNow_39 : decode cX7_ofStarNow 39 = .ok (.iconst 1, 1) := by decide +kernel
theorem dX7_ofStarNow_40 : decode cX7_ofStarNow 40 = .ok (.iaload, 1) := by decide +kernel
theorem dX7_ofStarNow_41 : decode cX7_ofStarNow 41 = .ok (.invokevirtual 73, 3) := by decide +kernel
theorem dX7_ofStarNow_44 : decode cX7_ofStarNow 44 = .ok (.ireturn, 1) := by decide +kernel
theorem dX7_ofStar_0 : decode cX7_ofStar 0 = .ok (.aload_n 0, 1) := by decide +kernel
theorem dX7_ofStar_1 : decode cX7_ofStar 1 = .ok (.iconst 0, 1) := by decide +kernel
theorem dX7_ofStar_2 : decode cX7_ofStar 2 = .ok (.putfield 41, 3) := by decide +kernel
theorem dX7_ofStar_5 : decode cX7_ofStar 5 = .ok (.aload_n 0, 1) := by decide +kernel
theorem dX7_ofStar_6 : decode cX7_ofStar 6 = .ok (.iload_n 1, 1) := by decide +kernel
theorem dX7_ofStar_7 : decode cX7_ofStar 7 = .ok (.invokevirtual 98, 3) := by decide +kernel
theorem dX7_ofStar_10 : decode cX7_ofStar 10 = .ok (.ifCond .ne 9, 3) := by decide +kernel
theorem dX7_ofStar_13 : decode cX7_ofStar 13 = .ok (.aload_n 0, 1) := by decide +kernel
theorem dX7_ofStar_14 : decode cX7_ofStar 14 = .ok (.iconst 1, 1) := by decide +kernel
theorem dX7_ofStar_15 : decode cX7_ofStar 15 = .ok (.invokevirtual 95, 3) := by decide +kernel
theorem dX7_ofStar_18 : decode cX7_ofStar 18 = .ok (.ireturn, 1) := by decide +kernel
theorem dX7_ofStar_19 : decode cX7_ofStar 19 = .ok (.iload_n 2, 1) := by decide +kernel
theorem dX7_ofStar_20 : decode cX7_ofStar 20 = .ok (.iconst 0, 1) := by decide +kernel
theorem dX7_ofStar_21 : decode cX7_ofStar 21 = .ok (.bipush 7, 2) := by decide +kernel
theorem dX7_ofStar_23 : decode cX7_ofStar 23 = .ok (.invokestatic 86, 3) := by decide +kernel
theorem dX7_ofStar_26 : decode cX7_ofStar 26 = .ok (.ifCond .eq 12, 3) := by decide +kernel
theorem dX7_ofStar_29 : decode cX7_ofStar 29 = .ok (.aload_n 0, 1) := by decide +kernel
theorem dX7_ofStar_30 : decode cX7_ofStar 30 = .ok (.iload_n 1, 1) := by decide +kernel
theorem dX7_ofStar_31 : decode cX7_ofStar 31 = .ok (.iload_n 2, 1) := by decide +kernel
theorem dX7_ofStar_32 : decode cX7_ofStar 32 = .ok (.invokevirtual 205, 3) := by decide +kernel
theorem dX7_ofStar_35 : decode cX7_ofStar 35 = .ok (.goto 8, 3) := by decide +kernel
theorem dX7_ofStar_38 : decode cX7_ofStar 38 = .ok (.aload_n 0, 1) := by decide +kernel
theorem dX7_ofStar_39 : decode cX7_ofStar 39 = .ok (.iconst 2, 1) := by decide +kernel
theorem dX7_ofStar_40 : decode cX7_ofStar 40 = .ok (.invokevirtual 95, 3) := by decide +kernel
theorem dX7_ofStar_43 : decode cX7_ofStar 43 = .ok (.ireturn, 1) := by decide +kernel
theorem dX7_messageNow_0 : decode cX7_messageNow 0 = .ok (.aload_n 0, 1) := by decide +kernel
theorem dX7_messageNow_1 : decode cX7_messageNow 1 = .ok (.getfield 14, 3) := by decide +kernel
theorem dX7_messageNow_4 : decode cX7_messageNow 4 = .ok (.iload_n 1, 1) := by decide +kernel
theorem dX7_messageNow_5 : decode cX7_messageNow 5 = .ok (.aaload, 1) := by decide +kernel
theorem dX7_messageNow_6 : decode cX7_messageNow 6 = .ok (.astore_n 3, 1) := by decide +kernel
theorem dX7_messageNow_7 : decode cX7_messageNow 7 = .ok (.iload_n 2, 1) := by decide +kernel
theorem dX7_messageNow_8 : decode cX7_messageNow 8 = .ok (.iconst 5, 1) := by decide +kernel
theorem dX7_messageNow_9 : decode cX7_messageNow 9 = .ok (.if_icmp .ge 7, 3) := by decide +kernel
theorem dX7_messageNow_12 : decode cX7_messageNow 12 = .ok (.aload_n 3, 1) := by decide +kernel
theorem dX7_messageNow_13 : decode cX7_messageNow 13 = .ok (.iload_n 2, 1) := by decide +kernel
theorem dX7_messageNow_14 : decode cX7_messageNow 14 = .ok (.iaload, 1) := by decide +kernel
theorem dX7_messageNow_15 : decode cX7_messageNow 15 = .ok (.ireturn, 1) := by decide +kernel
theorem dX7_messageNow_16 : decode cX7_messageNow 16 = .ok (.iload_n 2, 1) := by decide +kernel
theorem dX7_messageNow_17 : decode cX7_messageNow 17 = .ok (.iconst 5, 1) := by decide +kernel
theorem dX7_messageNow_18 : decode cX7_messageNow 18 = .ok (.if_icmp .ne 17, 3) := by decide +kernel
theorem dX7_messageNow_21 : decode cX7_messageNow 21 = .ok (.aload_n 0, 1) := by decide +kernel
theorem dX7_messageNow_22 : decode cX7_messageNow 22 = .ok (.iload_n 1, 1) := by decide +kernel
theorem dX7_messageNow_23 : decode cX7_messageNow 23 = .ok (.invokevirtual 164, 3) := by decide +kernel
theorem dX7_messageNow_26 : decode cX7_messageNow 26 = .ok (.ifCond .eq 7, 3) := by decide +kernel
theorem dX7_messageNow_29 : decode cX7_messageNow 29 = .ok (.iconst 1, 1) := by decide +kernel
theorem dX7_messageNow_30 : decode cX7_messageNow 30 = .ok (.goto 4, 3) := by decide +kernel
theorem dX7_messageNow_33 : decode cX7_messageNow 33 = .ok (.iconst 0, 1) := by decide +kernel
theorem dX7_messageNow_34 : decode cX7_messageNow 34 = .ok (.ireturn, 1) := by decide +kernel
theorem dX7_messageNow_35 : decode cX7_messageNow 35 = .ok (.aload_n 3, 1) := by decide +kernel
theorem dX7_messageNow_36 : decode cX7_messageNow 36 = .ok (.iconst 0, 1) := by decide +kernel
theorem dX7_messageNow_37 : decode cX7_messageNow 37 = .ok (.iaload, 1) := by decide +kernel
theorem dX7_messageNow_38 : decode cX7_messageNow 38 = .ok (.ifCond .ne 5, 3) := by decide +kernel
theorem dX7_messageNow_41 : decode cX7_messageNow 41 = .ok (.iconst 0, 1) := by decide +kernel
theorem dX7_messageNow_42 : decode cX7_messageNow 42 = .ok (.ireturn, 1) := by decide +kernel
theorem dX7_messageNow_43 : decode cX7_messageNow 43 = .ok (.iload_n 2, 1) := by decide +kernel
theorem dX7_messageNow_44 : decode cX7_messageNow 44 = .ok (.bipush 6, 2) := by decide +kernel
theorem dX7_messageNow_46 : decode cX7_messageNow 46 = .ok (.if_icmp .ne 21, 3) := by decide +kernel
theorem dX7_messageNow_49 : decode cX7_messageNow 49 = .ok (.aload_n 0, 1) := by decide +kernel
theorem dX7_messageNow_50 : decode cX7_messageNow 50 = .ok (.iload_n 1, 1) := by decide +kernel
theorem dX7_messageNow_51 : decode cX7_messageNow 51 = .ok (.invokevirtual 173, 3) := by decide +kernel
theorem dX7_messageNow_54 : decode cX7_messageNow 54 = .ok (.aload_n 0, 1) := by decide +kernel
theorem dX7_messageNow_55 : decode cX7_messageNow 55 = .ok (.getfield 11, 3) := by decide +kernel
theorem dX7_messageNow_58 : decode cX7_messageNow 58 = .ok (.iload_n 1, 1) := by decide +kernel
theorem dX7_messageNow_59 : decode cX7_messageNow 59 = .ok (.aaload, 1) := by decide +kernel
theorem dX7_messageNow_60 : decode cX7_messageNow 60 = .ok (.iconst 3, 1) := by decide +kernel
theorem dX7_messageNow_61 : decode cX7_messageNow 61 = .ok (.iaload, 1) := by decide +kernel
theorem dX7_messageNow_62 : decode cX7_messageNow 62 = .ok (.isub, 1) := by decide +kernel
theorem dX7_messageNow_63 : decode cX7_messageNow 63 = .ok (.invokestatic 61, 3) := by decide +kernel
theorem dX7_messageNow_66 : decode cX7_messageNow 66 = .ok (.ireturn, 1) := by decide +kernel
theorem dX7_messageNow_67 : decode cX7_messageNow 67 = .ok (.aload_n 0, 1) := by decide +kernel
theorem dX7_messageNow_68 : decode cX7_messageNow 68 = .ok (.iload_n 1, 1) := by decide +kernel
theorem dX7_messageNow_69 : decode cX7_messageNow 69 = .ok (.aload_n 0, 1) := by decide +kernel
theorem dX7_messageNow_70 : decode cX7_messageNow 70 = .ok (.iload_n 1, 1) := by decide +kernel
theorem dX7_messageNow_71 : decode cX7_messageNow 71 = .ok (.invokevirtual 167, 3) := by decide +kernel
theorem dX7_messageNow_74 : decode cX7_messageNow 74 = .ok (.invokevirtual 76, 3) := by decide +kernel
theorem dX7_messageNow_77 : decode cX7_messageNow 77 = .ok (.aload_n 0, 1) := by decide +kernel
theorem dX7_messageNow_78 : decode cX7_messageNow 78 = .ok (.iload_n 1, 1) := by decide +kernel
theorem dX7_messageNow_79 : decode cX7_messageNow 79 = .ok (.aload_n 0, 1) := by decide +kernel
theorem dX7_messageNow_80 : decode cX7_messageNow 80 = .ok (.iload_n 1, 1) := by decide +kernel
theorem dX7_messageNow_81 : decode cX7_messageNow 81 = .ok (.invokevirtual 167, 3) := by decide +kernel
theorem dX7_messageNow_84 : decode cX7_messageNow 84 = .ok (.invokevirtual 73, 3) := by decide +kernel
theorem dX7_messageNow_87 : decode cX7_messageNow 87 = .ok (.aload_n 0, 1) := by decide +kernel
theorem dX7_messageNow_88 : decode cX7_messageNow 88 = .ok (.iload_n 1, 1) := by decide +kernel
theorem dX7_messageNow_89 : decode cX7_messageNow 89 = .ok (.bipush 6, 2) := by decide +kernel
theorem dX7_messageNow_91 : decode cX7_messageNow 91 = .ok (.invokevirtual 205, 3) := by decide +kernel
theorem dX7_messageNow_94 : decode cX7_messageNow 94 = .ok (.aload_n 0, 1) := by decide +kernel
theorem dX7_messageNow_95 : decode cX7_messageNow 95 = .ok (.iload_n 1, 1) := by decide +kernel
theorem dX7_messageNow_96 : decode cX7_messageNow 96 = .ok (.bipush 7, 2) := by decide +kernel
theorem dX7_messageNow_98 : decode cX7_messageNow 98 = .ok (.invokevirtual 205, 3) := by decide +kernel
theorem dX7_messageNow_101 : decode cX7_messageNow 101 = .ok (.invokestatic 118, 3) := by decide +kernel
theorem dX7_messageNow_104 : decode cX7_messageNow 104 = .ok (.ireturn, 1) := by decide +kernel
theorem dX7_message_0 : decode cX7_message 0 = .ok (.aload_n 0, 1) := by decide +kernel
theorem dX7_message_1 : decode cX7_message 1 = .ok (.iconst 0, 1) := by decide +kernel
theorem dX7_message_2 : decode cX7_message 2 = .ok (.putfield 41, 3) := by decide +kernel
theorem dX7_message_5 : decode cX7_message 5 = .ok (.aload_n 0, 1) := by decide +kernel
theorem dX7_message_6 : decode cX7_message 6 = .ok (.iload_n 1, 1) := by decide +kernel
theorem dX7_message_7 : decode cX7_message 7 = .ok (.invokevirtual 98, 3) := by decide +kernel
theorem dX7_message_10 : decode cX7_message 10 = .ok (.ifCond .ne 9, 3) := by decide +kernel
theorem dX7_message_13 : decode cX7_message 13 = .ok (.aload_n 0, 1) := by decide +kernel
theorem dX7_message_14 : decode cX7_message 14 = .ok (.iconst 1, 1) := by decide +kernel
theorem dX7_message_15 : decode cX7_message 15 = .ok (.invokevirtual 95, 3) := by decide +kernel
theorem dX7_message_18 : decode cX7_message 18 = .ok (.ireturn, 1) := by decide +kernel
theorem dX7_message_19 : decode cX7_message 19 = .ok (.iload_n 2, 1) := by decide +kernel
theorem dX7_message_20 : decode cX7_message 20 = .ok (.iconst 0, 1) := by decide +kernel
theorem dX7_message_21 : decode cX7_message 21 = .ok (.bipush 7, 2) := by decide +kernel
theorem dX7_message_23 : decode cX7_message 23 = .ok (.invokestatic 86, 3) := by decide +kernel
theorem dX7_message_26 : decode cX7_message 26 = .ok (.ifCond .eq 12, 3) := by decide +kernel
theorem dX7_message_29 : decode cX7_message 29 = .ok (.aload_n 0, 1) := by decide +kernel
theorem dX7_message_30 : decode cX7_message 30 = .ok (.iload_n 1, 1) := by decide +kernel
theorem dX7_message_31 : decode cX7_message 31 = .ok (.iload_n 2, 1) := by decide +kernel
theorem dX7_message_32 : decode cX7_message 32 = .ok (.invokevirtual 208, 3) := by decide +kernel
theorem dX7_message_35 : decode cX7_message 35 = .ok (.goto 8, 3) := by decide +kernel
theorem dX7_message_38 : decode cX7_message 38 = .ok (.aload_n 0, 1) := by decide +kernel
theorem dX7_message_39 : decode cX7_message 39 = .ok (.iconst 2, 1) := by decide +kernel
theorem dX7_message_40 : decode cX7_message 40 = .ok (.invokevirtual 95, 3) := by decide +kernel
theorem dX7_message_43 : decode cX7_message 43 = .ok (.ireturn, 1) := by decide +kernel
theorem dX7_seenNow_0 : decode cX7_seenNow 0 = .ok (.aload_n 0, 1) := by decide +kernel
theorem dX7_seenNow_1 : decode cX7_seenNow 1 = .ok (.getfield 25, 3) := by decide +kernel
theorem dX7_seenNow_4 : decode cX7_seenNow 4 = .ok (.iload_n 1, 1) := by decide +kernel
theorem dX7_seenNow_5 : decode cX7_seenNow 5 = .ok (.aaload, 1) := by decide +kernel
theorem dX7_seenNow_6 : decode cX7_seenNow 6 = .ok (.iload_n 2, 1) := by decide +kernel
theorem dX7_seenNow_7 : decode cX7_seenNow 7 = .ok (.aaload, 1) := by decide +kernel
theorem dX7_seenNow_8 : decode cX7_seenNow 8 = .ok (.astore 4, 2) := by decide +kernel
theorem dX7_seenNow_10 : decode cX7_seenNow 10 = .ok (.aload 4, 2) := by decide +kernel
theorem dX7_seenNow_12 : decode cX7_seenNow 12 = .ok (.bipush 11, 2) := by decide +kernel
theorem dX7_seenNow_14 : decode cX7_seenNow 14 = .ok (.iaload, 1) := by decide +kernel
theorem dX7_seenNow_15 : decode cX7_seenNow 15 = .ok (.iconst 1, 1) := by decide +kernel
theorem dX7_seenNow_16 : decode cX7_seenNow 16 = .ok (.if_icmp .ne 10, 3) := by decide +kernel
theorem dX7_seenNow_19 : decode cX7_seenNow 19 = .ok (.aload 4, 2) := by decide +kernel
theorem dX7_seenNow_21 : decode cX7_seenNow 21 = .ok (.iload_n 3, 1) := by decide +kernel
theorem dX7_seenNow_22 : decode cX7_seenNow 22 = .ok (.iaload, 1) := by decide +kernel
theorem dX7_seenNow_23 : decode cX7_seenNow 23 = .ok (.goto 19, 3) := by decide +kernel
theorem dX7_seenNow_26 : decode cX7_seenNow 26 = .ok (.iload_n 3, 1) := by decide +kernel
theorem dX7_seenNow_27 : decode cX7_seenNow 27 = .ok (.iconst 5, 1) := by decide +kernel
theorem dX7_seenNow_28 : decode cX7_seenNow 28 = .ok (.if_icmp .eq 9, 3) := by decide +kernel
theorem dX7_seenNow_31 : decode cX7_seenNow 31 = .ok (.iload_n 3, 1) := by decide +kernel
theorem dX7_seenNow_32 : decode cX7_seenNow 32 = .ok (.bipush 6, 2) := by decide +kernel
theorem dX7_seenNow_34 : decode cX7_seenNow 34 = .ok (.if_icmp .ne 7, 3) := by decide +kernel
theorem dX7_seenNow_37 : decode cX7_seenNow 37 = .ok (.iconst 0, 1) := by decide +kernel
theorem dX7_seenNow_38 : decode cX7_seenNow 38 = .ok (.goto 4, 3) := by decide +kernel
theorem dX7_seenNow_41 : decode cX7_seenNow 41 = .ok (.iconst (-1), 1) := by decide +kernel
theorem dX7_seenNow_42 : decode cX7_seenNow 42 = .ok (.ireturn, 1) := by decide +kernel
theorem dX7_seen_0 : decode cX7_seen 0 = .ok (.aload_n 0, 1) := by decide +kernel
theorem dX7_seen_1 : decode cX7_seen 1 = .ok (.iconst 0, 1) := by decide +kernel
theorem dX7_seen_2 : decode cX7_seen 2 = .ok (.putfield 41, 3) := by decide +kernel
theorem dX7_seen_5 : decode cX7_seen 5 = .ok (.aload_n 0, 1) := by decide +kernel
theorem dX7_seen_6 : decode cX7_seen 6 = .ok (.iload_n 1, 1) := by decide +kernel
theorem dX7_seen_7 : decode cX7_seen 7 = .ok (.invokevirtual 115, 3) := by decide +kernel
theorem dX7_seen_10 : decode cX7_seen 10 = .ok (.ifCond .eq 11, 3) := by decide +kernel
theorem dX7_seen_13 : decode cX7_seen 13 = .ok (.aload_n 0, 1) := by decide +kernel
theorem dX7_seen_14 : decode cX7_seen 14 = .ok (.iload_n 2, 1) := by decide +kernel
theorem dX7_seen_15 : decode cX7_seen 15 = .ok (.invokevirtual 98, 3) := by decide +kernel
theorem dX7_seen_18 : decode cX7_seen 18 = .ok (.ifCond .ne 9, 3) := by decide +kernel
theorem dX7_seen_21 : decode cX7_seen 21 = .ok (.aload_n 0, 1) := by decide +kernel
theorem dX7_seen_22 : decode cX7_seen 22 = .ok (.iconst 1, 1) := by decide +kernel
theorem dX7_seen_23 : decode cX7_seen 23 = .ok (.invokevirtual 95, 3) := by decide +kernel
theorem dX7_seen_26 : decode cX7_seen 26 = .ok (.ireturn, 1) := by decide +kernel
theorem dX7_seen_27 : decode cX7_seen 27 = .ok (.iload_n 3, 1) := by decide +kernel
theorem dX7_seen_28 : decode cX7_seen 28 = .ok (.iconst 0, 1) := by decide +kernel
theorem dX7_seen_29 : decode cX7_seen 29 = .ok (.bipush 7, 2) := by decide +kernel
theorem dX7_seen_31 : decode cX7_seen 31 = .ok (.invokestatic 86, 3) := by decide +kernel
theorem dX7_seen_34 : decode cX7_seen 34 = .ok (.ifCond .eq 13, 3) := by decide +kernel
theorem dX7_seen_37 : decode cX7_seen 37 = .ok (.aload_n 0, 1) := by decide +kernel
theorem dX7_seen_38 : decode cX7_seen 38 = .ok (.iload_n 1, 1) := by decide +kernel
theorem dX7_seen_39 : decode cX7_seen 39 = .ok (.iload_n 2, 1) := by decide +kernel
theorem dX7_seen_40 : decode cX7_seen 40 = .ok (.iload_n 3, 1) := by decide +kernel
theorem dX7_seen_41 : decode cX7_seen 41 = .ok (.invokevirtual 211, 3) := by decide +kernel
theorem dX7_seen_44 : decode cX7_seen 44 = .ok (.goto 8, 3) := by decide +kernel
theorem dX7_seen_47 : decode cX7_seen 47 = .ok (.aload_n 0, 1) := by decide +kernel
theorem dX7_seen_48 : decode cX7_seen 48 = .ok (.iconst 2, 1) := by decide +kernel
theorem dX7_seen_49 : decode cX7_seen 49 = .ok (.invokevirtual 95, 3) := by decide +kernel
theorem dX7_seen_52 : decode cX7_seen 52 = .ok (.ireturn, 1) := by decide +kernel
theorem dX7_ofReceiverNow_0 : decode cX7_ofReceiverNow 0 = .ok (.aload_n 0, 1) := by decide +kernel
theorem dX7_ofReceiverNow_1 : decode cX7_ofReceiverNow 1 = .ok (.getfield 20, 3) := by decide +kernel
theorem dX7_ofReceiverNow_4 : decode cX7_ofReceiverNow 4 = .ok (.iload_n 1, 1) := by decide +kernel
theorem dX7_ofReceiverNow_5 : decode cX7_ofReceiverNow 5 = .ok (.aaload, 1) := by decide +kernel
theorem dX7_ofReceiverNow_6 : decode cX7_ofReceiverNow 6 = .ok (.astore_n 3, 1) := by decide +kernel
theorem dX7_ofReceiverNow_7 : decode cX7_ofReceiverNow 7 = .ok (.aload_n 3, 1) := by decide +kernel
theorem dX7_ofReceiverNow_8 : decode cX7_ofReceiverNow 8 = .ok (.bipush 20, 2) := by decide +kernel
theorem dX7_ofReceiverNow_10 : decode cX7_ofReceiverNow 10 = .ok (.iaload, 1) := by decide +kernel
theorem dX7_ofReceiverNow_11 : decode cX7_ofReceiverNow 11 = .ok (.ifCond .ne 7, 3) := by decide +kernel
theorem dX7_ofReceiverNow_14 : decode cX7_ofReceiverNow 14 = .ok (.iconst 0, 1) := by decide +kernel
theorem dX7_ofReceiverNow_15 : decode cX7_ofReceiverNow 15 = .ok (.goto 20, 3) := by decide +kernel
theorem dX7_ofReceiverNow_18 : decode cX7_ofReceiverNow 18 = .ok (.aload_n 3, 1) := by decide +kernel
theorem dX7_ofReceiverNow_19 : decode cX7_ofReceiverNow 19 = .ok (.iconst 0, 1) := by decide +kernel
theorem dX7_ofReceiverNow_20 : decode cX7_ofReceiverNow 20 = .ok (.iaload, 1) := by decide +kernel
theorem dX7_ofReceiverNow_21 : decode cX7_ofReceiverNow 21 = .ok (.aload_n 3, 1) := by decide +kernel
theorem dX7_ofReceiverNow_22 : decode cX7_ofReceiverNow 22 = .ok (.iconst 1, 1) := by decide +kernel
theorem dX7_ofReceiverNow_23 : decode cX7_ofReceiverNow 23 = .ok (.iaload, 1) := by decide +kernel
theorem dX7_ofReceiverNow_24 : decode cX7_ofReceiverNow 24 = .ok (.aload_n 3, 1) := by decide +kernel
theorem dX7_ofReceiverNow_25 : decode cX7_ofReceiverNow 25 = .ok (.bipush 12, 2) := by decide +kernel
theorem dX7_ofReceiverNow_27 : decode cX7_ofReceiverNow 27 = .ok (.iaload, 1) := by decide +kernel
theorem dX7_ofReceiverNow_28 : decode cX7_ofReceiverNow 28 = .ok (.aload_n 3, 1) := by decide +kernel
theorem dX7_ofReceiverNow_29 : decode cX7_ofReceiverNow 29 = .ok (.bipush 13, 2) := by decide +kernel
theorem dX7_ofReceiverNow_31 : decode cX7_ofReceiverNow 31 = .ok (.iaload, 1) := by decide +kernel
theorem dX7_ofReceiverNow_32 : decode cX7_ofReceiverNow 32 = .ok (.invokestatic 118, 3) := by decide +kernel
theorem dX7_ofReceiverNow_35 : decode cX7_ofReceiverNow 35 = .ok (.istore 4, 2) := by decide +kernel
theorem dX7_ofReceiverNow_37 : decode cX7_ofReceiverNow 37 = .ok (.bipush 14, 2) := by decide +kernel
theorem dX7_ofReceiverNow_39 : decode cX7_ofReceiverNow 39 = .ok (.newarray .int, 2) := by decide +kernel
theorem dX7_ofReceiverNow_41 : decode cX7_ofReceiverNow 41 = .ok (.dup, 1) := by decide +kernel
theorem dX7_ofReceiverNow_42 : decode cX7_ofReceiverNow 42 = .ok (.iconst 0, 1) := by decide +kernel
theorem dX7_ofReceiverNow_43 : decode cX7_ofReceiverNow 43 = .ok (.aload_n 3, 1) := by decide +kernel
theorem dX7_ofReceiverNow_44 : decode cX7_ofReceiverNow 44 = .ok (.iconst 0, 1) := by decide +kernel
theorem dX7_ofReceiverNow_45 : decode cX7_ofReceiverNow 45 = .ok (.iaload, 1) := by decide +kernel
theorem dX7_ofReceiverNow_46 : decode cX7_ofReceiverNow 46 = .ok (.iastore, 1) := by decide +kernel
theorem dX7_ofReceiverNow_47 : decode cX7_ofReceiverNow 47 = .ok (.dup, 1) := by decide +kernel
theorem dX7_ofReceiverNow_48 : decode cX7_ofReceiverNow 48 = .ok (.iconst 1, 1) := by decide +kernel
theorem dX7_ofReceiverNow_49 : decode cX7_ofReceiverNow 49 = .ok (.aload_n 3, 1) := by decide +kernel
theorem dX7_ofReceiverNow_50 : decode cX7_ofReceiverNow 50 = .ok (.iconst 1, 1) := by decide +kernel
theorem dX7_ofReceiverNow_51 : decode cX7_ofReceiverNow 51 = .ok (.iaload, 1) := by decide +kernel
theorem dX7_ofReceiverNow_52 : decode cX7_ofReceiverNow 52 = .ok (.iastore, 1) := by decide +kernel
theorem dX7_ofReceiverNow_53 : decode cX7_ofReceiverNow 53 = .ok (.dup, 1) := by decide +kernel
theorem dX7_ofReceiverNow_54 : decode cX7_ofReceiverNow 54 = .ok (.iconst 2, 1) := by decide +kernel
theorem dX7_ofReceiverNow_55 : decode cX7_ofReceiverNow 55 = .ok (.aload_n 0, 1) := by decide +kernel
theorem dX7_ofReceiverNow_56 : decode cX7_ofReceiverNow 56 = .ok (.iload_n 1, 1) := by decide +kernel
theorem dX7_ofReceiverNow_57 : decode cX7_ofReceiverNow 57 = .ok (.iconst 0, 1) := by decide +kernel
theorem dX7_ofReceiverNow_58 : decode cX7_ofReceiverNow 58 = .ok (.invokevirtual 122, 3) := by decide +kernel
theorem dX7_ofReceiverNow_61 : decode cX7_ofReceiverNow 61 = .ok (.invokestatic 125, 3) := by decide +kernel
theorem dX7_ofReceiverNow_64 : decode cX7_ofReceiverNow 64 = .ok (.iastore, 1) := by decide +kernel
theorem dX7_ofReceiverNow_65 : decode cX7_ofReceiverNow 65 = .ok (.dup, 1) := by decide +kernel
theorem dX7_ofReceiverNow_66 : decode cX7_ofReceiverNow 66 = .ok (.iconst 3, 1) := by decide +kernel
theorem dX7_ofReceiverNow_67 : decode cX7_ofReceiverNow 67 = .ok (.aload_n 3, 1) := by decide +kernel
theorem dX7_ofReceiverNow_68 : decode cX7_ofReceiverNow 68 = .ok (.bipush 10, 2) := by decide +kernel
theorem dX7_ofReceiverNow_70 : decode cX7_ofReceiverNow 70 = .ok (.iaload, 1) := by decide +kernel
theorem dX7_ofReceiverNow_71 : decode cX7_ofReceiverNow 71 = .ok (.iastore, 1) := by decide +kernel
theorem dX7_ofReceiverNow_72 : decode cX7_ofReceiverNow 72 = .ok (.dup, 1) := by decide +kernel
theorem dX7_ofReceiverNow_73 : decode cX7_ofReceiverNow 73 = .ok (.iconst 4, 1) := by decide +kernel
theorem dX7_ofReceiverNow_74 : decode cX7_ofReceiverNow 74 = .ok (.aload_n 3, 1) := by decide +kernel
theorem dX7_ofReceiverNow_75 : decode cX7_ofReceiverNow 75 = .ok (.bipush 11, 2) := by decide +kernel
theorem dX7_ofReceiverNow_77 : decode cX7_ofReceiverNow 77 = .ok (.iaload, 1) := by decide +kernel
theorem dX7_ofReceiverNow_78 : decode cX7_ofReceiverNow 78 = .ok (.iastore, 1) := by decide +kernel
theorem dX7_ofReceiverNow_79 : decode cX7_ofReceiverNow 79 = .ok (.dup, 1) := by decide +kernel
theorem dX7_ofReceiverNow_80 : decode cX7_ofReceiverNow 80 = .ok (.iconst 5, 1) := by decide +kernel
theorem dX7_ofReceiverNow_81 : decode cX7_ofReceiverNow 81 = .ok (.aload_n 3, 1) := by decide +kernel
theorem dX7_ofReceiverNow_82 : decode cX7_ofReceiverNow 82 = .ok (.bipush 12, 2) := by decide +kernel
theorem dX7_ofReceiverNow_84 : decode cX7_ofReceiverNow 84 = .ok (.iaload, 1) := by decide +kernel
theorem dX7_ofReceiverNow_85 : decode cX7_ofReceiverNow 85 = .ok (.iastore, 1) := by decide +kernel
theorem dX7_ofReceiverNow_86 : decode cX7_ofReceiverNow 86 = .ok (.dup, 1) := by decide +kernel
theorem dX7_ofReceiverNow_87 : decode cX7_ofReceiverNow 87 = .ok (.bipush 6, 2) := by decide +kernel
theorem dX7_ofReceiverNow_89 : decode cX7_ofReceiverNow 89 = .ok (.aload_n 3, 1) := by decide +kernel
theorem dX7_ofReceiverNow_90 : decode cX7_ofReceiverNow 90 = .ok (.bipush 13, 2) := by decide +kernel
theorem dX7_ofReceiverNow_92 : decode cX7_ofReceiverNow 92 = .ok (.iaload, 1) := by decide +kernel
theorem dX7_ofReceiverNow_93 : decode cX7_ofReceiverNow 93 = .ok (.iastore, 1) := by decide +kernel
theorem dX7_ofReceiverNow_94 : decode cX7_ofReceiverNow 94 = .ok (.dup, 1) := by decide +kernel
theorem dX7_ofReceiverNow_95 : decode cX7_ofReceiverNow 95 = .ok (.bipush 7, 2) := by decide +kernel
theorem dX7_ofReceiverNow_97 : decode cX7_ofReceiverNow 97 = .ok (.aload_n 3, 1) := by decide +kernel
theorem dX7_ofReceiverNow_98 : decode cX7_ofReceiverNow 98 = .ok (.bipush 14, 2) := by decide +kernel
theorem dX7_ofReceiverNow_100 : decode cX7_ofReceiverNow 100 = .ok (.iaload, 1) := by decide +kernel
theorem dX7_ofReceiverNow_101 : decode cX7_ofReceiverNow 101 = .ok (.iastore, 1) := by decide +kernel
theorem dX7_ofReceiverNow_102 : decode cX7_ofReceiverNow 102 = .ok (.dup, 1) := by decide +kernel
theorem dX7_ofReceiverNow_103 : decode cX7_ofReceiverNow 103 = .ok (.bipush 8, 2) := by decide +kernel
theorem dX7_ofReceiverNow_105 : decode cX7_ofReceiverNow 105 = .ok (.aload_n 3, 1) := by decide +kernel
theorem dX7_ofReceiverNow_106 : decode cX7_ofReceiverNow 106 = .ok (.bipush 15, 2) := by decide +kernel
theorem dX7_ofReceiverNow_108 : decode cX7_ofReceiverNow 108 = .ok (.iaload, 1) := by decide +kernel
theorem dX7_ofReceiverNow_109 : decode cX7_ofReceiverNow 109 = .ok (.iastore, 1) := by decide +kernel
theorem dX7_ofReceiverNow_110 : decode cX7_ofReceiverNow 110 = .ok (.dup, 1) := by decide +kernel
theorem dX7_ofReceiverNow_111 : decode cX7_ofReceiverNow 111 = .ok (.bipush 9, 2) := by decide +kernel
theorem dX7_ofReceiverNow_113 : decode cX7_ofReceiverNow 113 = .ok (.aload_n 3, 1) := by decide +kernel
theorem dX7_ofReceiverNow_114 : decode cX7_ofReceiverNow 114 = .ok (.bipush 16, 2) := by decide +kernel
theorem dX7_ofReceiverNow_116 : decode cX7_ofReceiverNow 116 = .ok (.iaload, 1) := by decide +kernel
theorem dX7_ofReceiverNow_117 : decode cX7_ofReceiverNow 117 = .ok (.iastore, 1) := by decide +kernel
theorem dX7_ofReceiverNow_118 : decode cX7_ofReceiverNow 118 = .ok (.dup, 1) := by decide +kernel
theorem dX7_ofReceiverNow_119 : decode cX7_ofReceiverNow 119 = .ok (.bipush 10, 2) := by decide +kernel
theorem dX7_ofReceiverNow_121 : decode cX7_ofReceiverNow 121 = .ok (.aload_n 3, 1) := by decide +kernel
theorem dX7_ofReceiverNow_122 : decode cX7_ofReceiverNow 122 = .ok (.bipush 17, 2) := by decide +kernel
theorem dX7_ofReceiverNow_124 : decode cX7_ofReceiverNow 124 = .ok (.iaload, 1) := by decide +kernel
theorem dX7_ofReceiverNow_125 : decode cX7_ofReceiverNow 125 = .ok (.iastore, 1) := by decide +kernel
theorem dX7_ofReceiverNow_126 : decode cX7_ofReceiverNow 126 = .ok (.dup, 1) := by decide +kernel
theorem dX7_ofReceiverNow_127 : decode cX7_ofReceiverNow 127 = .ok (.bipush 11, 2) := by decide +kernel
theorem dX7_ofReceiverNow_129 : decode cX7_ofReceiverNow 129 = .ok (.aload_n 3, 1) := by decide +kernel
theorem dX7_ofReceiverNow_130 : decode cX7_ofReceiverNow 130 = .ok (.bipush 18, 2) := by decide +kernel
theorem dX7_ofReceiverNow_132 : decode cX7_ofReceiverNow 132 = .ok (.iaload, 1) := by decide +kernel
theorem dX7_ofReceiverNow_133 : decode cX7_ofReceiverNow 133 = .ok (.iastore, 1) := by decide +kernel
theorem dX7_ofReceiverNow_134 : decode cX7_ofReceiverNow 134 = .ok (.dup, 1) := by decide +kernel
theorem dX7_ofReceiverNow_135 : decode cX7_ofReceiverNow 135 = .ok (.bipush 12, 2) := by decide +kernel
theorem dX7_ofReceiverNow_137 : decode cX7_ofReceiverNow 137 = .ok (.aload_n 3, 1) := by decide +kernel
theorem dX7_ofReceiverNow_138 : decode cX7_ofReceiverNow 138 = .ok (.bipush 19, 2) := by decide +kernel
theorem dX7_ofReceiverNow_140 : decode cX7_ofReceiverNow 140 = .ok (.iaload, 1) := by decide +kernel
theorem dX7_ofReceiverNow_141 : decode cX7_ofReceiverNow 141 = .ok (.iastore, 1) := by decide +kernel
theorem dX7_ofReceiverNow_142 : decode cX7_ofReceiverNow 142 = .ok (.dup, 1) := by decide +kernel
theorem dX7_ofReceiverNow_143 : decode cX7_ofReceiverNow 143 = .ok (.bipush 13, 2) := by decide +kernel
theorem dX7_ofReceiverNow_145 : decode cX7_ofReceiverNow 145 = .ok (.iload 4, 2) := by decide +kernel
theorem dX7_ofReceiverNow_147 : decode cX7_ofReceiverNow 147 = .ok (.iastore, 1) := by decide +kernel
theorem dX7_ofReceiverNow_148 : decode cX7_ofReceiverNow 148 = .ok (.astore 5, 2) := by decide +kernel
theorem dX7_ofReceiverNow_150 : decode cX7_ofReceiverNow 150 = .ok (.aload 5, 2) := by decide +kernel
theorem dX7_ofReceiverNow_152 : decode cX7_ofReceiverNow 152 = .ok (.iload_n 2, 1) := by decide +kernel
theorem dX7_ofReceiverNow_153 : decode cX7_ofReceiverNow 153 = .ok (.iaload, 1) := by decide +kernel
theorem dX7_ofReceiverNow_154 : decode cX7_ofReceiverNow 154 = .ok (.ireturn, 1) := by decide +kernel
theorem dX7_ofReceiver_0 : decode cX7_ofReceiver 0 = .ok (.aload_n 0, 1) := by decide +kernel
theorem dX7_ofReceiver_1 : decode cX7_ofReceiver 1 = .ok (.iconst 0, 1) := by decide +kernel
theorem dX7_ofReceiver_2 : decode cX7_ofReceiver 2 = .ok (.putfield 41, 3) := by decide +kernel
theorem dX7_ofReceiver_5 : decode cX7_ofReceiver 5 = .ok (.aload_n 0, 1) := by decide +kernel
theorem dX7_ofReceiver_6 : decode cX7_ofReceiver 6 = .ok (.iload_n 1, 1) := by decide +kernel
theorem dX7_ofReceiver_7 : decode cX7_ofReceiver 7 = .ok (.invokevirtual 115, 3) := by decide +kernel
theorem dX7_ofReceiver_10 : decode cX7_ofReceiver 10 = .ok (.ifCond .ne 9, 3) := by decide +kernel
theorem dX7_ofReceiver_13 : decode cX7_ofReceiver 13 = .ok (.aload_n 0, 1) := by decide +kernel
theorem dX7_ofReceiver_14 : decode cX7_ofReceiver 14 = .ok (.iconst 1, 1) := by decide +kernel
theorem dX7_ofReceiver_15 : decode cX7_ofReceiver 15 = .ok (.invokevirtual 95, 3) := by decide +kernel
theorem dX7_ofReceiver_18 : decode cX7_ofReceiver 18 = .ok (.ireturn, 1) := by decide +kernel
theorem dX7_ofReceiver_19 : decode cX7_ofReceiver 19 = .ok (.iload_n 2, 1) := by decide +kernel
theorem dX7_ofReceiver_20 : decode cX7_ofReceiver 20 = .ok (.iconst 0, 1) := by decide +kernel
theorem dX7_ofReceiver_21 : decode cX7_ofReceiver 21 = .ok (.bipush 13, 2) := by decide +kernel
theorem dX7_ofReceiver_23 : decode cX7_ofReceiver 23 = .ok (.invokestatic 86, 3) := by decide +kernel
theorem dX7_ofReceiver_26 : decode cX7_ofReceiver 26 = .ok (.ifCond .eq 12, 3) := by decide +kernel
theorem dX7_ofReceiver_29 : decode cX7_ofReceiver 29 = .ok (.aload_n 0, 1) := by decide +kernel
theorem dX7_ofReceiver_30 : decode cX7_ofReceiver 30 = .ok (.iload_n 1, 1) := by decide +kernel
theorem dX7_ofReceiver_31 : decode cX7_ofReceiver 31 = .ok (.iload_n 2, 1) := by decide +kernel
theorem dX7_ofReceiver_32 : decode cX7_ofReceiver 32 = .ok (.invokevirtual 214, 3) := by decide +kernel
theorem dX7_ofReceiver_35 : decode cX7_ofReceiver 35 = .ok (.goto 8, 3) := by decide +kernel
theorem dX7_ofReceiver_38 : decode cX7_ofReceiver 38 = .ok (.aload_n 0, 1) := by decide +kernel
theorem dX7_ofReceiver_39 : decode cX7_ofReceiver 39 = .ok (.iconst 2, 1) := by decide +kernel
theorem dX7_ofReceiver_40 : decode cX7_ofReceiver 40 = .ok (.invokevirtual 95, 3) := by decide +kernel
theorem dX7_ofReceiver_43 : decode cX7_ofReceiver 43 = .ok (.ireturn, 1) := by decide +kernel
theorem dX7_manyNow_0 : decode cX7_manyNow 0 = .ok (.iconst 0, 1) := by decide +kernel
theorem dX7_manyNow_1 : decode cX7_manyNow 1 = .ok (.istore_n 2, 1) := by decide +kernel
theorem dX7_manyNow_2 : decode cX7_manyNow 2 = .ok (.iconst 0, 1) := by decide +kernel
theorem dX7_manyNow_3 : decode cX7_manyNow 3 = .ok (.istore_n 3, 1) := by decide +kernel
theorem dX7_manyNow_4 : decode cX7_manyNow 4 = .ok (.iconst 0, 1) := by decide +kernel
theorem dX7_manyNow_5 : decode cX7_manyNow 5 = .ok (.istore 4, 2) := by decide +kernel
theorem dX7_manyNow_7 : decode cX7_manyNow 7 = .ok (.iconst 0, 1) := by decide +kernel
theorem dX7_manyNow_8 : decode cX7_manyNow 8 = .ok (.istore 5, 2) := by decide +kernel
theorem dX7_manyNow_10 : decode cX7_manyNow 10 = .ok (.iconst 0, 1) := by decide +kernel
theorem dX7_manyNow_11 : decode cX7_manyNow 11 = .ok (.istore 6, 2) := by decide +kernel
theorem dX7_manyNow_13 : decode cX7_manyNow 13 = .ok (.iload 6, 2) := by decide +kernel
theorem dX7_manyNow_15 : decode cX7_manyNow 15 = .ok (.aload_n 0, 1) := by decide +kernel
theorem dX7_manyNow_16 : decode cX7_manyNow 16 = .ok (.getfield 79, 3) := by decide +kernel
theorem dX7_manyNow_19 : decode cX7_manyNow 19 = .ok (.if_icmp .ge 52, 3) := by decide +kernel
theorem dX7_manyNow_22 : decode cX7_manyNow 22 = .ok (.iload_n 2, 1) := by decide +kernel
theorem dX7_manyNow_23 : decode cX7_manyNow 23 = .ok (.aload_n 0, 1) := by decide +kernel
theorem dX7_manyNow_24 : decode cX7_manyNow 24 = .ok (.getfield 11, 3) := by decide +kernel
theorem dX7_manyNow_27 : decode cX7_manyNow 27 = .ok (.iload 6, 2) := by decide +kernel
theorem dX7_manyNow_29 : decode cX7_manyNow 29 = .ok (.aaload, 1) := by decide +kernel
theorem dX7_manyNow_30 : decode cX7_manyNow 30 = .ok (.iconst 5, 1) := by decide +kernel
theorem dX7_manyNow_31 : decode cX7_manyNow 31 = .ok (.iaload, 1) := by decide +kernel
theorem dX7_manyNow_32 : decode cX7_manyNow 32 = .ok (.iadd, 1) := by decide +kernel
theorem dX7_manyNow_33 : decode cX7_manyNow 33 = .ok (.istore_n 2, 1) := by decide +kernel
theorem dX7_manyNow_34 : decode cX7_manyNow 34 = .ok (.iload_n 3, 1) := by decide +kernel
theorem dX7_manyNow_35 : decode cX7_manyNow 35 = .ok (.aload_n 0, 1) := by decide +kernel
theorem dX7_manyNow_36 : decode cX7_manyNow 36 = .ok (.iload 6, 2) := by decide +kernel
theorem dX7_manyNow_38 : decode cX7_manyNow 38 = .ok (.invokevirtual 164, 3) := by decide +kernel
theorem dX7_manyNow_41 : decode cX7_manyNow 41 = .ok (.ifCond .eq 7, 3) := by decide +kernel
theorem dX7_manyNow_44 : decode cX7_manyNow 44 = .ok (.iconst 1, 1) := by decide +kernel
theorem dX7_manyNow_45 : decode cX7_manyNow 45 = .ok (.goto 4, 3) := by decide +kernel
theorem dX7_manyNow_48 : decode cX7_manyNow 48 = .ok (.iconst 0, 1) := by decide +kernel
theorem dX7_manyNow_49 : decode cX7_manyNow 49 = .ok (.iadd, 1) := by decide +kernel
theorem dX7_manyNow_50 : decode cX7_manyNow 50 = .ok (.istore_n 3, 1) := by decide +kernel
theorem dX7_manyNow_51 : decode cX7_manyNow 51 = .ok (.iload 4, 2) := by decide +kernel
theorem dX7_manyNow_53 : decode cX7_manyNow 53 = .ok (.aload_n 0, 1) := by decide +kernel
theorem dX7_manyNow_54 : decode cX7_manyNow 54 = .ok (.getfield 14, 3) := by decide +kernel
theorem dX7_manyNow_57 : decode cX7_manyNow 57 = .ok (.iload 6, 2) := by decide +kernel
theorem dX7_manyNow_59 : decode cX7_manyNow 59 = .ok (.aaload, 1) := by decide +kernel
theorem dX7_manyNow_60 : decode cX7_manyNow 60 = .ok (.iconst 0, 1) := by decide +kernel
theorem dX7_manyNow_61 : decode cX7_manyNow 61 = .ok (.iaload, 1) := by decide +kernel
theorem dX7_manyNow_62 : decode cX7_manyNow 62 = .ok (.iadd, 1) := by decide +kernel
theorem dX7_manyNow_63 : decode cX7_manyNow 63 = .ok (.istore 4, 2) := by decide +kernel
theorem dX7_manyNow_65 : decode cX7_manyNow 65 = .ok (.iinc 6 1, 3) := by decide +kernel
theorem dX7_manyNow_68 : decode cX7_manyNow 68 = .ok (.goto (-55), 3) := by decide +kernel
theorem dX7_manyNow_71 : decode cX7_manyNow 71 = .ok (.iconst 0, 1) := by decide +kernel
theorem dX7_manyNow_72 : decode cX7_manyNow 72 = .ok (.istore 6, 2) := by decide +kernel
theorem dX7_manyNow_74 : decode cX7_manyNow 74 = .ok (.iload 6, 2) := by decide +kernel
theorem dX7_manyNow_76 : decode cX7_manyNow 76 = .ok (.aload_n 0, 1) := by decide +kernel
theorem dX7_manyNow_77 : decode cX7_manyNow 77 = .ok (.getfield 92, 3) := by decide +kernel
theorem dX7_manyNow_80 : decode cX7_manyNow 80 = .ok (.if_icmp .ge 24, 3) := by decide +kernel
theorem dX7_manyNow_83 : decode cX7_manyNow 83 = .ok (.iload 5, 2) := by decide +kernel
theorem dX7_manyNow_85 : decode cX7_manyNow 85 = .ok (.aload_n 0, 1) := by decide +kernel
theorem dX7_manyNow_86 : decode cX7_manyNow 86 = .ok (.getfield 20, 3) := by decide +kernel
theorem dX7_manyNow_89 : decode cX7_manyNow 89 = .ok (.iload 6, 2) := by decide +kernel
theorem dX7_manyNow_91 : decode cX7_manyNow 91 = .ok (.aaload, 1) := by decide +kernel
theorem dX7_manyNow_92 : decode cX7_manyNow 92 = .ok (.bipush 18, 2) := by decide +kernel
theorem dX7_manyNow_94 : decode cX7_manyNow 94 = .ok (.iaload, 1) := by decide +kernel
theorem dX7_manyNow_95 : decode cX7_manyNow 95 = .ok (.iadd, 1) := by decide +kernel
theorem dX7_manyNow_96 : decode cX7_manyNow 96 = .ok (.istore 5, 2) := by decide +kernel
theorem dX7_manyNow_98 : decode cX7_manyNow 98 = .ok (.iinc 6 1, 3) := by decide +kernel
theorem dX7_manyNow_101 : decode cX7_manyNow 101 = .ok (.goto (-27), 3) := by decide +kernel
theorem dX7_manyNow_104 : decode cX7_manyNow 104 = .ok (.bipush 9, 2) := by decide +kernel
theorem dX7_manyNow_106 : decode cX7_manyNow 106 = .ok (.newarray .int, 2) := by decide +kernel
theorem dX7_manyNow_108 : decode cX7_manyNow 108 = .ok (.dup, 1) := by decide +kernel
theorem dX7_manyNow_109 : decode cX7_manyNow 109 = .ok (.iconst 0, 1) := by decide +kernel
theorem dX7_manyNow_110 : decode cX7_manyNow 110 = .ok (.aload_n 0, 1) := by decide +kernel
theorem dX7_manyNow_111 : decode cX7_manyNow 111 = .ok (.getfield 64, 3) := by decide +kernel
theorem dX7_manyNow_114 : decode cX7_manyNow 114 = .ok (.iastore, 1) := by decide +kernel
theorem dX7_manyNow_115 : decode cX7_manyNow 115 = .ok (.dup, 1) := by decide +kernel
theorem dX7_manyNow_116 : decode cX7_manyNow 116 = .ok (.iconst 1, 1) := by decide +kernel
theorem dX7_manyNow_117 : decode cX7_manyNow 117 = .ok (.aload_n 0, 1) := by decide +kernel
theorem dX7_manyNow_118 : decode cX7_manyNow 118 = .ok (.getfield 79, 3) := by decide +kernel
theorem dX7_manyNow_121 : decode cX7_manyNow 121 = .ok (.iastore, 1) := by decide +kernel
theorem dX7_manyNow_122 : decode cX7_manyNow 122 = .ok (.dup, 1) := by decide +kernel
theorem dX7_manyNow_123 : decode cX7_manyNow 123 = .ok (.iconst 2, 1) := by decide +kernel
theorem dX7_manyNow_124 : decode cX7_manyNow 124 = .ok (.aload_n 0, 1) := by decide +kernel
theorem dX7_manyNow_125 : decode cX7_manyNow 125 = .ok (.getfield 89, 3) := by decide +kernel
theorem dX7_manyNow_128 : decode cX7_manyNow 128 = .ok (.iastore, 1) := by decide +kernel
theorem dX7_manyNow_129 : decode cX7_manyNow 129 = .ok (.dup, 1) := by decide +kernel
theorem dX7_manyNow_130 : decode cX7_manyNow 130 = .ok (.iconst 3, 1) := by decide +kernel
theorem dX7_manyNow_131 : decode cX7_manyNow 131 = .ok (.aload_n 0, 1) := by decide +kernel
theorem dX7_manyNow_132 : decode cX7_manyNow 132 = .ok (.getfield 92, 3) := by decide +kernel
theorem dX7_manyNow_135 : decode cX7_manyNow 135 = .ok (.iastore, 1) := by decide +kernel
theorem dX7_manyNow_136 : decode cX7_manyNow 136 = .ok (.dup, 1) := by decide +kernel
theorem dX7_manyNow_137 : decode cX7_manyNow 137 = .ok (.iconst 4, 1) := by decide +kernel
theorem dX7_manyNow_138 : decode cX7_manyNow 138 = .ok (.iload_n 2, 1) := by decide +kernel
theorem dX7_manyNow_139 : decode cX7_manyNow 139 = .ok (.iastore, 1) := by decide +kernel
theorem dX7_manyNow_140 : decode cX7_manyNow 140 = .ok (.dup, 1) := by decide +kernel
theorem dX7_manyNow_141 : decode cX7_manyNow 141 = .ok (.iconst 5, 1) := by decide +kernel
theorem dX7_manyNow_142 : decode cX7_manyNow 142 = .ok (.iload_n 3, 1) := by decide +kernel
theorem dX7_manyNow_143 : decode cX7_manyNow 143 = .ok (.iastore, 1) := by decide +kernel
theorem dX7_manyNow_144 : decode cX7_manyNow 144 = .ok (.dup, 1) := by decide +kernel
theorem dX7_manyNow_145 : decode cX7_manyNow 145 = .ok (.bipush 6, 2) := by decide +kernel
theorem dX7_manyNow_147 : decode cX7_manyNow 147 = .ok (.iload 4, 2) := by decide +kernel
theorem dX7_manyNow_149 : decode cX7_manyNow 149 = .ok (.iastore, 1) := by decide +kernel
theorem dX7_manyNow_150 : decode cX7_manyNow 150 = .ok (.dup, 1) := by decide +kernel
theorem dX7_manyNow_151 : decode cX7_manyNow 151 = .ok (.bipush 7, 2) := by decide +kernel
theorem dX7_manyNow_153 : decode cX7_manyNow 153 = .ok (.aload_n 0, 1) := by decide +kernel
theorem dX7_manyNow_154 : decode cX7_manyNow 154 = .ok (.getfield 192, 3) := by decide +kernel
theorem dX7_manyNow_157 : decode cX7_manyNow 157 = .ok (.iastore, 1) := by decide +kernel
theorem dX7_manyNow_158 : decode cX7_manyNow 158 = .ok (.dup, 1) := by decide +kernel
theorem dX7_manyNow_159 : decode cX7_manyNow 159 = .ok (.bipush 8, 2) := by decide +kernel
theorem dX7_manyNow_161 : decode cX7_manyNow 161 = .ok (.iload 5, 2) := by decide +kernel
theorem dX7_manyNow_163 : decode cX7_manyNow 163 = .ok (.iastore, 1) := by decide +kernel
theorem dX7_manyNow_164 : decode cX7_manyNow 164 = .ok (.astore 6, 2) := by decide +kernel
theorem dX7_manyNow_166 : decode cX7_manyNow 166 = .ok (.aload 6, 2) := by decide +kernel
theorem dX7_manyNow_168 : decode cX7_manyNow 168 = .ok (.iload_n 1, 1) := by decide +kernel
theorem dX7_manyNow_169 : decode cX7_manyNow 169 = .ok (.iaload, 1) := by decide +kernel
theorem dX7_manyNow_170 : decode cX7_manyNow 170 = .ok (.ireturn, 1) := by decide +kernel
theorem dX7_many_0 : decode cX7_many 0 = .ok (.aload_n 0, 1) := by decide +kernel
theorem dX7_many_1 : decode cX7_many 1 = .ok (.iconst 0, 1) := by decide +kernel
theorem dX7_many_2 : decode cX7_many 2 = .ok (.putfield 41, 3) := by decide +kernel
theorem dX7_many_5 : decode cX7_many 5 = .ok (.iload_n 1, 1) := by decide +kernel
theorem dX7_many_6 : decode cX7_many 6 = .ok (.iconst 0, 1) := by decide +kernel
theorem dX7_many_7 : decode cX7_many 7 = .ok (.bipush 8, 2) := by decide +kernel
theorem dX7_many_9 : decode cX7_many 9 = .ok (.invokestatic 86, 3) := by decide +kernel
theorem dX7_many_12 : decode cX7_many 12 = .ok (.ifCond .eq 11, 3) := by decide +kernel
theorem dX7_many_15 : decode cX7_many 15 = .ok (.aload_n 0, 1) := by decide +kernel
theorem dX7_many_16 : decode cX7_many 16 = .ok (.iload_n 1, 1) := by decide +kernel
theorem dX7_many_17 : decode cX7_many 17 = .ok (.invokevirtual 217, 3) := by decide +kernel
theorem dX7_many_20 : decode cX7_many 20 = .ok (.goto 8, 3) := by decide +kernel
theorem dX7_many_23 : decode cX7_many 23 = .ok (.aload_n 0, 1) := by decide +kernel
theorem dX7_many_24 : decode cX7_many 24 = .ok (.iconst 1, 1) := by decide +kernel
theorem dX7_many_25 : decode cX7_many 25 = .ok (.invokevirtual 95, 3) := by decide +kernel
theorem dX7_many_28 : decode cX7_many 28 = .ok (.ireturn, 1) := by decide +kernel
theorem dX7_meanError_0 : decode cX7_meanError 0 = .ok (.aload_n 0, 1) := by decide +kernel
theorem dX7_meanError_1 : decode cX7_meanError 1 = .ok (.aload_n 0, 1) := by decide +kernel
theorem dX7_meanError_2 : decode cX7_meanError 2 = .ok (.iload_n 1, 1) := by decide +kernel
theorem dX7_meanError_3 : decode cX7_meanError 3 = .ok (.invokevirtual 115, 3) := by decide +kernel
theorem dX7_meanError_6 : decode cX7_meanError 6 = .ok (.ifCond .eq 7, 3) := by decide +kernel
theorem dX7_meanError_9 : decode cX7_meanError 9 = .ok (.iconst 0, 1) := by decide +kernel
theorem dX7_meanError_10 : decode cX7_meanError 10 = .ok (.goto 4, 3) := by decide +kernel
theorem dX7_meanError_13 : decode cX7_meanError 13 = .ok (.iconst 1, 1) := by decide +kernel
theorem dX7_meanError_14 : decode cX7_meanError 14 = .ok (.putfield 41, 3) := by decide +kernel
theorem dX7_meanError_17 : decode cX7_meanError 17 = .ok (.aload_n 0, 1) := by decide +kernel
theorem dX7_meanError_18 : decode cX7_meanError 18 = .ok (.getfield 41, 3) := by decide +kernel
theorem dX7_meanError_21 : decode cX7_meanError 21 = .ok (.ifCond .gt 15, 3) := by decide +kernel
theorem dX7_meanError_24 : decode cX7_meanError 24 = .ok (.aload_n 0, 1) := by decide +kernel
theorem dX7_meanError_25 : decode cX7_meanError 25 = .ok (.getfield 20, 3) := by decide +kernel
theorem dX7_meanError_28 : decode cX7_meanError 28 = .ok (.iload_n 1, 1) := by decide +kernel
theorem dX7_meanError_29 : decode cX7_meanError 29 = .ok (.aaload, 1) := by decide +kernel
theorem dX7_meanError_30 : decode cX7_meanError 30 = .ok (.bipush 20, 2) := by decide +kernel
theorem dX7_meanError_32 : decode cX7_meanError 32 = .ok (.iaload, 1) := by decide +kernel
theorem dX7_meanError_33 : decode cX7_meanError 33 = .ok (.ifCond .ne 5, 3) := by decide +kernel
theorem dX7_meanError_36 : decode cX7_meanError 36 = .ok (.dconst 0, 1) := by decide +kernel
theorem dX7_meanError_37 : decode cX7_meanError 37 = .ok (.dreturn, 1) := by decide +kernel
theorem dX7_meanError_38 : decode cX7_meanError 38 = .ok (.aload_n 0, 1) := by decide +kernel
theorem dX7_meanError_39 : decode cX7_meanError 39 = .ok (.getfield 20, 3) := by decide +kernel
theorem dX7_meanError_42 : decode cX7_meanError 42 = .ok (.iload_n 1, 1) := by decide +kernel
theorem dX7_meanError_43 : decode cX7_meanError 43 = .ok (.aaload, 1) := by decide +kernel
theorem dX7_meanError_44 : decode cX7_meanError 44 = .ok (.bipush 21, 2) := by decide +kernel
theorem dX7_meanError_46 : decode cX7_meanError 46 = .ok (.iaload, 1) := by decide +kernel
theorem dX7_meanError_47 : decode cX7_meanError 47 = .ok (.i2d, 1) := by decide +kernel
theorem dX7_meanError_48 : decode cX7_meanError 48 = .ok (.aload_n 0, 1) := by decide +kernel
theorem dX7_meanError_49 : decode cX7_meanError 49 = .ok (.getfield 20, 3) := by decide +kernel
theorem dX7_meanError_52 : decode cX7_meanError 52 = .ok (.iload_n 1, 1) := by decide +kernel
theorem dX7_meanError_53 : decode cX7_meanError 53 = .ok (.aaload, 1) := by decide +kernel
theorem dX7_meanError_54 : decode cX7_meanError 54 = .ok (.bipush 20, 2) := by decide +kernel
theorem dX7_meanError_56 : decode cX7_meanError 56 = .ok (.iaload, 1) := by decide +kernel
theorem dX7_meanError_57 : decode cX7_meanError 57 = .ok (.i2d, 1) := by decide +kernel
theorem dX7_meanError_58 : decode cX7_meanError 58 = .ok (.ddiv, 1) := by decide +kernel
theorem dX7_meanError_59 : decode cX7_meanError 59 = .ok (.dreturn, 1) := by decide +kernel
theorem dX7_wouldSee_0 : decode cX7_wouldSee 0 = .ok (.aload_n 0, 1) := by decide +kernel
theorem dX7_wouldSee_1 : decode cX7_wouldSee 1 = .ok (.iconst 0, 1) := by decide +kernel
theorem dX7_wouldSee_2 : decode cX7_wouldSee 2 = .ok (.putfield 41, 3) := by decide +kernel
theorem dX7_wouldSee_5 : decode cX7_wouldSee 5 = .ok (.aload_n 0, 1) := by decide +kernel
theorem dX7_wouldSee_6 : decode cX7_wouldSee 6 = .ok (.iload_n 1, 1) := by decide +kernel
theorem dX7_wouldSee_7 : decode cX7_wouldSee 7 = .ok (.invokevirtual 115, 3) := by decide +kernel
theorem dX7_wouldSee_10 : decode cX7_wouldSee 10 = .ok (.ifCond .ne 9, 3) := by decide +kernel
theorem dX7_wouldSee_13 : decode cX7_wouldSee 13 = .ok (.aload_n 0, 1) := by decide +kernel
theorem dX7_wouldSee_14 : decode cX7_wouldSee 14 = .ok (.iconst 1, 1) := by decide +kernel
theorem dX7_wouldSee_15 : decode cX7_wouldSee 15 = .ok (.invokevirtual 95, 3) := by decide +kernel
theorem dX7_wouldSee_18 : decode cX7_wouldSee 18 = .ok (.ireturn, 1) := by decide +kernel
theorem dX7_wouldSee_19 : decode cX7_wouldSee 19 = .ok (.iload_n 2, 1) := by decide +kernel
theorem dX7_wouldSee_20 : decode cX7_wouldSee 20 = .ok (.iconst 0, 1) := by decide +kernel
theorem dX7_wouldSee_21 : decode cX7_wouldSee 21 = .ok (.bipush 48, 2) := by decide +kernel
theorem dX7_wouldSee_23 : decode cX7_wouldSee 23 = .ok (.invokestatic 86, 3) := by decide +kernel
theorem dX7_wouldSee_26 : decode cX7_wouldSee 26 = .ok (.ifCond .eq 12, 3) := by decide +kernel
theorem dX7_wouldSee_29 : decode cX7_wouldSee 29 = .ok (.aload_n 0, 1) := by decide +kernel
theorem dX7_wouldSee_30 : decode cX7_wouldSee 30 = .ok (.iload_n 1, 1) := by decide +kernel
theorem dX7_wouldSee_31 : decode cX7_wouldSee 31 = .ok (.iload_n 2, 1) := by decide +kernel
theorem dX7_wouldSee_32 : decode cX7_wouldSee 32 = .ok (.invokevirtual 122, 3) := by decide +kernel
theorem dX7_wouldSee_35 : decode cX7_wouldSee 35 = .ok (.goto 8, 3) := by decide +kernel
theorem dX7_wouldSee_38 : decode cX7_wouldSee 38 = .ok (.aload_n 0, 1) := by decide +kernel
theorem dX7_wouldSee_39 : decode cX7_wouldSee 39 = .ok (.iconst 2, 1) := by decide +kernel
theorem dX7_wouldSee_40 : decode cX7_wouldSee 40 = .ok (.invokevirtual 95, 3) := by decide +kernel
theorem dX7_wouldSee_43 : decode cX7_wouldSee 43 = .ok (.ireturn, 1) := by decide +kernel
theorem dX7_heardNow_0 : decode cX7_heardNow 0 = .ok (.iconst 0, 1) := by decide +kernel
theorem dX7_heardNow_1 : decode cX7_heardNow 1 = .ok (.istore_n 3, 1) := by decide +kernel
theorem dX7_heardNow_2 : decode cX7_heardNow 2 = .ok (.iload_n 3, 1) := by decide +kernel
theorem dX7_heardNow_3 : decode cX7_heardNow 3 = .ok (.bipush 48, 2) := by decide +kernel
theorem dX7_heardNow_5 : decode cX7_heardNow 5 = .ok (.if_icmp .gt 21, 3) := by decide +kernel
theorem dX7_heardNow_8 : decode cX7_heardNow 8 = .ok (.aload_n 0, 1) := by decide +kernel
theorem dX7_heardNow_9 : decode cX7_heardNow 9 = .ok (.iload_n 1, 1) := by decide +kernel
theorem dX7_heardNow_10 : decode cX7_heardNow 10 = .ok (.iload_n 2, 1) := by decide +kernel
theorem dX7_heardNow_11 : decode cX7_heardNow 11 = .ok (.iload_n 3, 1) := by decide +kernel
theorem dX7_heardNow_12 : decode cX7_heardNow 12 = .ok (.invokevirtual 108, 3) := by decide +kernel
theorem dX7_heardNow_15 : decode cX7_heardNow 15 = .ok (.ifCond .eq 5, 3) := by decide +kernel
theorem dX7_heardNow_18 : decode cX7_heardNow 18 = .ok (.iload_n 3, 1) := by decide +kernel
theorem dX7_heardNow_19 : decode cX7_heardNow 19 = .ok (.ireturn, 1) := by decide +kernel
theorem dX7_heardNow_20 : decode cX7_heardNow 20 = .ok (.iinc 3 1, 3) := by decide +kernel
theorem dX7_heardNow_23 : decode cX7_heardNow 23 = .ok (.goto (-21), 3) := by decide +kernel
theorem dX7_heardNow_26 : decode cX7_heardNow 26 = .ok (.iconst (-1), 1) := by decide +kernel
theorem dX7_heardNow_27 : decode cX7_heardNow 27 = .ok (.ireturn, 1) := by decide +kernel
theorem dX7_heardIn_0 : decode cX7_heardIn 0 = .ok (.aload_n 0, 1) := by decide +kernel
theorem dX7_heardIn_1 : decode cX7_heardIn 1 = .ok (.iconst 0, 1) := by decide +kernel
theorem dX7_heardIn_2 : decode cX7_heardIn 2 = .ok (.putfield 41, 3) := by decide +kernel
theorem dX7_heardIn_5 : decode cX7_heardIn 5 = .ok (.aload_n 0, 1) := by decide +kernel
theorem dX7_heardIn_6 : decode cX7_heardIn 6 = .ok (.iload_n 1, 1) := by decide +kernel
theorem dX7_heardIn_7 : decode cX7_heardIn 7 = .ok (.invokevirtual 98, 3) := by decide +kernel
theorem dX7_heardIn_10 : decode cX7_heardIn 10 = .ok (.ifCond .eq 20, 3) := by decide +kernel
theorem dX7_heardIn_13 : decode cX7_heardIn 13 = .ok (.aload_n 0, 1) := by decide +kernel
theorem dX7_heardIn_14 : decode cX7_heardIn 14 = .ok (.iload_n 2, 1) := by decide +kernel
theorem dX7_heardIn_15 : decode cX7_heardIn 15 = .ok (.invokevirtual 105, 3) := by decide +kernel
theorem dX7_heardIn_18 : decode cX7_heardIn 18 = .ok (.ifCond .eq 12, 3) := by decide +kernel
theorem dX7_heardIn_21 : decode cX7_heardIn 21 = .ok (.aload_n 0, 1) := by decide +kernel
theorem dX7_heardIn_22 : decode cX7_heardIn 22 = .ok (.iload_n 1, 1) := by decide +kernel
theorem dX7_heardIn_23 : decode cX7_heardIn 23 = .ok (.iload_n 2, 1) := by decide +kernel
theorem dX7_heardIn_24 : decode cX7_heardIn 24 = .ok (.invokevirtual 220, 3) := by decide +kernel
theorem dX7_heardIn_27 : decode cX7_heardIn 27 = .ok (.goto 8, 3) := by decide +kernel
theorem dX7_heardIn_30 : decode cX7_heardIn 30 = .ok (.aload_n 0, 1) := by decide +kernel
theorem dX7_heardIn_31 : decode cX7_heardIn 31 = .ok (.iconst 1, 1) := by decide +kernel
theorem dX7_heardIn_32 : decode cX7_heardIn 32 = .ok (.invokevirtual 95, 3) := by decide +kernel
theorem dX7_heardIn_35 : decode cX7_heardIn 35 = .ok (.ireturn, 1) := by decide +kernel
theorem dX7_without_0 : decode cX7_without 0 = .ok (.aload_n 0, 1) := by decide +kernel
theorem dX7_without_1 : decode cX7_without 1 = .ok (.iconst 0, 1) := by decide +kernel
theorem dX7_without_2 : decode cX7_without 2 = .ok (.putfield 41, 3) := by decide +kernel
theorem dX7_without_5 : decode cX7_without 5 = .ok (.aload_n 0, 1) := by decide +kernel
theorem dX7_without_6 : decode cX7_without 6 = .ok (.iload_n 1, 1) := by decide +kernel
theorem dX7_without_7 : decode cX7_without 7 = .ok (.invokevirtual 115, 3) := by decide +kernel
theorem dX7_without_10 : decode cX7_without 10 = .ok (.ifCond .eq 11, 3) := by decide +kernel
theorem dX7_without_13 : decode cX7_without 13 = .ok (.aload_n 0, 1) := by decide +kernel
theorem dX7_without_14 : decode cX7_without 14 = .ok (.iload_n 2, 1) := by decide +kernel
theorem dX7_without_15 : decode cX7_without 15 = .ok (.invokevirtual 98, 3) := by decide +kernel
theorem dX7_without_18 : decode cX7_without 18 = .ok (.ifCond .ne 9, 3) := by decide +kernel
theorem dX7_without_21 : decode cX7_without 21 = .ok (.aload_n 0, 1) := by decide +kernel
theorem dX7_without_22 : decode cX7_without 22 = .ok (.iconst 1, 1) := by decide +kernel
theorem dX7_without_23 : decode cX7_without 23 = .ok (.invokevirtual 95, 3) := by decide +kernel
theorem dX7_without_26 : decode cX7_without 26 = .ok (.ireturn, 1) := by decide +kernel
theorem dX7_without_27 : decode cX7_without 27 = .ok (.aload_n 0, 1) := by decide +kernel
theorem dX7_without_28 : decode cX7_without 28 = .ok (.iload_n 1, 1) := by decide +kernel
theorem dX7_without_29 : decode cX7_without 29 = .ok (.iconst 0, 1) := by decide +kernel
theorem dX7_without_30 : decode cX7_without 30 = .ok (.iload_n 2, 1) := by decide +kernel
theorem dX7_without_31 : decode cX7_without 31 = .ok (.invokevirtual 188, 3) := by decide +kernel
theorem dX7_without_34 : decode cX7_without 34 = .ok (.iconst 3, 1) := by decide +kernel
theorem dX7_without_35 : decode cX7_without 35 = .ok (.if_icmp .ge 5, 3) := by decide +kernel
theorem dX7_without_38 : decode cX7_without 38 = .ok (.iconst (-1), 1) := by decide +kernel
theorem dX7_without_39 : decode cX7_without 39 = .ok (.ireturn, 1) := by decide +kernel
theorem dX7_without_40 : decode cX7_without 40 = .ok (.aload_n 0, 1) := by decide +kernel
theorem dX7_without_41 : decode cX7_without 41 = .ok (.invokevirtual 179, 3) := by decide +kernel
theorem dX7_without_44 : decode cX7_without 44 = .ok (.bipush 100, 2) := by decide +kernel
theorem dX7_without_46 : decode cX7_without 46 = .ok (.aload_n 0, 1) := by decide +kernel
theorem dX7_without_47 : decode cX7_without 47 = .ok (.getfield 155, 3) := by decide +kernel
theorem dX7_without_50 : decode cX7_without 50 = .ok (.bipush 12, 2) := by decide +kernel
theorem dX7_without_52 : decode cX7_without 52 = .ok (.iadd, 1) := by decide +kernel
theorem dX7_without_53 : decode cX7_without 53 = .ok (.imul, 1) := by decide +kernel
theorem dX7_without_54 : decode cX7_without 54 = .ok (.aload_n 0, 1) := by decide +kernel
theorem dX7_without_55 : decode cX7_without 55 = .ok (.getfield 158, 3) := by decide +kernel
theorem dX7_without_58 : decode cX7_without 58 = .ok (.iadd, 1) := by decide +kernel
theorem dX7_without_59 : decode cX7_without 59 = .ok (.ireturn, 1) := by decide +kernel
theorem dX7_alarmNow_0 : decode cX7_alarmNow 0 = .ok (.aload_n 0, 1) := by decide +kernel
theorem dX7_alarmNow_1 : decode cX7_alarmNow 1 = .ok (.iload_n 1, 1) := by decide +kernel
theorem dX7_alarmNow_2 : decode cX7_alarmNow 2 = .ok (.iconst 0, 1) := by decide +kernel
theorem dX7_alarmNow_3 : decode cX7_alarmNow 3 = .ok (.iconst (-1), 1) := by decide +kernel
theorem dX7_alarmNow_4 : decode cX7_alarmNow 4 = .ok (.invokevirtual 188, 3) := by decide +kernel
theorem dX7_alarmNow_7 : decode cX7_alarmNow 7 = .ok (.istore_n 2, 1) := by decide +kernel
theorem dX7_alarmNow_8 : decode cX7_alarmNow 8 = .ok (.iload_n 2, 1) := by decide +kernel
theorem dX7_alarmNow_9 : decode cX7_alarmNow 9 = .ok (.iconst 4, 1) := by decide +kernel
theorem dX7_alarmNow_10 : decode cX7_alarmNow 10 = .ok (.if_icmp .ge 5, 3) := by decide +kernel
theorem dX7_alarmNow_13 : decode cX7_alarmNow 13 = .ok (.iconst 1, 1) := by decide +kernel
theorem dX7_alarmNow_14 : decode cX7_alarmNow 14 = .ok (.ireturn, 1) := by decide +kernel
theorem dX7_alarmNow_15 : decode cX7_alarmNow 15 = .ok (.aload_n 0, 1) := by decide +kernel
theorem dX7_alarmNow_16 : decode cX7_alarmNow 16 = .ok (.invokevirtual 179, 3) := by decide +kernel
theorem dX7_alarmNow_19 : decode cX7_alarmNow 19 = .ok (.aload_n 0, 1) := by decide +kernel
theorem dX7_alarmNow_20 : decode cX7_alarmNow 20 = .ok (.iload_n 1, 1) := by decide +kernel
theorem dX7_alarmNow_21 : decode cX7_alarmNow 21 = .ok (.iload_n 2, 1) := by decide +kernel
theorem dX7_alarmNow_22 : decode cX7_alarmNow 22 = .ok (.aload_n 0, 1) := by decide +kernel
theorem dX7_alarmNow_23 : decode cX7_alarmNow 23 = .ok (.iload_n 2, 1) := by decide +kernel
theorem dX7_alarmNow_24 : decode cX7_alarmNow 24 = .ok (.invokevirtual 199, 3) := by decide +kernel
theorem dX7_alarmNow_27 : decode cX7_alarmNow 27 = .ok (.invokevirtual 202, 3) := by decide +kernel
theorem dX7_alarmNow_30 : decode cX7_alarmNow 30 = .ok (.ireturn, 1) := by decide +kernel
theorem dX7_wouldAlarm_0 : decode cX7_wouldAlarm 0 = .ok (.aload_n 0, 1) := by decide +kernel
theorem dX7_wouldAlarm_1 : decode cX7_wouldAlarm 1 = .ok (.iconst 0, 1) := by decide +kernel
theorem dX7_wouldAlarm_2 : decode cX7_wouldAlarm 2 = .ok (.putfield 41, 3) := by decide +kernel
theorem dX7_wouldAlarm_5 : decode cX7_wouldAlarm 5 = .ok (.aload_n 0, 1) := by decide +kernel
theorem dX7_wouldAlarm_6 : decode cX7_wouldAlarm 6 = .ok (.iload_n 1, 1) := by decide +kernel
theorem dX7_wouldAlarm_7 : decode cX7_wouldAlarm 7 = .ok (.invokevirtual 115, 3) := by decide +kernel
theorem dX7_wouldAlarm_10 : decode cX7_wouldAlarm 10 = .ok (.ifCond .eq 11, 3) := by decide +kernel
theorem dX7_wouldAlarm_13 : decode cX7_wouldAlarm 13 = .ok (.aload_n 0, 1) := by decide +kernel
theorem dX7_wouldAlarm_14 : decode cX7_wouldAlarm 14 = .ok (.iload_n 1, 1) := by decide +kernel
theorem dX7_wouldAlarm_15 : decode cX7_wouldAlarm 15 = .ok (.invokevirtual 223, 3) := by decide +kernel
theorem dX7_wouldAlarm_18 : decode cX7_wouldAlarm 18 = .ok (.goto 8, 3) := by decide +kernel
theorem dX7_wouldAlarm_21 : decode cX7_wouldAlarm 21 = .ok (.aload_n 0, 1) := by decide +kernel
theorem dX7_wouldAlarm_22 : decode cX7_wouldAlarm 22 = .ok (.iconst 1, 1) := by decide +kernel
theorem dX7_wouldAlarm_23 : decode cX7_wouldAlarm 23 = .ok (.invokevirtual 95, 3) := by decide +kernel
theorem dX7_wouldAlarm_26 : decode cX7_wouldAlarm 26 = .ok (.ireturn, 1) := by decide +kernel
theorem dX7_add_0 : decode cX7_add 0 = .ok (.aload_n 0, 1) := by decide +kernel
theorem dX7_add_1 : decode cX7_add 1 = .ok (.aload_n 0, 1) := by decide +kernel
theorem dX7_add_2 : decode cX7_add 2 = .ok (.getfield 226, 3) := by decide +kernel
theorem dX7_add_5 : decode cX7_add 5 = .ok (.ldc2_w 229, 3) := by decide +kernel
theorem dX7_add_8 : decode cX7_add 8 = .ok (.lmul, 1) := by decide +kernel
theorem dX7_add_9 : decode cX7_add 9 = .ok (.iload_n 1, 1) := by decide +kernel
theorem dX7_add_10 : decode cX7_add 10 = .ok (.i2l, 1) := by decide +kernel
theorem dX7_add_11 : decode cX7_add 11 = .ok (.ladd, 1) := by decide +kernel
theorem dX7_add_12 : decode cX7_add 12 = .ok (.putfield 226, 3) := by decide +kernel
theorem dX7_add_15 : decode cX7_add 15 = .ok (.return_, 1) := by decide +kernel
theorem dX7_digest_0 : decode cX7_digest 0 = .ok (.aload_n 0, 1) := by decide +kernel
theorem dX7_digest_1 : decode cX7_digest 1 = .ok (.iconst 0, 1) := by decide +kernel
theorem dX7_digest_2 : decode cX7_digest 2 = .ok (.putfield 41, 3) := by decide +kernel
theorem dX7_digest_5 : decode cX7_digest 5 = .ok (.aload_n 0, 1) := by decide +kernel
theorem dX7_digest_6 : decode cX7_digest 6 = .ok (.ldc2_w 231, 3) := by decide +kernel
theorem dX7_digest_9 : decode cX7_digest 9 = .ok (.putfield 226, 3) := by decide +kernel
theorem dX7_digest_12 : decode cX7_digest 12 = .ok (.iconst 0, 1) := by decide +kernel
theorem dX7_digest_13 : decode cX7_digest 13 = .ok (.istore_n 1, 1) := by decide +kernel
theorem dX7_digest_14 : decode cX7_digest 14 = .ok (.iload_n 1, 1) := by decide +kernel
theorem dX7_digest_15 : decode cX7_digest 15 = .ok (.bipush 9, 2) := by decide +kernel
theorem dX7_digest_17 : decode cX7_digest 17 = .ok (.if_icmp .ge 18, 3) := by decide +kernel
theorem dX7_digest_20 : decode cX7_digest 20 = .ok (.aload_n 0, 1) := by decide +kernel
theorem dX7_digest_21 : decode cX7_digest 21 = .ok (.aload_n 0, 1) := by decide +kernel
theorem dX7_digest_22 : decode cX7_digest 22 = .ok (.iload_n 1, 1) := by decide +kernel
theorem dX7_digest_23 : decode cX7_digest 23 = .ok (.invokevirtual 217, 3) := by decide +kernel
theorem dX7_digest_26 : decode cX7_digest 26 = .ok (.invokevirtual 233, 3) := by decide +kernel
theorem dX7_digest_29 : decode cX7_digest 29 = .ok (.iinc 1 1, 3) := by decide +kernel
theorem dX7_digest_32 : decode cX7_digest 32 = .ok (.goto (-18), 3) := by decide +kernel
theorem dX7_digest_35 : decode cX7_digest 35 = .ok (.iconst 0, 1) := by decide +kernel
theorem dX7_digest_36 : decode cX7_digest 36 = .ok (.istore_n 1, 1) := by decide +kernel
theorem dX7_digest_37 : decode cX7_digest 37 = .ok (.iload_n 1, 1) := by decide +kernel
theorem dX7_digest_38 : decode cX7_digest 38 = .ok (.aload_n 0, 1) := by decide +kernel
theorem dX7_digest_39 : decode cX7_digest 39 = .ok (.getfield 79, 3) := by decide +kernel
theorem dX7_digest_42 : decode cX7_digest 42 = .ok (.if_icmp .ge 83, 3) := by decide +kernel
theorem dX7_digest_45 : decode cX7_digest 45 = .ok (.iconst 0, 1) := by decide +kernel
theorem dX7_digest_46 : decode cX7_digest 46 = .ok (.istore_n 2, 1) := by decide +kernel
theorem dX7_digest_47 : decode cX7_digest 47 = .ok (.iload_n 2, 1) := by decide +kernel
theorem dX7_digest_48 : decode cX7_digest 48 = .ok (.bipush 8, 2) := by decide +kernel
theorem dX7_digest_50 : decode cX7_digest 50 = .ok (.if_icmp .ge 19, 3) := by decide +kernel
theorem dX7_digest_53 : decode cX7_digest 53 = .ok (.aload_n 0, 1) := by decide +kernel
theorem dX7_digest_54 : decode cX7_digest 54 = .ok (.aload_n 0, 1) := by decide +kernel
theorem dX7_digest_55 : decode cX7_digest 55 = .ok (.iload_n 1, 1) := by decide +kernel
theorem dX7_digest_56 : decode cX7_digest 56 = .ok (.iload_n 2, 1) := by decide +kernel
theorem dX7_digest_57 : decode cX7_digest 57 = .ok (.invokevirtual 205, 3) := by decide +kernel
theorem dX7_digest_60 : decode cX7_digest 60 = .ok (.invokevirtual 233, 3) := by decide +kernel
theorem dX7_digest_63 : decode cX7_digest 63 = .ok (.iinc 2 1, 3) := by decide +kernel
theorem dX7_digest_66 : decode cX7_digest 66 = .ok (.goto (-19), 3) := by decide +kernel
theorem dX7_digest_69 : decode cX7_digest 69 = .ok (.iconst 0, 1) := by decide +kernel
theorem dX7_digest_70 : decode cX7_digest 70 = .ok (.istore_n 2, 1) := by decide +kernel
theorem dX7_digest_71 : decode cX7_digest 71 = .ok (.iload_n 2, 1) := by decide +kernel
theorem dX7_digest_72 : decode cX7_digest 72 = .ok (.bipush 8, 2) := by decide +kernel
theorem dX7_digest_74 : decode cX7_digest 74 = .ok (.if_icmp .ge 19, 3) := by decide +kernel
theorem dX7_digest_77 : decode cX7_digest 77 = .ok (.aload_n 0, 1) := by decide +kernel
theorem dX7_digest_78 : decode cX7_digest 78 = .ok (.aload_n 0, 1) := by decide +kernel
theorem dX7_digest_79 : decode cX7_digest 79 = .ok (.iload_n 1, 1) := by decide +kernel
theorem dX7_digest_80 : decode cX7_digest 80 = .ok (.iload_n 2, 1) := by decide +kernel
theorem dX7_digest_81 : decode cX7_digest 81 = .ok (.invokevirtual 208, 3) := by decide +kernel
theorem dX7_digest_84 : decode cX7_digest 84 = .ok (.invokevirtual 233, 3) := by decide +kernel
theorem dX7_digest_87 : decode cX7_digest 87 = .ok (.iinc 2 1, 3) := by decide +kernel
theorem dX7_digest_90 : decode cX7_digest 90 = .ok (.goto (-19), 3) := by decide +kernel
theorem dX7_digest_93 : decode cX7_digest 93 = .ok (.iconst 0, 1) := by decide +kernel
theorem dX7_digest_94 : decode cX7_digest 94 = .ok (.istore_n 2, 1) := by decide +kernel
theorem dX7_digest_95 : decode cX7_digest 95 = .ok (.iload_n 2, 1) := by decide +kernel
theorem dX7_digest_96 : decode cX7_digest 96 = .ok (.aload_n 0, 1) := by decide +kernel
theorem dX7_digest_97 : decode cX7_digest 97 = .ok (.getfield 89, 3) := by decide +kernel
theorem dX7_digest_100 : decode cX7_digest 100 = .ok (.if_icmp .ge 19, 3) := by decide +kernel
theorem dX7_digest_103 : decode cX7_digest 103 = .ok (.aload_n 0, 1) := by decide +kernel
theorem dX7_digest_104 : decode cX7_digest 104 = .ok (.aload_n 0, 1) := by decide +kernel
theorem dX7_digest_105 : decode cX7_digest 105 = .ok (.iload_n 1, 1) := by decide +kernel
theorem dX7_digest_106 : decode cX7_digest 106 = .ok (.iload_n 2, 1) := by decide +kernel
theorem dX7_digest_107 : decode cX7_digest 107 = .ok (.invokevirtual 220, 3) := by decide +kernel
theorem dX7_digest_110 : decode cX7_digest 110 = .ok (.invokevirtual 233, 3) := by decide +kernel
theorem dX7_digest_113 : decode cX7_digest 113 = .ok (.iinc 2 1, 3) := by decide +kernel
theorem dX7_digest_116 : decode cX7_digest 116 = .ok (.goto (-21), 3) := by decide +kernel
theorem dX7_digest_119 : decode cX7_digest 119 = .ok (.iinc 1 1, 3) := by decide +kernel
theorem dX7_digest_122 : decode cX7_digest 122 = .ok (.goto (-85), 3) := by decide +kernel
theorem dX7_digest_125 : decode cX7_digest 125 = .ok (.iconst 0, 1) := by decide +kernel
theorem dX7_digest_126 : decode cX7_digest 126 = .ok (.istore_n 1, 1) := by decide +kernel
theorem dX7_digest_127 : decode cX7_digest 127 = .ok (.iload_n 1, 1) := by decide +kernel
theorem dX7_digest_128 : decode cX7_digest 128 = .ok (.aload_n 0, 1) := by decide +kernel
theorem dX7_digest_129 : decode cX7_digest 129 = .ok (.getfield 92, 3) := by decide +kernel
theorem dX7_digest_132 : decode cX7_digest 132 = .ok (.if_icmp .ge 85, 3) := by decide +kernel
theorem dX7_digest_135 : decode cX7_digest 135 = .ok (.iconst 0, 1) := by decide +kernel
theorem dX7_digest_136 : decode cX7_digest 136 = .ok (.istore_n 2, 1) := by decide +kernel
theorem dX7_digest_137 : decode cX7_digest 137 = .ok (.iload_n 2, 1) := by decide +kernel
theorem dX7_digest_138 : decode cX7_digest 138 = .ok (.bipush 14, 2) := by decide +kernel
theorem dX7_digest_140 : decode cX7_digest 140 = .ok (.if_icmp .ge 19, 3) := by decide +kernel
theorem dX7_digest_143 : decode cX7_digest 143 = .ok (.aload_n 0, 1) := by decide +kernel
theorem dX7_digest_144 : decode cX7_digest 144 = .ok (.aload_n 0, 1) := by decide +kernel
theorem dX7_digest_145 : decode cX7_digest 145 = .ok (.iload_n 1, 1) := by decide +kernel
theorem dX7_digest_146 : decode cX7_digest 146 = .ok (.iload_n 2, 1) := by decide +kernel
theorem dX7_digest_147 : decode cX7_digest 147 = .ok (.invokevirtual 214, 3) := by decide +kernel
theorem dX7_digest_150 : decode cX7_digest 150 = .ok (.invokevirtual 233, 3) := by decide +kernel
theorem dX7_digest_153 : decode cX7_digest 153 = .ok (.iinc 2 1, 3) := by decide +kernel
theorem dX7_digest_156 : decode cX7_digest 156 = .ok (.goto (-19), 3) := by decide +kernel
theorem dX7_digest_159 : decode cX7_digest 159 = .ok (.iconst 0, 1) := by decide +kernel
theorem dX7_digest_160 : decode cX7_digest 160 = .ok (.istore_n 2, 1) := by decide +kernel
theorem dX7_digest_161 : decode cX7_digest 161 = .ok (.iload_n 2, 1) := by decide +kernel
theorem dX7_digest_162 : decode cX7_digest 162 = .ok (.aload_n 0, 1) := by decide +kernel
theorem dX7_digest_163 : decode cX7_digest 163 = .ok (.getfield 79, 3) := by decide +kernel
theorem dX7_digest_166 : decode cX7_digest 166 = .ok (.if_icmp .ge 34, 3) := by decide +kernel
theorem dX7_digest_169 : decode cX7_digest 169 = .ok (.iconst 0, 1) := by decide +kernel
theorem dX7_digest_170 : decode cX7_digest 170 = .ok (.istore_n 3, 1) := by decide +kernel
theorem dX7_digest_171 : decode cX7_digest 171 = .ok (.iload_n 3, 1) := by decide +kernel
theorem dX7_digest_172 : decode cX7_digest 172 = .ok (.bipush 8, 2) := by decide +kernel
theorem dX7_digest_174 : decode cX7_digest 174 = .ok (.if_icmp .ge 20, 3) := by decide +kernel
theorem dX7_digest_177 : decode cX7_digest 177 = .ok (.aload_n 0, 1) := by decide +kernel
theorem dX7_digest_178 : decode cX7_digest 178 = .ok (.aload_n 0, 1) := by decide +kernel
theorem dX7_digest_179 : decode cX7_digest 179 = .ok (.iload_n 1, 1) := by decide +kernel
theorem dX7_digest_180 : decode cX7_digest 180 = .ok (.iload_n 2, 1) := by decide +kernel
theorem dX7_digest_181 : decode cX7_digest 181 = .ok (.iload_n 3, 1) := by decide +kernel
theorem dX7_digest_182 : decode cX7_digest 182 = .ok (.invokevirtual 211, 3) := by decide +kernel
theorem dX7_digest_185 : decode cX7_digest 185 = .ok (.invokevirtual 233, 3) := by decide +kernel
theorem dX7_digest_188 : decode cX7_digest 188 = .ok (.iinc 3 1, 3) := by decide +kernel
theorem dX7_digest_191 : decode cX7_digest 191 = .ok (.goto (-20), 3) := by decide +kernel
theorem dX7_digest_194 : decode cX7_digest 194 = .ok (.iinc 2 1, 3) := by decide +kernel
theorem dX7_digest_197 : decode cX7_digest 197 = .ok (.goto (-36), 3) := by decide +kernel
theorem dX7_digest_200 : decode cX7_digest 200 = .ok (.aload_n 0, 1) := by decide +kernel
theorem dX7_digest_201 : decode cX7_digest 201 = .ok (.aload_n 0, 1) := by decide +kernel
theorem dX7_digest_202 : decode cX7_digest 202 = .ok (.iload_n 1, 1) := by decide +kernel
theorem dX7_digest_203 : decode cX7_digest 203 = .ok (.bipush 6, 2) := by decide +kernel
theorem dX7_digest_205 : decode cX7_digest 205 = .ok (.invokevirtual 122, 3) := by decide +kernel
theorem dX7_digest_208 : decode cX7_digest 208 = .ok (.invokevirtual 233, 3) := by decide +kernel
theorem dX7_digest_211 : decode cX7_digest 211 = .ok (.iinc 1 1, 3) := by decide +kernel
theorem dX7_digest_214 : decode cX7_digest 214 = .ok (.goto (-87), 3) := by decide +kernel
theorem dX7_digest_217 : decode cX7_digest 217 = .ok (.aload_n 0, 1) := by decide +kernel
theorem dX7_digest_218 : decode cX7_digest 218 = .ok (.getfield 92, 3) := by decide +kernel
theorem dX7_digest_221 : decode cX7_digest 221 = .ok (.ifCond .le 12, 3) := by decide +kernel
theorem dX7_digest_224 : decode cX7_digest 224 = .ok (.aload_n 0, 1) := by decide +kernel
theorem dX7_digest_225 : decode cX7_digest 225 = .ok (.aload_n 0, 1) := by decide +kernel
theorem dX7_digest_226 : decode cX7_digest 226 = .ok (.iconst 0, 1) := by decide +kernel
theorem dX7_digest_227 : decode cX7_digest 227 = .ok (.invokevirtual 223, 3) := by decide +kernel
theorem dX7_digest_230 : decode cX7_digest 230 = .ok (.invokevirtual 233, 3) := by decide +kernel
theorem dX7_digest_233 : decode cX7_digest 233 = .ok (.aload_n 0, 1) := by decide +kernel
theorem dX7_digest_234 : decode cX7_digest 234 = .ok (.getfield 226, 3) := by decide +kernel
theorem dX7_digest_237 : decode cX7_digest 237 = .ok (.lreturn, 1) := by decide +kernel
end
section
theorem dL_star_0 : decode cL_star 0 = .ok (.aload 6, 2) := by decide +kernel
theorem dL_star_2 : decode cL_star 2 = .ok (.iconst 0, 1) := by decide +kernel
theorem dL_star_3 : decode cL_star 3 = .ok (.aload_n 0, 1) := by decide +kernel
theorem dL_star_4 : decode cL_star 4 = .ok (.iload_n 1, 1) := by decide +kernel
theorem dL_star_5 : decode cL_star 5 = .ok (.iload_n 2, 1) := by decide +kernel
theorem dL_star_6 : decode cL_star 6 = .ok (.iload_n 3, 1) := by decide +kernel
theorem dL_star_7 : decode cL_star 7 = .ok (.iload 4, 2) := by decide +kernel
theorem dL_star_9 : decode cL_star 9 = .ok (.iload 5, 2) := by decide +kernel
theorem dL_star_11 : decode cL_star 11 = .ok (.invokevirtual 7, 3) := by decide +kernel
theorem dL_star_14 : decode cL_star 14 = .ok (.i2l, 1) := by decide +kernel
theorem dL_star_15 : decode cL_star 15 = .ok (.lastore, 1) := by decide +kernel
theorem dL_star_16 : decode cL_star 16 = .ok (.goto 11, 3) := by decide +kernel
theorem dL_star_19 : decode cL_star 19 = .ok (.astore 7, 2) := by decide +kernel
theorem dL_star_21 : decode cL_star 21 = .ok (.iconst 1, 1) := by decide +kernel
theorem dL_star_22 : decode cL_star 22 = .ok (.ireturn, 1) := by decide +kernel
theorem dL_star_23 : decode cL_star 23 = .ok (.astore 7, 2) := by decide +kernel
theorem dL_star_25 : decode cL_star 25 = .ok (.iconst 2, 1) := by decide +kernel
theorem dL_star_26 : decode cL_star 26 = .ok (.ireturn, 1) := by decide +kernel
theorem dL_star_27 : decode cL_star 27 = .ok (.iconst 0, 1) := by decide +kernel
theorem dL_star_28 : decode cL_star 28 = .ok (.ireturn, 1) := by decide +kernel
theorem dL_push_0 : decode cL_push 0 = .ok (.aload_n 3, 1) := by decide +kernel
theorem dL_push_1 : decode cL_push 1 = .ok (.iconst 0, 1) := by decide +kernel
theorem dL_push_2 : decode cL_push 2 = .ok (.aload_n 0, 1) := by decide +kernel
theorem dL_push_3 : decode cL_push 3 = .ok (.iload_n 1, 1) := by decide +kernel
theorem dL_push_4 : decode cL_push 4 = .ok (.iload_n 2, 1) := by decide +kernel
theorem dL_push_5 : decode cL_push 5 = .ok (.invokevirtual 17, 3) := by decide +kernel
theorem dL_push_8 : decode cL_push 8 = .ok (.i2l, 1) := by decide +kernel
theorem dL_push_9 : decode cL_push 9 = .ok (.lastore, 1) := by decide +kernel
theorem dL_push_10 : decode cL_push 10 = .ok (.goto 11, 3) := by decide +kernel
theorem dL_push_13 : decode cL_push 13 = .ok (.astore 4, 2) := by decide +kernel
theorem dL_push_15 : decode cL_push 15 = .ok (.iconst 1, 1) := by decide +kernel
theorem dL_push_16 : decode cL_push 16 = .ok (.ireturn, 1) := by decide +kernel
theorem dL_push_17 : decode cL_push 17 = .ok (.astore 4, 2) := by decide +kernel
theorem dL_push_19 : decode cL_push 19 = .ok (.iconst 2, 1) := by decide +kernel
theorem dL_push_20 : decode cL_push 20 = .ok (.ireturn, 1) := by decide +kernel
theorem dL_push_21 : decode cL_push 21 = .ok (.iconst 0, 1) := by decide +kernel
theorem dL_push_22 : decode cL_push 22 = .ok (.ireturn, 1) := by decide +kernel
theorem dL_jump_0 : decode cL_jump 0 = .ok (.aload 4, 2) := by decide +kernel
theorem dL_jump_2 : decode cL_jump 2 = .ok (.iconst 0, 1) := by decide +kernel
theorem dL_jump_3 : decode cL_jump 3 = .ok (.aload_n 0, 1) := by decide +kernel
theorem dL_jump_4 : decode cL_jump 4 = .ok (.iload_n 1, 1) := by decide +kernel
theorem dL_jump_5 : decode cL_jump 5 = .ok (.iload_n 2, 1) := by decide +kernel
theorem dL_jump_6 : decode cL_jump 6 = .ok (.iload_n 3, 1) := by decide +kernel
theorem dL_jump_7 : decode cL_jump 7 = .ok (.invokevirtual 23, 3) := by decide +kernel
theorem dL_jump_10 : decode cL_jump 10 = .ok (.i2l, 1) := by decide +kernel
theorem dL_jump_11 : decode cL_jump 11 = .ok (.lastore, 1) := by decide +kernel
theorem dL_jump_12 : decode cL_jump 12 = .ok (.goto 11, 3) := by decide +kernel
theorem dL_jump_15 : decode cL_jump 15 = .ok (.astore 5, 2) := by decide +kernel
theorem dL_jump_17 : decode cL_jump 17 = .ok (.iconst 1, 1) := by decide +kernel
theorem dL_jump_18 : decode cL_jump 18 = .ok (.ireturn, 1) := by decide +kernel
theorem dL_jump_19 : decode cL_jump 19 = .ok (.astore 5, 2) := by decide +kernel
theorem dL_jump_21 : decode cL_jump 21 = .ok (.iconst 2, 1) := by decide +kernel
theorem dL_jump_22 : decode cL_jump 22 = .ok (.ireturn, 1) := by decide +kernel
theorem dL_jump_23 : decode cL_jump 23 = .ok (.iconst 0, 1) := by decide +kernel
theorem dL_jump_24 : decode cL_jump 24 = .ok (.ireturn, 1) := by decide +kernel
theorem dL_health_0 : decode cL_health 0 = .ok (.aload_n 3, 1) := by decide +kernel
theorem dL_health_1 : decode cL_health 1 = .ok (.iconst 0, 1) := by decide +kernel
theorem dL_health_2 : decode cL_health 2 = .ok (.aload_n 0, 1) := by decide +kernel
theorem dL_health_3 : decode cL_health 3 = .ok (.iload_n 1, 1) := by decide +kernel
theorem dL_health_4 : decode cL_health 4 = .ok (.iload_n 2, 1) := by decide +kernel
theorem dL_health_5 : decode cL_health 5 = .ok (.invokevirtual 27, 3) := by decide +kernel
theorem dL_health_8 : decode cL_health 8 = .ok (.ifCond .eq 7, 3) := by decide +kernel
theorem dL_health_11 : decode cL_health 11 = .ok (.lconst 1, 1) := by decide +kernel
theorem dL_health_12 : decode cL_health 12 = .ok (.goto 4, 3) := by decide +kernel
theorem dL_health_15 : decode cL_health 15 = .ok (.lconst 0, 1) := by decide +kernel
theorem dL_health_16 : decode cL_health 16 = .ok (.lastore, 1) := by decide +kernel
theorem dL_health_17 : decode cL_health 17 = .ok (.goto 7, 3) := by decide +kernel
theorem dL_health_20 : decode cL_health 20 = .ok (.astore 4, 2) := by decide +kernel
theorem dL_health_22 : decode cL_health 22 = .ok (.iconst 1, 1) := by decide +kernel
theorem dL_health_23 : decode cL_health 23 = .ok (.ireturn, 1) := by decide +kernel
theorem dL_health_24 : decode cL_health 24 = .ok (.iconst 0, 1) := by decide +kernel
theorem dL_health_25 : decode cL_health 25 = .ok (.ireturn, 1) := by decide +kernel
theorem dL_station_0 : decode cL_station 0 = .ok (.aload_n 3, 1) := by decide +kernel
theorem dL_station_1 : decode cL_station 1 = .ok (.iconst 0, 1) := by decide +kernel
theorem dL_station_2 : decode cL_station 2 = .ok (.aload_n 0, 1) := by decide +kernel
theorem dL_station_3 : decode cL_station 3 = .ok (.iload_n 1, 1) := by decide +kernel
theorem dL_station_4 : decode cL_station 4 = .ok (.iload_n 2, 1) := by decide +kernel
theorem dL_station_5 : decode cL_station 5 = .ok (.invokevirtual 31, 3) := by decide +kernel
theorem dL_station_8 : decode cL_station 8 = .ok (.i2l, 1) := by decide +kernel
theorem dL_station_9 : decode cL_station 9 = .ok (.lastore, 1) := by decide +kernel
theorem dL_station_10 : decode cL_station 10 = .ok (.goto 11, 3) := by decide +kernel
theorem dL_station_13 : decode cL_station 13 = .ok (.astore 4, 2) := by decide +kernel
theorem dL_station_15 : decode cL_station 15 = .ok (.iconst 1, 1) := by decide +kernel
theorem dL_station_16 : decode cL_station 16 = .ok (.ireturn, 1) := by decide +kernel
theorem dL_station_17 : decode cL_station 17 = .ok (.astore 4, 2) := by decide +kernel
theorem dL_station_19 : decode cL_station 19 = .ok (.iconst 2, 1) := by decide +kernel
theorem dL_station_20 : decode cL_station 20 = .ok (.ireturn, 1) := by decide +kernel
theorem dL_station_21 : decode cL_station 21 = .ok (.iconst 0, 1) := by decide +kernel
theorem dL_station_22 : decode cL_station 22 = .ok (.ireturn, 1) := by decide +kernel
theorem dL_listen_0 : decode cL_listen 0 = .ok (.aload_n 3, 1) := by decide +kernel
theorem dL_listen_1 : decode cL_listen 1 = .ok (.iconst 0, 1) := by decide +kernel
theorem dL_listen_2 : decode cL_listen 2 = .ok (.aload_n 0, 1) := by decide +kernel
theorem dL_listen_3 : decode cL_listen 3 = .ok (.iload_n 1, 1) := by decide +kernel
theorem dL_listen_4 : decode cL_listen 4 = .ok (.iload_n 2, 1) := by decide +kernel
theorem dL_listen_5 : decode cL_listen 5 = .ok (.invokevirtual 34, 3) := by decide +kernel
theorem dL_listen_8 : decode cL_listen 8 = .ok (.i2l, 1) := by decide +kernel
theorem dL_listen_9 : decode cL_listen 9 = .ok (.lastore, 1) := by decide +kernel
theorem dL_listen_10 : decode cL_listen 10 = .ok (.goto 11, 3) := by decide +kernel
theorem dL_listen_13 : decode cL_listen 13 = .ok (.astore 4, 2) := by decide +kernel
theorem dL_listen_15 : decode cL_listen 15 = .ok (.iconst 1, 1) := by decide +kernel
theorem dL_listen_16 : decode cL_listen 16 = .ok (.ireturn, 1) := by decide +kernel
theorem dL_listen_17 : decode cL_listen 17 = .ok (.astore 4, 2) := by decide +kernel
theorem dL_listen_19 : decode cL_listen 19 = .ok (.iconst 2, 1) := by decide +kernel
theorem dL_listen_20 : decode cL_listen 20 = .ok (.ireturn, 1) := by decide +kernel
theorem dL_listen_21 : decode cL_listen 21 = .ok (.iconst 0, 1) := by decide +kernel
theorem dL_listen_22 : decode cL_listen 22 = .ok (.ireturn, 1) := by decide +kernel
theorem dL_receiver_0 : decode cL_receiver 0 = .ok (.aload 4, 2) := by decide +kernel
theorem dL_receiver_2 : decode cL_receiver 2 = .ok (.iconst 0, 1) := by decide +kernel
theorem dL_receiver_3 : decode cL_receiver 3 = .ok (.aload_n 0, 1) := by decide +kernel
theorem dL_receiver_4 : decode cL_receiver 4 = .ok (.iload_n 1, 1) := by decide +kernel
theorem dL_receiver_5 : decode cL_receiver 5 = .ok (.iload_n 2, 1) := by decide +kernel
theorem dL_receiver_6 : decode cL_receiver 6 = .ok (.iload_n 3, 1) := by decide +kernel
theorem dL_receiver_7 : decode cL_receiver 7 = .ok (.invokevirtual 37, 3) := by decide +kernel
theorem dL_receiver_10 : decode cL_receiver 10 = .ok (.i2l, 1) := by decide +kernel
theorem dL_receiver_11 : decode cL_receiver 11 = .ok (.lastore, 1) := by decide +kernel
theorem dL_receiver_12 : decode cL_receiver 12 = .ok (.goto 11, 3) := by decide +kernel
theorem dL_receiver_15 : decode cL_receiver 15 = .ok (.astore 5, 2) := by decide +kernel
theorem dL_receiver_17 : decode cL_receiver 17 = .ok (.iconst 1, 1) := by decide +kernel
theorem dL_receiver_18 : decode cL_receiver 18 = .ok (.ireturn, 1) := by decide +kernel
theorem dL_receiver_19 : decode cL_receiver 19 = .ok (.astore 5, 2) := by decide +kernel
theorem dL_receiver_21 : decode cL_receiver 21 = .ok (.iconst 2, 1) := by decide +kernel
theorem dL_receiver_22 : decode cL_receiver 22 = .ok (.ireturn, 1) := by decide +kernel
theorem dL_receiver_23 : decode cL_receiver 23 = .ok (.iconst 0, 1) := by decide +kernel
theorem dL_receiver_24 : decode cL_receiver 24 = .ok (.ireturn, 1) := by decide +kernel
theorem dL_go_0 : decode cL_go 0 = .ok (.aload 4, 2) := by decide +kernel
theorem dL_go_2 : decode cL_go 2 = .ok (.iconst 0, 1) := by decide +kernel
theorem dL_go_3 : decode cL_go 3 = .ok (.aload_n 0, 1) := by decide +kernel
theorem dL_go_4 : decode cL_go 4 = .ok (.iload_n 1, 1) := by decide +kernel
theorem dL_go_5 : decode cL_go 5 = .ok (.iload_n 2, 1) := by decide +kernel
theorem dL_go_6 : decode cL_go 6 = .ok (.iload_n 3, 1) := by decide +kernel
theorem dL_go_7 : decode cL_go 7 = .ok (.invokevirtual 40, 3) := by decide +kernel
theorem dL_go_10 : decode cL_go 10 = .ok (.i2l, 1) := by decide +kernel
theorem dL_go_11 : decode cL_go 11 = .ok (.lastore, 1) := by decide +kernel
theorem dL_go_12 : decode cL_go 12 = .ok (.goto 11, 3) := by decide +kernel
theorem dL_go_15 : decode cL_go 15 = .ok (.astore 5, 2) := by decide +kernel
theorem dL_go_17 : decode cL_go 17 = .ok (.iconst 1, 1) := by decide +kernel
theorem dL_go_18 : decode cL_go 18 = .ok (.ireturn, 1) := by decide +kernel
theorem dL_go_19 : decode cL_go 19 = .ok (.astore 5, 2) := by decide +kernel
theorem dL_go_21 : decode cL_go 21 = .ok (.iconst 2, 1) := by decide +kernel
theorem dL_go_22 : decode cL_go 22 = .ok (.ireturn, 1) := by decide +kernel
theorem dL_go_23 : decode cL_go 23 = .ok (.iconst 0, 1) := by decide +kernel
theorem dL_go_24 : decode cL_go 24 = .ok (.ireturn, 1) := by decide +kernel
theorem dL_hills_0 : decode cL_hills 0 = .ok (.aload 4, 2) := by decide +kernel
theorem dL_hills_2 : decode cL_hills 2 = .ok (.iconst 0, 1) := by decide +kernel
theorem dL_hills_3 : decode cL_hills 3 = .ok (.aload_n 0, 1) := by decide +kernel
theorem dL_hills_4 : decode cL_hills 4 = .ok (.iload_n 1, 1) := by decide +kernel
theorem dL_hills_5 : decode cL_hills 5 = .ok (.iload_n 2, 1) := by decide +kernel
theorem dL_hills_6 : decode cL_hills 6 = .ok (.iload_n 3, 1) := by decide +kernel
theorem dL_hills_7 : decode cL_hills 7 = .ok (.invokevirtual 43, 3) := by decide +kernel
theorem dL_hills_10 : decode cL_hills 10 = .ok (.i2l, 1) := by decide +kernel
theorem dL_hills_11 : decode cL_hills 11 = .ok (.lastore, 1) := by decide +kernel
theorem dL_hills_12 : decode cL_hills 12 = .ok (.goto 11, 3) := by decide +kernel
theorem dL_hills_15 : decode cL_hills 15 = .ok (.astore 5, 2) := by decide +kernel
theorem dL_hills_17 : decode cL_hills 17 = .ok (.iconst 1, 1) := by decide +kernel
theorem dL_hills_18 : decode cL_hills 18 = .ok (.ireturn, 1) := by decide +kernel
theorem dL_hills_19 : decode cL_hills 19 = .ok (.astore 5, 2) := by decide +kernel
theorem dL_hills_21 : decode cL_hills 21 = .ok (.iconst 2, 1) := by decide +kernel
theorem dL_hills_22 : decode cL_hills 22 = .ok (.ireturn, 1) := by decide +kernel
theorem dL_hills_23 : decode cL_hills 23 = .ok (.iconst 0, 1) := by decide +kernel
theorem dL_hills_24 : decode cL_hills 24 = .ok (.ireturn, 1) := by decide +kernel
theorem dL_air_0 : decode cL_air 0 = .ok (.aload 4, 2) := by decide +kernel
theorem dL_air_2 : decode cL_air 2 = .ok (.iconst 0, 1) := by decide +kernel
theorem dL_air_3 : decode cL_air 3 = .ok (.aload_n 0, 1) := by decide +kernel
theorem dL_air_4 : decode cL_air 4 = .ok (.iload_n 1, 1) := by decide +kernel
theorem dL_air_5 : decode cL_air 5 = .ok (.iload_n 2, 1) := by decide +kernel
theorem dL_air_6 : decode cL_air 6 = .ok (.iload_n 3, 1) := by decide +kernel
theorem dL_air_7 : decode cL_air 7 = .ok (.invokevirtual 46, 3) := by decide +kernel
theorem dL_air_10 : decode cL_air 10 = .ok (.i2l, 1) := by decide +kernel
theorem dL_air_11 : decode cL_air 11 = .ok (.lastore, 1) := by decide +kernel
theorem dL_air_12 : decode cL_air 12 = .ok (.goto 11, 3) := by decide +kernel
theorem dL_air_15 : decode cL_air 15 = .ok (.astore 5, 2) := by decide +kernel
theorem dL_air_17 : decode cL_air 17 = .ok (.iconst 1, 1) := by decide +kernel
theorem dL_air_18 : decode cL_air 18 = .ok (.ireturn, 1) := by decide +kernel
theorem dL_air_19 : decode cL_air 19 = .ok (.astore 5, 2) := by decide +kernel
theorem dL_air_21 : decode cL_air 21 = .ok (.iconst 2, 1) := by decide +kernel
theorem dL_air_22 : decode cL_air 22 = .ok (.ireturn, 1) := by decide +kernel
theorem dL_air_23 : decode cL_air 23 = .ok (.iconst 0, 1) := by decide +kernel
theorem dL_air_24 : decode cL_air 24 = .ok (.ireturn, 1) := by decide +kernel
theorem dL_alert_0 : decode cL_alert 0 = .ok (.aload_n 3, 1) := by decide +kernel
theorem dL_alert_1 : decode cL_alert 1 = .ok (.iconst 0, 1) := by decide +kernel
theorem dL_alert_2 : decode cL_alert 2 = .ok (.aload_n 0, 1) := by decide +kernel
theorem dL_alert_3 : decode cL_alert 3 = .ok (.iload_n 1, 1) := by decide +kernel
theorem dL_alert_4 : decode cL_alert 4 = .ok (.iload_n 2, 1) := by decide +kernel
theorem dL_alert_5 : decode cL_alert 5 = .ok (.invokevirtual 50, 3) := by decide +kernel
theorem dL_alert_8 : decode cL_alert 8 = .ok (.i2l, 1) := by decide +kernel
theorem dL_alert_9 : decode cL_alert 9 = .ok (.lastore, 1) := by decide +kernel
theorem dL_alert_10 : decode cL_alert 10 = .ok (.goto 11, 3) := by decide +kernel
theorem dL_alert_13 : decode cL_alert 13 = .ok (.astore 4, 2) := by decide +kernel
theorem dL_alert_15 : decode cL_alert 15 = .ok (.iconst 1, 1) := by decide +kernel
theorem dL_alert_16 : decode cL_alert 16 = .ok (.ireturn, 1) := by decide +kernel
theorem dL_alert_17 : decode cL_alert 17 = .ok (.astore 4, 2) := by decide +kernel
theorem dL_alert_19 : decode cL_alert 19 = .ok (.iconst 2, 1) := by decide +kernel
theorem dL_alert_20 : decode cL_alert 20 = .ok (.ireturn, 1) := by decide +kernel
theorem dL_alert_21 : decode cL_alert 21 = .ok (.iconst 0, 1) := by decide +kernel
theorem dL_alert_22 : decode cL_alert 22 = .ok (.ireturn, 1) := by decide +kernel
theorem dL_spoof_0 : decode cL_spoof 0 = .ok (.aload_n 3, 1) := by decide +kernel
theorem dL_spoof_1 : decode cL_spoof 1 = .ok (.iconst 0, 1) := by decide +kernel
theorem dL_spoof_2 : decode cL_spoof 2 = .ok (.aload_n 0, 1) := by decide +kernel
theorem dL_spoof_3 : decode cL_spoof 3 = .ok (.iload_n 1, 1) := by decide +kernel
theorem dL_spoof_4 : decode cL_spoof 4 = .ok (.iload_n 2, 1) := by decide +kernel
theorem dL_spoof_5 : decode cL_spoof 5 = .ok (.invokevirtual 53, 3) := by decide +kernel
theorem dL_spoof_8 : decode cL_spoof 8 = .ok (.i2l, 1) := by decide +kernel
theorem dL_spoof_9 : decode cL_spoof 9 = .ok (.lastore, 1) := by decide +kernel
theorem dL_spoof_10 : decode cL_spoof 10 = .ok (.goto 11, 3) := by decide +kernel
theorem dL_spoof_13 : decode cL_spoof 13 = .ok (.astore 4, 2) := by decide +kernel
theorem dL_spoof_15 : decode cL_spoof 15 = .ok (.iconst 1, 1) := by decide +kernel
theorem dL_spoof_16 : decode cL_spoof 16 = .ok (.ireturn, 1) := by decide +kernel
theorem dL_spoof_17 : decode cL_spoof 17 = .ok (.astore 4, 2) := by decide +kernel
theorem dL_spoof_19 : decode cL_spoof 19 = .ok (.iconst 2, 1) := by decide +kernel
theorem dL_spoof_20 : decode cL_spoof 20 = .ok (.ireturn, 1) := by decide +kernel
theorem dL_spoof_21 : decode cL_spoof 21 = .ok (.iconst 0, 1) := by decide +kernel
theorem dL_spoof_22 : decode cL_spoof 22 = .ok (.ireturn, 1) := by decide +kernel
theorem dL_refer_0 : decode cL_refer 0 = .ok (.aload_n 3, 1) := by decide +kernel
theorem dL_refer_1 : decode cL_refer 1 = .ok (.iconst 0, 1) := by decide +kernel
theorem dL_refer_2 : decode cL_refer 2 = .ok (.aload_n 0, 1) := by decide +kernel
theorem dL_refer_3 : decode cL_refer 3 = .ok (.iload_n 1, 1) := by decide +kernel
theorem dL_refer_4 : decode cL_refer 4 = .ok (.iload_n 2, 1) := by decide +kernel
theorem dL_refer_5 : decode cL_refer 5 = .ok (.invokevirtual 56, 3) := by decide +kernel
theorem dL_refer_8 : decode cL_refer 8 = .ok (.i2l, 1) := by decide +kernel
theorem dL_refer_9 : decode cL_refer 9 = .ok (.lastore, 1) := by decide +kernel
theorem dL_refer_10 : decode cL_refer 10 = .ok (.goto 11, 3) := by decide +kernel
theorem dL_refer_13 : decode cL_refer 13 = .ok (.astore 4, 2) := by decide +kernel
theorem dL_refer_15 : decode cL_refer 15 = .ok (.iconst 1, 1) := by decide +kernel
theorem dL_refer_16 : decode cL_refer 16 = .ok (.ireturn, 1) := by decide +kernel
theorem dL_refer_17 : decode cL_refer 17 = .ok (.astore 4, 2) := by decide +kernel
theorem dL_refer_19 : decode cL_refer 19 = .ok (.iconst 2, 1) := by decide +kernel
theorem dL_refer_20 : decode cL_refer 20 = .ok (.ireturn, 1) := by decide +kernel
theorem dL_refer_21 : decode cL_refer 21 = .ok (.iconst 0, 1) := by decide +kernel
theorem dL_refer_22 : decode cL_refer 22 = .ok (.ireturn, 1) := by decide +kernel
theorem dL_pass_0 : decode cL_pass 0 = .ok (.aload_n 2, 1) := by decide +kernel
theorem dL_pass_1 : decode cL_pass 1 = .ok (.iconst 0, 1) := by decide +kernel
theorem dL_pass_2 : decode cL_pass 2 = .ok (.aload_n 0, 1) := by decide +kernel
theorem dL_pass_3 : decode cL_pass 3 = .ok (.iload_n 1, 1) := by decide +kernel
theorem dL_pass_4 : decode cL_pass 4 = .ok (.invokevirtual 59, 3) := by decide +kernel
theorem dL_pass_7 : decode cL_pass 7 = .ok (.i2l, 1) := by decide +kernel
theorem dL_pass_8 : decode cL_pass 8 = .ok (.lastore, 1) := by decide +kernel
theorem dL_pass_9 : decode cL_pass 9 = .ok (.goto 6, 3) := by decide +kernel
theorem dL_pass_12 : decode cL_pass 12 = .ok (.astore_n 3, 1) := by decide +kernel
theorem dL_pass_13 : decode cL_pass 13 = .ok (.iconst 1, 1) := by decide +kernel
theorem dL_pass_14 : decode cL_pass 14 = .ok (.ireturn, 1) := by decide +kernel
theorem dL_pass_15 : decode cL_pass 15 = .ok (.iconst 0, 1) := by decide +kernel
theorem dL_pass_16 : decode cL_pass 16 = .ok (.ireturn, 1) := by decide +kernel
theorem dL_observe_0 : decode cL_observe 0 = .ok (.aload_n 2, 1) := by decide +kernel
theorem dL_observe_1 : decode cL_observe 1 = .ok (.iconst 0, 1) := by decide +kernel
theorem dL_observe_2 : decode cL_observe 2 = .ok (.aload_n 0, 1) := by decide +kernel
theorem dL_observe_3 : decode cL_observe 3 = .ok (.iload_n 1, 1) := by decide +kernel
theorem dL_observe_4 : decode cL_observe 4 = .ok (.invokevirtual 63, 3) := by decide +kernel
theorem dL_observe_7 : decode cL_observe 7 = .ok (.i2l, 1) := by decide +kernel
theorem dL_observe_8 : decode cL_observe 8 = .ok (.lastore, 1) := by decide +kernel
theorem dL_observe_9 : decode cL_observe 9 = .ok (.goto 9, 3) := by decide +kernel
theorem dL_observe_12 : decode cL_observe 12 = .ok (.astore_n 3, 1) := by decide +kernel
theorem dL_observe_13 : decode cL_observe 13 = .ok (.iconst 1, 1) := by decide +kernel
theorem dL_observe_14 : decode cL_observe 14 = .ok (.ireturn, 1) := by decide +kernel
theorem dL_observe_15 : decode cL_observe 15 = .ok (.astore_n 3, 1) := by decide +kernel
theorem dL_observe_16 : decode cL_observe 16 = .ok (.iconst 2, 1) := by decide +kernel
theorem dL_observe_17 : decode cL_observe 17 = .ok (.ireturn, 1) := by decide +kernel
theorem dL_observe_18 : decode cL_observe 18 = .ok (.iconst 0, 1) := by decide +kernel
theorem dL_observe_19 : decode cL_observe 19 = .ok (.ireturn, 1) := by decide +kernel
theorem dL_ofStar_0 : decode cL_ofStar 0 = .ok (.aload_n 3, 1) := by decide +kernel
theorem dL_ofStar_1 : decode cL_ofStar 1 = .ok (.iconst 0, 1) := by decide +kernel
theorem dL_ofStar_2 : decode cL_ofStar 2 = .ok (.aload_n 0, 1) := by decide +kernel
theorem dL_ofStar_3 : decode cL_ofStar 3 = .ok (.iload_n 1, 1) := by decide +kernel
theorem dL_ofStar_4 : decode cL_ofStar 4 = .ok (.iload_n 2, 1) := by decide +kernel
theorem dL_ofStar_5 : decode cL_ofStar 5 = .ok (.invokevirtual 66, 3) := by decide +kernel
theorem dL_ofStar_8 : decode cL_ofStar 8 = .ok (.i2l, 1) := by decide +kernel
theorem dL_ofStar_9 : decode cL_ofStar 9 = .ok (.lastore, 1) := by decide +kernel
theorem dL_ofStar_10 : decode cL_ofStar 10 = .ok (.goto 11, 3) := by decide +kernel
theorem dL_ofStar_13 : decode cL_ofStar 13 = .ok (.astore 4, 2) := by decide +kernel
theorem dL_ofStar_15 : decode cL_ofStar 15 = .ok (.iconst 1, 1) := by decide +kernel
theorem dL_ofStar_16 : decode cL_ofStar 16 = .ok (.ireturn, 1) := by decide +kernel
theorem dL_ofStar_17 : decode cL_ofStar 17 = .ok (.astore 4, 2) := by decide +kernel
theorem dL_ofStar_19 : decode cL_ofStar 19 = .ok (.iconst 2, 1) := by decide +kernel
theorem dL_ofStar_20 : decode cL_ofStar 20 = .ok (.ireturn, 1) := by decide +kernel
theorem dL_ofStar_21 : decode cL_ofStar 21 = .ok (.iconst 0, 1) := by decide +kernel
theorem dL_ofStar_22 : decode cL_ofStar 22 = .ok (.ireturn, 1) := by decide +kernel
theorem dL_message_0 : decode cL_message 0 = .ok (.aload_n 3, 1) := by decide +kernel
theorem dL_message_1 : decode cL_message 1 = .ok (.iconst 0, 1) := by decide +kernel
theorem dL_message_2 : decode cL_message 2 = .ok (.aload_n 0, 1) := by decide +kernel
theorem dL_message_3 : decode cL_message 3 = .ok (.iload_n 1, 1) := by decide +kernel
theorem dL_message_4 : decode cL_message 4 = .ok (.iload_n 2, 1) := by decide +kernel
theorem dL_message_5 : decode cL_message 5 = .ok (.invokevirtual 69, 3) := by decide +kernel
theorem dL_message_8 : decode cL_message 8 = .ok (.i2l, 1) := by decide +kernel
theorem dL_message_9 : decode cL_message 9 = .ok (.lastore, 1) := by decide +kernel
theorem dL_message_10 : decode cL_message 10 = .ok (.goto 11, 3) := by decide +kernel
theorem dL_message_13 : decode cL_message 13 = .ok (.astore 4, 2) := by decide +kernel
theorem dL_message_15 : decode cL_message 15 = .ok (.iconst 1, 1) := by decide +kernel
theorem dL_message_16 : decode cL_message 16 = .ok (.ireturn, 1) := by decide +kernel
theorem dL_message_17 : decode cL_message 17 = .ok (.astore 4, 2) := by decide +kernel
theorem dL_message_19 : decode cL_message 19 = .ok (.iconst 2, 1) := by decide +kernel
theorem dL_message_20 : decode cL_message 20 = .ok (.ireturn, 1) := by decide +kernel
theorem dL_message_21 : decode cL_message 21 = .ok (.iconst 0, 1) := by decide +kernel
theorem dL_message_22 : decode cL_message 22 = .ok (.ireturn, 1) := by decide +kernel
theorem dL_seen_0 : decode cL_seen 0 = .ok (.aload 4, 2) := by decide +kernel
theorem dL_seen_2 : decode cL_seen 2 = .ok (.iconst 0, 1) := by decide +kernel
theorem dL_seen_3 : decode cL_seen 3 = .ok (.aload_n 0, 1) := by decide +kernel
theorem dL_seen_4 : decode cL_seen 4 = .ok (.iload_n 1, 1) := by decide +kernel
theorem dL_seen_5 : decode cL_seen 5 = .ok (.iload_n 2, 1) := by decide +kernel
theorem dL_seen_6 : decode cL_seen 6 = .ok (.iload_n 3, 1) := by decide +kernel
theorem dL_seen_7 : decode cL_seen 7 = .ok (.invokevirtual 72, 3) := by decide +kernel
theorem dL_seen_10 : decode cL_seen 10 = .ok (.i2l, 1) := by decide +kernel
theorem dL_seen_11 : decode cL_seen 11 = .ok (.lastore, 1) := by decide +kernel
theorem dL_seen_12 : decode cL_seen 12 = .ok (.goto 11, 3) := by decide +kernel
theorem dL_seen_15 : decode cL_seen 15 = .ok (.astore 5, 2) := by decide +kernel
theorem dL_seen_17 : decode cL_seen 17 = .ok (.iconst 1, 1) := by decide +kernel
theorem dL_seen_18 : decode cL_seen 18 = .ok (.ireturn, 1) := by decide +kernel
theorem dL_seen_19 : decode cL_seen 19 = .ok (.astore 5, 2) := by decide +kernel
theorem dL_seen_21 : decode cL_seen 21 = .ok (.iconst 2, 1) := by decide +kernel
theorem dL_seen_22 : decode cL_seen 22 = .ok (.ireturn, 1) := by decide +kernel
theorem dL_seen_23 : decode cL_seen 23 = .ok (.iconst 0, 1) := by decide +kernel
theorem dL_seen_24 : decode cL_seen 24 = .ok (.ireturn, 1) := by decide +kernel
theorem dL_ofReceiver_0 : decode cL_ofReceiver 0 = .ok (.aload_n 3, 1) := by decide +kernel
theorem dL_ofReceiver_1 : decode cL_ofReceiver 1 = .ok (.iconst 0, 1) := by decide +kernel
theorem dL_ofReceiver_2 : decode cL_ofReceiver 2 = .ok (.aload_n 0, 1) := by decide +kernel
theorem dL_ofReceiver_3 : decode cL_ofReceiver 3 = .ok (.iload_n 1, 1) := by decide +kernel
theorem dL_ofReceiver_4 : decode cL_ofReceiver 4 = .ok (.iload_n 2, 1) := by decide +kernel
theorem dL_ofReceiver_5 : decode cL_ofReceiver 5 = .ok (.invokevirtual 75, 3) := by decide +kernel
theorem dL_ofReceiver_8 : decode cL_ofReceiver 8 = .ok (.i2l, 1) := by decide +kernel
theorem dL_ofReceiver_9 : decode cL_ofReceiver 9 = .ok (.lastore, 1) := by decide +kernel
theorem dL_ofReceiver_10 : decode cL_ofReceiver 10 = .ok (.goto 11, 3) := by decide +kernel
theorem dL_ofReceiver_13 : decode cL_ofReceiver 13 = .ok (.astore 4, 2) := by decide +kernel
theorem dL_ofReceiver_15 : decode cL_ofReceiver 15 = .ok (.iconst 1, 1) := by decide +kernel
theorem dL_ofReceiver_16 : decode cL_ofReceiver 16 = .ok (.ireturn, 1) := by decide +kernel
theorem dL_ofReceiver_17 : decode cL_ofReceiver 17 = .ok (.astore 4, 2) := by decide +kernel
theorem dL_ofReceiver_19 : decode cL_ofReceiver 19 = .ok (.iconst 2, 1) := by decide +kernel
theorem dL_ofReceiver_20 : decode cL_ofReceiver 20 = .ok (.ireturn, 1) := by decide +kernel
theorem dL_ofReceiver_21 : decode cL_ofReceiver 21 = .ok (.iconst 0, 1) := by decide +kernel
theorem dL_ofReceiver_22 : decode cL_ofReceiver 22 = .ok (.ireturn, 1) := by decide +kernel
theorem dL_many_0 : decode cL_many 0 = .ok (.aload_n 2, 1) := by decide +kernel
theorem dL_many_1 : decode cL_many 1 = .ok (.iconst 0, 1) := by decide +kernel
theorem dL_many_2 : decode cL_many 2 = .ok (.aload_n 0, 1) := by decide +kernel
theorem dL_many_3 : decode cL_many 3 = .ok (.iload_n 1, 1) := by decide +kernel
theorem dL_many_4 : decode cL_many 4 = .ok (.invokevirtual 78, 3) := by decide +kernel
theorem dL_many_7 : decode cL_many 7 = .ok (.i2l, 1) := by decide +kernel
theorem dL_many_8 : decode cL_many 8 = .ok (.lastore, 1) := by decide +kernel
theorem dL_many_9 : decode cL_many 9 = .ok (.goto 6, 3) := by decide +kernel
theorem dL_many_12 : decode cL_many 12 = .ok (.astore_n 3, 1) := by decide +kernel
theorem dL_many_13 : decode cL_many 13 = .ok (.iconst 1, 1) := by decide +kernel
theorem dL_many_14 : decode cL_many 14 = .ok (.ireturn, 1) := by decide +kernel
theorem dL_many_15 : decode cL_many 15 = .ok (.iconst 0, 1) := by decide +kernel
theorem dL_many_16 : decode cL_many 16 = .ok (.ireturn, 1) := by decide +kernel
theorem dL_meanError_0 : decode cL_meanError 0 = .ok (.aload_n 2, 1) := by decide +kernel
theorem dL_meanError_1 : decode cL_meanError 1 = .ok (.iconst 0, 1) := by decide +kernel
theorem dL_meanError_2 : decode cL_meanError 2 = .ok (.aload_n 0, 1) := by decide +kernel
theorem dL_meanError_3 : decode cL_meanError 3 = .ok (.iload_n 1, 1) := by decide +kernel
theorem dL_meanError_4 : decode cL_meanError 4 = .ok (.invokevirtual 81, 3) := by decide +kernel
theorem dL_meanError_7 : decode cL_meanError 7 = .ok (.dastore, 1) := by decide +kernel
theorem dL_meanError_8 : decode cL_meanError 8 = .ok (.goto 6, 3) := by decide +kernel
theorem dL_meanError_11 : decode cL_meanError 11 = .ok (.astore_n 3, 1) := by decide +kernel
theorem dL_meanError_12 : decode cL_meanError 12 = .ok (.iconst 1, 1) := by decide +kernel
theorem dL_meanError_13 : decode cL_meanError 13 = .ok (.ireturn, 1) := by decide +kernel
theorem dL_meanError_14 : decode cL_meanError 14 = .ok (.iconst 0, 1) := by decide +kernel
theorem dL_meanError_15 : decode cL_meanError 15 = .ok (.ireturn, 1) := by decide +kernel
theorem dL_wouldSee_0 : decode cL_wouldSee 0 = .ok (.aload_n 3, 1) := by decide +kernel
theorem dL_wouldSee_1 : decode cL_wouldSee 1 = .ok (.iconst 0, 1) := by decide +kernel
theorem dL_wouldSee_2 : decode cL_wouldSee 2 = .ok (.aload_n 0, 1) := by decide +kernel
theorem dL_wouldSee_3 : decode cL_wouldSee 3 = .ok (.iload_n 1, 1) := by decide +kernel
theorem dL_wouldSee_4 : decode cL_wouldSee 4 = .ok (.iload_n 2, 1) := by decide +kernel
theorem dL_wouldSee_5 : decode cL_wouldSee 5 = .ok (.invokevirtual 85, 3) := by decide +kernel
theorem dL_wouldSee_8 : decode cL_wouldSee 8 = .ok (.i2l, 1) := by decide +kernel
theorem dL_wouldSee_9 : decode cL_wouldSee 9 = .ok (.lastore, 1) := by decide +kernel
theorem dL_wouldSee_10 : decode cL_wouldSee 10 = .ok (.goto 11, 3) := by decide +kernel
theorem dL_wouldSee_13 : decode cL_wouldSee 13 = .ok (.astore 4, 2) := by decide +kernel
theorem dL_wouldSee_15 : decode cL_wouldSee 15 = .ok (.iconst 1, 1) := by decide +kernel
theorem dL_wouldSee_16 : decode cL_wouldSee 16 = .ok (.ireturn, 1) := by decide +kernel
theorem dL_wouldSee_17 : decode cL_wouldSee 17 = .ok (.astore 4, 2) := by decide +kernel
theorem dL_wouldSee_19 : decode cL_wouldSee 19 = .ok (.iconst 2, 1) := by decide +kernel
theorem dL_wouldSee_20 : decode cL_wouldSee 20 = .ok (.ireturn, 1) := by decide +kernel
theorem dL_wouldSee_21 : decode cL_wouldSee 21 = .ok (.iconst 0, 1) := by decide +kernel
theorem dL_wouldSee_22 : decode cL_wouldSee 22 = .ok (.ireturn, 1) := by decide +kernel
theorem dL_heardIn_0 : decode cL_heardIn 0 = .ok (.aload_n 3, 1) := by decide +kernel
theorem dL_heardIn_1 : decode cL_heardIn 1 = .ok (.iconst 0, 1) := by decide +kernel
theorem dL_heardIn_2 : decode cL_heardIn 2 = .ok (.aload_n 0, 1) := by decide +kernel
theorem dL_heardIn_3 : decode cL_heardIn 3 = .ok (.iload_n 1, 1) := by decide +kernel
theorem dL_heardIn_4 : decode cL_heardIn 4 = .ok (.iload_n 2, 1) := by decide +kernel
theorem dL_heardIn_5 : decode cL_heardIn 5 = .ok (.invokevirtual 88, 3) := by decide +kernel
theorem dL_heardIn_8 : decode cL_heardIn 8 = .ok (.i2l, 1) := by decide +kernel
theorem dL_heardIn_9 : decode cL_heardIn 9 = .ok (.lastore, 1) := by decide +kernel
theorem dL_heardIn_10 : decode cL_heardIn 10 = .ok (.goto 7, 3) := by decide +kernel
theorem dL_heardIn_13 : decode cL_heardIn 13 = .ok (.astore 4, 2) := by decide +kernel
theorem dL_heardIn_15 : decode cL_heardIn 15 = .ok (.iconst 1, 1) := by decide +kernel
theorem dL_heardIn_16 : decode cL_heardIn 16 = .ok (.ireturn, 1) := by decide +kernel
theorem dL_heardIn_17 : decode cL_heardIn 17 = .ok (.iconst 0, 1) := by decide +kernel
theorem dL_heardIn_18 : decode cL_heardIn 18 = .ok (.ireturn, 1) := by decide +kernel
theorem dL_without_0 : decode cL_without 0 = .ok (.aload_n 3, 1) := by decide +kernel
theorem dL_without_1 : decode cL_without 1 = .ok (.iconst 0, 1) := by decide +kernel
theorem dL_without_2 : decode cL_without 2 = .ok (.aload_n 0, 1) := by decide +kernel
theorem dL_without_3 : decode cL_without 3 = .ok (.iload_n 1, 1) := by decide +kernel
theorem dL_without_4 : decode cL_without 4 = .ok (.iload_n 2, 1) := by decide +kernel
theorem dL_without_5 : decode cL_without 5 = .ok (.invokevirtual 91, 3) := by decide +kernel
theorem dL_without_8 : decode cL_without 8 = .ok (.i2l, 1) := by decide +kernel
theorem dL_without_9 : decode cL_without 9 = .ok (.lastore, 1) := by decide +kernel
theorem dL_without_10 : decode cL_without 10 = .ok (.goto 7, 3) := by decide +kernel
theorem dL_without_13 : decode cL_without 13 = .ok (.astore 4, 2) := by decide +kernel
theorem dL_without_15 : decode cL_without 15 = .ok (.iconst 1, 1) := by decide +kernel
theorem dL_without_16 : decode cL_without 16 = .ok (.ireturn, 1) := by decide +kernel
theorem dL_without_17 : decode cL_without 17 = .ok (.iconst 0, 1) := by decide +kernel
theorem dL_without_18 : decode cL_without 18 = .ok (.ireturn, 1) := by decide +kernel
theorem dL_wouldAlarm_0 : decode cL_wouldAlarm 0 = .ok (.aload_n 2, 1) := by decide +kernel
theorem dL_wouldAlarm_1 : decode cL_wouldAlarm 1 = .ok (.iconst 0, 1) := by decide +kernel
theorem dL_wouldAlarm_2 : decode cL_wouldAlarm 2 = .ok (.aload_n 0, 1) := by decide +kernel
theorem dL_wouldAlarm_3 : decode cL_wouldAlarm 3 = .ok (.iload_n 1, 1) := by decide +kernel
theorem dL_wouldAlarm_4 : decode cL_wouldAlarm 4 = .ok (.invokevirtual 94, 3) := by decide +kernel
theorem dL_wouldAlarm_7 : decode cL_wouldAlarm 7 = .ok (.i2l, 1) := by decide +kernel
theorem dL_wouldAlarm_8 : decode cL_wouldAlarm 8 = .ok (.lastore, 1) := by decide +kernel
theorem dL_wouldAlarm_9 : decode cL_wouldAlarm 9 = .ok (.goto 6, 3) := by decide +kernel
theorem dL_wouldAlarm_12 : decode cL_wouldAlarm 12 = .ok (.astore_n 3, 1) := by decide +kernel
theorem dL_wouldAlarm_13 : decode cL_wouldAlarm 13 = .ok (.iconst 1, 1) := by decide +kernel
theorem dL_wouldAlarm_14 : decode cL_wouldAlarm 14 = .ok (.ireturn, 1) := by decide +kernel
theorem dL_wouldAlarm_15 : decode cL_wouldAlarm 15 = .ok (.iconst 0, 1) := by decide +kernel
theorem dL_wouldAlarm_16 : decode cL_wouldAlarm 16 = .ok (.ireturn, 1) := by decide +kernel
theorem dL_law_0 : decode cL_law 0 = .ok (.new 8, 3) := by decide +kernel
theorem dL_law_3 : decode cL_law 3 = .ok (.dup, 1) := by decide +kernel
theorem dL_law_4 : decode cL_law 4 = .ok (.invokespecial 97, 3) := by decide +kernel
theorem dL_law_7 : decode cL_law 7 = .ok (.astore_n 1, 1) := by decide +kernel
theorem dL_law_8 : decode cL_law 8 = .ok (.new 98, 3) := by decide +kernel
theorem dL_law_11 : decode cL_law 11 = .ok (.dup, 1) := by decide +kernel
theorem dL_law_12 : decode cL_law 12 = .ok (.invokespecial 100, 3) := by decide +kernel
theorem dL_law_15 : decode cL_law 15 = .ok (.astore_n 2, 1) := by decide +kernel
theorem dL_law_16 : decode cL_law 16 = .ok (.iconst 1, 1) := by decide +kernel
theorem dL_law_17 : decode cL_law 17 = .ok (.newarray .long, 2) := by decide +kernel
theorem dL_law_19 : decode cL_law 19 = .ok (.astore_n 3, 1) := by decide +kernel
theorem dL_law_20 : decode cL_law 20 = .ok (.iconst 1, 1) := by decide +kernel
theorem dL_law_21 : decode cL_law 21 = .ok (.newarray .double, 2) := by decide +kernel
theorem dL_law_23 : decode cL_law 23 = .ok (.astore 4, 2) := by decide +kernel
theorem dL_law_25 : decode cL_law 25 = .ok (.iconst 0, 1) := by decide +kernel
theorem dL_law_26 : decode cL_law 26 = .ok (.istore 5, 2) := by decide +kernel
theorem dL_law_28 : decode cL_law 28 = .ok (.iload 5, 2) := by decide +kernel
theorem dL_law_30 : decode cL_law 30 = .ok (.aload_n 0, 1) := by decide +kernel
theorem dL_law_31 : decode cL_law 31 = .ok (.arraylength, 1) := by decide +kernel
theorem dL_law_32 : decode cL_law 32 = .ok (.bipush 6, 2) := by decide +kernel
theorem dL_law_34 : decode cL_law 34 = .ok (.isub, 1) := by decide +kernel
theorem dL_law_35 : decode cL_law 35 = .ok (.if_icmp .gt 1957, 3) := by decide +kernel
theorem dL_law_38 : decode cL_law 38 = .ok (.aload_n 0, 1) := by decide +kernel
theorem dL_law_39 : decode cL_law 39 = .ok (.iload 5, 2) := by decide +kernel
theorem dL_law_41 : decode cL_law 41 = .ok (.iaload, 1) := by decide +kernel
theorem dL_law_42 : decode cL_law 42 = .ok (.bipush 31, 2) := by decide +kernel
theorem dL_law_44 : decode cL_law 44 = .ok (.iand, 1) := by decide +kernel
theorem dL_law_45 : decode cL_law 45 = .ok (.tableswitch 1941 0 25 #[119, 223, 291, 371, 462, 530, 598, 678, 758, 838, 934, 1002, 1070, 1138, 1194, 1250, 1318, 1386, 1466, 1534, 1590, 1667, 1735, 1803, 1871, 1927], 119) := by decide +kernel
theorem dL_law_164 : decode cL_law 164 = .ok (.aload_n 1, 1) := by decide +kernel
theorem dL_law_165 : decode cL_law 165 = .ok (.aload_n 0, 1) := by decide +kernel
theorem dL_law_166 : decode cL_law 166 = .ok (.iload 5, 2) := by decide +kernel
theorem dL_law_168 : decode cL_law 168 = .ok (.iconst 1, 1) := by decide +kernel
theorem dL_law_169 : decode cL_law 169 = .ok (.iadd, 1) := by decide +kernel
theorem dL_law_170 : decode cL_law 170 = .ok (.iaload, 1) := by decide +kernel
theorem dL_law_171 : decode cL_law 171 = .ok (.aload_n 0, 1) := by decide +kernel
theorem dL_law_172 : decode cL_law 172 = .ok (.iload 5, 2) := by decide +kernel
theorem dL_law_174 : decode cL_law 174 = .ok (.iconst 2, 1) := by decide +kernel
theorem dL_law_175 : decode cL_law 175 = .ok (.iadd, 1) := by decide +kernel
theorem dL_law_176 : decode cL_law 176 = .ok (.iaload, 1) := by decide +kernel
theorem dL_law_177 : decode cL_law 177 = .ok (.aload_n 0, 1) := by decide +kernel
theorem dL_law_178 : decode cL_law 178 = .ok (.iload 5, 2) := by decide +kernel
theorem dL_law_180 : decode cL_law 180 = .ok (.iconst 3, 1) := by decide +kernel
theorem dL_law_181 : decode cL_law 181 = .ok (.iadd, 1) := by decide +kernel
theorem dL_law_182 : decode cL_law 182 = .ok (.iaload, 1) := by decide +kernel
theorem dL_law_183 : decode cL_law 183 = .ok (.aload_n 0, 1) := by decide +kernel
theorem dL_law_184 : decode cL_law 184 = .ok (.iload 5, 2) := by decide +kernel
theorem dL_law_186 : decode cL_law 186 = .ok (.iconst 4, 1) := by decide +kernel
theorem dL_law_187 : decode cL_law 187 = .ok (.iadd, 1) := by decide +kernel
theorem dL_law_188 : decode cL_law 188 = .ok (.iaload, 1) := by decide +kernel
theorem dL_law_189 : decode cL_law 189 = .ok (.aload_n 0, 1) := by decide +kernel
theorem dL_law_190 : decode cL_law 190 = .ok (.iload 5, 2) := by decide +kernel
theorem dL_law_192 : decode cL_law 192 = .ok (.iconst 5, 1) := by decide +kernel
theorem dL_law_193 : decode cL_law 193 = .ok (.iadd, 1) := by decide +kernel
theorem dL_law_194 : decode cL_law 194 = .ok (.iaload, 1) := by decide +kernel
theorem dL_law_195 : decode cL_law 195 = .ok (.aload_n 3, 1) := by decide +kernel
theorem dL_law_196 : decode cL_law 196 = .ok (.invokestatic 101, 3) := by decide +kernel
theorem dL_law_199 : decode cL_law 199 = .ok (.istore 6, 2) := by decide +kernel
theorem dL_law_201 : decode cL_law 201 = .ok (.aload_n 2, 1) := by decide +kernel
theorem dL_law_202 : decode cL_law 202 = .ok (.aload_n 0, 1) := by decide +kernel
theorem dL_law_203 : decode cL_law 203 = .ok (.iload 5, 2) := by decide +kernel
theorem dL_law_205 : decode cL_law 205 = .ok (.iconst 1, 1) := by decide +kernel
theorem dL_law_206 : decode cL_law 206 = .ok (.iadd, 1) := by decide +kernel
theorem dL_law_207 : decode cL_law 207 = .ok (.iaload, 1) := by decide +kernel
theorem dL_law_208 : decode cL_law 208 = .ok (.aload_n 0, 1) := by decide +kernel
theorem dL_law_209 : decode cL_law 209 = .ok (.iload 5, 2) := by decide +kernel
theorem dL_law_211 : decode cL_law 211 = .ok (.iconst 2, 1) := by decide +kernel
theorem dL_law_212 : decode cL_law 212 = .ok (.iadd, 1) := by decide +kernel
theorem dL_law_213 : decode cL_law 213 = .ok (.iaload, 1) := by decide +kernel
theorem dL_law_214 : decode cL_law 214 = .ok (.aload_n 0, 1) := by decide +kernel
theorem dL_law_215 : decode cL_law 215 = .ok (.iload 5, 2) := by decide +kernel
theorem dL_law_217 : decode cL_law 217 = .ok (.iconst 3, 1) := by decide +kernel
theorem dL_law_218 : decode cL_law 218 = .ok (.iadd, 1) := by decide +kernel
theorem dL_law_219 : decode cL_law 219 = .ok (.iaload, 1) := by decide +kernel
theorem dL_law_220 : decode cL_law 220 = .ok (.aload_n 0, 1) := by decide +kernel
theorem dL_law_221 : decode cL_law 221 = .ok (.iload 5, 2) := by decide +kernel
theorem dL_law_223 : decode cL_law 223 = .ok (.iconst 4, 1) := by decide +kernel
theorem dL_law_224 : decode cL_law 224 = .ok (.iadd, 1) := by decide +kernel
theorem dL_law_225 : decode cL_law 225 = .ok (.iaload, 1) := by decide +kernel
theorem dL_law_226 : decode cL_law 226 = .ok (.aload_n 0, 1) := by decide +kernel
theorem dL_law_227 : decode cL_law 227 = .ok (.iload 5, 2) := by decide +kernel
theorem dL_law_229 : decode cL_law 229 = .ok (.iconst 5, 1) := by decide +kernel
theorem dL_law_230 : decode cL_law 230 = .ok (.iadd, 1) := by decide +kernel
theorem dL_law_231 : decode cL_law 231 = .ok (.iaload, 1) := by decide +kernel
theorem dL_law_232 : decode cL_law 232 = .ok (.invokevirtual 106, 3) := by decide +kernel
theorem dL_law_235 : decode cL_law 235 = .ok (.istore 7, 2) := by decide +kernel
theorem dL_law_237 : decode cL_law 237 = .ok (.aload_n 2, 1) := by decide +kernel
theorem dL_law_238 : decode cL_law 238 = .ok (.invokevirtual 107, 3) := by decide +kernel
theorem dL_law_241 : decode cL_law 241 = .ok (.iload 6, 2) := by decide +kernel
theorem dL_law_243 : decode cL_law 243 = .ok (.if_icmp .eq 5, 3) := by decide +kernel
theorem dL_law_246 : decode cL_law 246 = .ok (.iconst 0, 1) := by decide +kernel
theorem dL_law_247 : decode cL_law 247 = .ok (.ireturn, 1) := by decide +kernel
theorem dL_law_248 : decode cL_law 248 = .ok (.iload 6, 2) := by decide +kernel
theorem dL_law_250 : decode cL_law 250 = .ok (.ifCond .ne 15, 3) := by decide +kernel
theorem dL_law_253 : decode cL_law 253 = .ok (.aload_n 3, 1) := by decide +kernel
theorem dL_law_254 : decode cL_law 254 = .ok (.iconst 0, 1) := by decide +kernel
theorem dL_law_255 : decode cL_law 255 = .ok (.laload, 1) := by decide +kernel
theorem dL_law_256 : decode cL_law 256 = .ok (.iload 7, 2) := by decide +kernel
theorem dL_law_258 : decode cL_law 258 = .ok (.i2l, 1) := by decide +kernel
theorem dL_law_259 : decode cL_law 259 = .ok (.lcmp, 1) := by decide +kernel
theorem dL_law_260 : decode cL_law 260 = .ok (.ifCond .eq 5, 3) := by decide +kernel
theorem dL_law_263 : decode cL_law 263 = .ok (.iconst 0, 1) := by decide +kernel
theorem dL_law_264 : decode cL_law 264 = .ok (.ireturn, 1) := by decide +kernel
theorem dL_law_265 : decode cL_law 265 = .ok (.goto 1721, 3) := by decide +kernel
theorem dL_law_268 : decode cL_law 268 = .ok (.aload_n 1, 1) := by decide +kernel
theorem dL_law_269 : decode cL_law 269 = .ok (.aload_n 0, 1) := by decide +kernel
theorem dL_law_270 : decode cL_law 270 = .ok (.iload 5, 2) := by decide +kernel
theorem dL_law_272 : decode cL_law 272 = .ok (.iconst 1, 1) := by decide +kernel
theorem dL_law_273 : decode cL_law 273 = .ok (.iadd, 1) := by decide +kernel
theorem dL_law_274 : decode cL_law 274 = .ok (.iaload, 1) := by decide +kernel
theorem dL_law_275 : decode cL_law 275 = .ok (.aload_n 0, 1) := by decide +kernel
theorem dL_law_276 : decode cL_law 276 = .ok (.iload 5, 2) := by decide +kernel
theorem dL_law_278 : decode cL_law 278 = .ok (.iconst 2, 1) := by decide +kernel
theorem dL_law_279 : decode cL_law 279 = .ok (.iadd, 1) := by decide +kernel
theorem dL_law_280 : decode cL_law 280 = .ok (.iaload, 1) := by decide +kernel
theorem dL_law_281 : decode cL_law 281 = .ok (.aload_n 3, 1) := by decide +kernel
theorem dL_law_282 : decode cL_law 282 = .ok (.invokestatic 111, 3) := by decide +kernel
theorem dL_law_285 : decode cL_law 285 = .ok (.istore 6, 2) := by decide +kernel
theorem dL_law_287 : decode cL_law 287 = .ok (.aload_n 2, 1) := by decide +kernel
theorem dL_law_288 : decode cL_law 288 = .ok (.aload_n 0, 1) := by decide +kernel
theorem dL_law_289 : decode cL_law 289 = .ok (.iload 5, 2) := by decide +kernel
theorem dL_law_291 : decode cL_law 291 = .ok (.iconst 1, 1) := by decide +kernel
theorem dL_law_292 : decode cL_law 292 = .ok (.iadd, 1) := by decide +kernel
theorem dL_law_293 : decode cL_law 293 = .ok (.iaload, 1) := by decide +kernel
theorem dL_law_294 : decode cL_law 294 = .ok (.aload_n 0, 1) := by decide +kernel
theorem dL_law_295 : decode cL_law 295 = .ok (.iload 5, 2) := by decide +kernel
theorem dL_law_297 : decode cL_law 297 = .ok (.iconst 2, 1) := by decide +kernel
theorem dL_law_298 : decode cL_law 298 = .ok (.iadd, 1) := by decide +kernel
theorem dL_law_299 : decode cL_law 299 = .ok (.iaload, 1) := by decide +kernel
theorem dL_law_300 : decode cL_law 300 = .ok (.invokevirtual 114, 3) := by decide +kernel
theorem dL_law_303 : decode cL_law 303 = .ok (.istore 7, 2) := by decide +kernel
theorem dL_law_305 : decode cL_law 305 = .ok (.aload_n 2, 1) := by decide +kernel
theorem dL_law_306 : decode cL_law 306 = .ok (.invokevirtual 107, 3) := by decide +kernel
theorem dL_law_309 : decode cL_law 309 = .ok (.iload 6, 2) := by decide +kernel
theorem dL_law_311 : decode cL_law 311 = .ok (.if_icmp .eq 5, 3) := by decide +kernel
theorem dL_law_314 : decode cL_law 314 = .ok (.iconst 0, 1) := by decide +kernel
theorem dL_law_315 : decode cL_law 315 = .ok (.ireturn, 1) := by decide +kernel
theorem dL_law_316 : decode cL_law 316 = .ok (.iload 6, 2) := by decide +kernel
theorem dL_law_318 : decode cL_law 318 = .ok (.ifCond .ne 15, 3) := by decide +kernel
theorem dL_law_321 : decode cL_law 321 = .ok (.aload_n 3, 1) := by decide +kernel
theorem dL_law_322 : decode cL_law 322 = .ok (.iconst 0, 1) := by decide +kernel
theorem dL_law_323 : decode cL_law 323 = .ok (.laload, 1) := by decide +kernel
theorem dL_law_324 : decode cL_law 324 = .ok (.iload 7, 2) := by decide +kernel
theorem dL_law_326 : decode cL_law 326 = .ok (.i2l, 1) := by decide +kernel
theorem dL_law_327 : decode cL_law 327 = .ok (.lcmp, 1) := by decide +kernel
theorem dL_law_328 : decode cL_law 328 = .ok (.ifCond .eq 5, 3) := by decide +kernel
theorem dL_law_331 : decode cL_law 331 = .ok (.iconst 0, 1) := by decide +kernel
theorem dL_law_332 : decode cL_law 332 = .ok (.ireturn, 1) := by decide +kernel
theorem dL_law_333 : decode cL_law 333 = .ok (.goto 1653, 3) := by decide +kernel
theorem dL_law_336 : decode cL_law 336 = .ok (.aload_n 1, 1) := by decide +kernel
theorem dL_law_337 : decode cL_law 337 = .ok (.aload_n 0, 1) := by decide +kernel
theorem dL_law_338 : decode cL_law 338 = .ok (.iload 5, 2) := by decide +kernel
theorem dL_law_340 : decode cL_law 340 = .ok (.iconst 1, 1) := by decide +kernel
theorem dL_law_341 : decode cL_law 341 = .ok (.iadd, 1) := by decide +kernel
theorem dL_law_342 : decode cL_law 342 = .ok (.iaload, 1) := by decide +kernel
theorem dL_law_343 : decode cL_law 343 = .ok (.aload_n 0, 1) := by decide +kernel
theorem dL_law_344 : decode cL_law 344 = .ok (.iload 5, 2) := by decide +kernel
theorem dL_law_346 : decode cL_law 346 = .ok (.iconst 2, 1) := by decide +kernel
theorem dL_law_347 : decode cL_law 347 = .ok (.iadd, 1) := by decide +kernel
theorem dL_law_348 : decode cL_law 348 = .ok (.iaload, 1) := by decide +kernel
theorem dL_law_349 : decode cL_law 349 = .ok (.aload_n 0, 1) := by decide +kernel
theorem dL_law_350 : decode cL_law 350 = .ok (.iload 5, 2) := by decide +kernel
theorem dL_law_352 : decode cL_law 352 = .ok (.iconst 3, 1) := by decide +kernel
theorem dL_law_353 : decode cL_law 353 = .ok (.iadd, 1) := by decide +kernel
theorem dL_law_354 : decode cL_law 354 = .ok (.iaload, 1) := by decide +kernel
theorem dL_law_355 : decode cL_law 355 = .ok (.aload_n 3, 1) := by decide +kernel
theorem dL_law_356 : decode cL_law 356 = .ok (.invokestatic 115, 3) := by decide +kernel
theorem dL_law_359 : decode cL_law 359 = .ok (.istore 6, 2) := by decide +kernel
theorem dL_law_361 : decode cL_law 361 = .ok (.aload_n 2, 1) := by decide +kernel
theorem dL_law_362 : decode cL_law 362 = .ok (.aload_n 0, 1) := by decide +kernel
theorem dL_law_363 : decode cL_law 363 = .ok (.iload 5, 2) := by decide +kernel
theorem dL_law_365 : decode cL_law 365 = .ok (.iconst 1, 1) := by decide +kernel
theorem dL_law_366 : decode cL_law 366 = .ok (.iadd, 1) := by decide +kernel
theorem dL_law_367 : decode cL_law 367 = .ok (.iaload, 1) := by decide +kernel
theorem dL_law_368 : decode cL_law 368 = .ok (.aload_n 0, 1) := by decide +kernel
theorem dL_law_369 : decode cL_law 369 = .ok (.iload 5, 2) := by decide +kernel
theorem dL_law_371 : decode cL_law 371 = .ok (.iconst 2, 1) := by decide +kernel
theorem dL_law_372 : decode cL_law 372 = .ok (.iadd, 1) := by decide +kernel
theorem dL_law_373 : decode cL_law 373 = .ok (.iaload, 1) := by decide +kernel
theorem dL_law_374 : decode cL_law 374 = .ok (.aload_n 0, 1) := by decide +kernel
theorem dL_law_375 : decode cL_law 375 = .ok (.iload 5, 2) := by decide +kernel
theorem dL_law_377 : decode cL_law 377 = .ok (.iconst 3, 1) := by decide +kernel
theorem dL_law_378 : decode cL_law 378 = .ok (.iadd, 1) := by decide +kernel
theorem dL_law_379 : decode cL_law 379 = .ok (.iaload, 1) := by decide +kernel
theorem dL_law_380 : decode cL_law 380 = .ok (.invokevirtual 118, 3) := by decide +kernel
theorem dL_law_383 : decode cL_law 383 = .ok (.istore 7, 2) := by decide +kernel
theorem dL_law_385 : decode cL_law 385 = .ok (.aload_n 2, 1) := by decide +kernel
theorem dL_law_386 : decode cL_law 386 = .ok (.invokevirtual 107, 3) := by decide +kernel
theorem dL_law_389 : decode cL_law 389 = .ok (.iload 6, 2) := by decide +kernel
theorem dL_law_391 : decode cL_law 391 = .ok (.if_icmp .eq 5, 3) := by decide +kernel
theorem dL_law_394 : decode cL_law 394 = .ok (.iconst 0, 1) := by decide +kernel
theorem dL_law_395 : decode cL_law 395 = .ok (.ireturn, 1) := by decide +kernel
theorem dL_law_396 : decode cL_law 396 = .ok (.iload 6, 2) := by decide +kernel
theorem dL_law_398 : decode cL_law 398 = .ok (.ifCond .ne 15, 3) := by decide +kernel
theorem dL_law_401 : decode cL_law 401 = .ok (.aload_n 3, 1) := by decide +kernel
theorem dL_law_402 : decode cL_law 402 = .ok (.iconst 0, 1) := by decide +kernel
theorem dL_law_403 : decode cL_law 403 = .ok (.laload, 1) := by decide +kernel
theorem dL_law_404 : decode cL_law 404 = .ok (.iload 7, 2) := by decide +kernel
theorem dL_law_406 : decode cL_law 406 = .ok (.i2l, 1) := by decide +kernel
theorem dL_law_407 : decode cL_law 407 = .ok (.lcmp, 1) := by decide +kernel
theorem dL_law_408 : decode cL_law 408 = .ok (.ifCond .eq 5, 3) := by decide +kernel
theorem dL_law_411 : decode cL_law 411 = .ok (.iconst 0, 1) := by decide +kernel
theorem dL_law_412 : decode cL_law 412 = .ok (.ireturn, 1) := by decide +kernel
theorem dL_law_413 : decode cL_law 413 = .ok (.goto 1573, 3) := by decide +kernel
theorem dL_law_416 : decode cL_law 416 = .ok (.aload_n 1, 1) := by decide +kernel
theorem dL_law_417 : decode cL_law 417 = .ok (.aload_n 0, 1) := by decide +kernel
theorem dL_law_418 : decode cL_law 418 = .ok (.iload 5, 2) := by decide +kernel
theorem dL_law_420 : decode cL_law 420 = .ok (.iconst 1, 1) := by decide +kernel
theorem dL_law_421 : decode cL_law 421 = .ok (.iadd, 1) := by decide +kernel
theorem dL_law_422 : decode cL_law 422 = .ok (.iaload, 1) := by decide +kernel
theorem dL_law_423 : decode cL_law 423 = .ok (.aload_n 0, 1) := by decide +kernel
theorem dL_law_424 : decode cL_law 424 = .ok (.iload 5, 2) := by decide +kernel
theorem dL_law_426 : decode cL_law 426 = .ok (.iconst 2, 1) := by decide +kernel
theorem dL_law_427 : decode cL_law 427 = .ok (.iadd, 1) := by decide +kernel
theorem dL_law_428 : decode cL_law 428 = .ok (.iaload, 1) := by decide +kernel
theorem dL_law_429 : decode cL_law 429 = .ok (.ifCond .eq 7, 3) := by decide +kernel
theorem dL_law_432 : decode cL_law 432 = .ok (.iconst 1, 1) := by decide +kernel
theorem dL_law_433 : decode cL_law 433 = .ok (.goto 4, 3) := by decide +kernel
theorem dL_law_436 : decode cL_law 436 = .ok (.iconst 0, 1) := by decide +kernel
theorem dL_law_437 : decode cL_law 437 = .ok (.aload_n 3, 1) := by decide +kernel
theorem dL_law_438 : decode cL_law 438 = .ok (.invokestatic 119, 3) := by decide +kernel
theorem dL_law_441 : decode cL_law 441 = .ok (.istore 6, 2) := by decide +kernel
theorem dL_law_443 : decode cL_law 443 = .ok (.aload_n 2, 1) := by decide +kernel
theorem dL_law_444 : decode cL_law 444 = .ok (.aload_n 0, 1) := by decide +kernel
theorem dL_law_445 : decode cL_law 445 = .ok (.iload 5, 2) := by decide +kernel
theorem dL_law_447 : decode cL_law 447 = .ok (.iconst 1, 1) := by decide +kernel
theorem dL_law_448 : decode cL_law 448 = .ok (.iadd, 1) := by decide +kernel
theorem dL_law_449 : decode cL_law 449 = .ok (.iaload, 1) := by decide +kernel
theorem dL_law_450 : decode cL_law 450 = .ok (.aload_n 0, 1) := by decide +kernel
theorem dL_law_451 : decode cL_law 451 = .ok (.iload 5, 2) := by decide +kernel
theorem dL_law_453 : decode cL_law 453 = .ok (.iconst 2, 1) := by decide +kernel
theorem dL_law_454 : decode cL_law 454 = .ok (.iadd, 1) := by decide +kernel
theorem dL_law_455 : decode cL_law 455 = .ok (.iaload, 1) := by decide +kernel
theorem dL_law_456 : decode cL_law 456 = .ok (.ifCond .eq 7, 3) := by decide +kernel
theorem dL_law_459 : decode cL_law 459 = .ok (.iconst 1, 1) := by decide +kernel
theorem dL_law_460 : decode cL_law 460 = .ok (.goto 4, 3) := by decide +kernel
theorem dL_law_463 : decode cL_law 463 = .ok (.iconst 0, 1) := by decide +kernel
theorem dL_law_464 : decode cL_law 464 = .ok (.invokevirtual 122, 3) := by decide +kernel
theorem dL_law_467 : decode cL_law 467 = .ok (.istore 7, 2) := by decide +kernel
theorem dL_law_469 : decode cL_law 469 = .ok (.aload_n 2, 1) := by decide +kernel
theorem dL_law_470 : decode cL_law 470 = .ok (.invokevirtual 107, 3) := by decide +kernel
theorem dL_law_473 : decode cL_law 473 = .ok (.iload 6, 2) := by decide +kernel
theorem dL_law_475 : decode cL_law 475 = .ok (.if_icmp .eq 5, 3) := by decide +kernel
theorem dL_law_478 : decode cL_law 478 = .ok (.iconst 0, 1) := by decide +kernel
theorem dL_law_479 : decode cL_law 479 = .ok (.ireturn, 1) := by decide +kernel
theorem dL_law_480 : decode cL_law 480 = .ok (.iload 6, 2) := by decide +kernel
theorem dL_law_482 : decode cL_law 482 = .ok (.ifCond .ne 22, 3) := by decide +kernel
theorem dL_law_485 : decode cL_law 485 = .ok (.aload_n 3, 1) := by decide +kernel
theorem dL_law_486 : decode cL_law 486 = .ok (.iconst 0, 1) := by decide +kernel
theorem dL_law_487 : decode cL_law 487 = .ok (.laload, 1) := by decide +kernel
theorem dL_law_488 : decode cL_law 488 = .ok (.iload 7, 2) := by decide +kernel
theorem dL_law_490 : decode cL_law 490 = .ok (.ifCond .eq 7, 3) := by decide +kernel
theorem dL_law_493 : decode cL_law 493 = .ok (.lconst 1, 1) := by decide +kernel
theorem dL_law_494 : decode cL_law 494 = .ok (.goto 4, 3) := by decide +kernel
theorem dL_law_497 : decode cL_law 497 = .ok (.lconst 0, 1) := by decide +kernel
theorem dL_law_498 : decode cL_law 498 = .ok (.lcmp, 1) := by decide +kernel
theorem dL_law_499 : decode cL_law 499 = .ok (.ifCond .eq 5, 3) := by decide +kernel
theorem dL_law_502 : decode cL_law 502 = .ok (.iconst 0, 1) := by decide +kernel
theorem dL_law_503 : decode cL_law 503 = .ok (.ireturn, 1) := by decide +kernel
theorem dL_law_504 : decode cL_law 504 = .ok (.goto 1482, 3) := by decide +kernel
theorem dL_law_507 : decode cL_law 507 = .ok (.aload_n 1, 1) := by decide +kernel
theorem dL_law_508 : decode cL_law 508 = .ok (.aload_n 0, 1) := by decide +kernel
theorem dL_law_509 : decode cL_law 509 = .ok (.iload 5, 2) := by decide +kernel
theorem dL_law_511 : decode cL_law 511 = .ok (.iconst 1, 1) := by decide +kernel
theorem dL_law_512 : decode cL_law 512 = .ok (.iadd, 1) := by decide +kernel
theorem dL_law_513 : decode cL_law 513 = .ok (.iaload, 1) := by decide +kernel
theorem dL_law_514 : decode cL_law 514 = .ok (.aload_n 0, 1) := by decide +kernel
theorem dL_law_515 : decode cL_law 515 = .ok (.iload 5, 2) := by decide +kernel
theorem dL_law_517 : decode cL_law 517 = .ok (.iconst 2, 1) := by decide +kernel
theorem dL_law_518 : decode cL_law 518 = .ok (.iadd, 1) := by decide +kernel
theorem dL_law_519 : decode cL_law 519 = .ok (.iaload, 1) := by decide +kernel
theorem dL_law_520 : decode cL_law 520 = .ok (.aload_n 3, 1) := by decide +kernel
theorem dL_law_521 : decode cL_law 521 = .ok (.invokestatic 123, 3) := by decide +kernel
theorem dL_law_524 : decode cL_law 524 = .ok (.istore 6, 2) := by decide +kernel
theorem dL_law_526 : decode cL_law 526 = .ok (.aload_n 2, 1) := by decide +kernel
theorem dL_law_527 : decode cL_law 527 = .ok (.aload_n 0, 1) := by decide +kernel
theorem dL_law_528 : decode cL_law 528 = .ok (.iload 5, 2) := by decide +kernel
theorem dL_law_530 : decode cL_law 530 = .ok (.iconst 1, 1) := by decide +kernel
theorem dL_law_531 : decode cL_law 531 = .ok (.iadd, 1) := by decide +kernel
theorem dL_law_532 : decode cL_law 532 = .ok (.iaload, 1) := by decide +kernel
theorem dL_law_533 : decode cL_law 533 = .ok (.aload_n 0, 1) := by decide +kernel
theorem dL_law_534 : decode cL_law 534 = .ok (.iload 5, 2) := by decide +kernel
theorem dL_law_536 : decode cL_law 536 = .ok (.iconst 2, 1) := by decide +kernel
theorem dL_law_537 : decode cL_law 537 = .ok (.iadd, 1) := by decide +kernel
theorem dL_law_538 : decode cL_law 538 = .ok (.iaload, 1) := by decide +kernel
theorem dL_law_539 : decode cL_law 539 = .ok (.invokevirtual 125, 3) := by decide +kernel
theorem dL_law_542 : decode cL_law 542 = .ok (.istore 7, 2) := by decide +kernel
theorem dL_law_544 : decode cL_law 544 = .ok (.aload_n 2, 1) := by decide +kernel
theorem dL_law_545 : decode cL_law 545 = .ok (.invokevirtual 107, 3) := by decide +kernel
theorem dL_law_548 : decode cL_law 548 = .ok (.iload 6, 2) := by decide +kernel
theorem dL_law_550 : decode cL_law 550 = .ok (.if_icmp .eq 5, 3) := by decide +kernel
theorem dL_law_553 : decode cL_law 553 = .ok (.iconst 0, 1) := by decide +kernel
theorem dL_law_554 : decode cL_law 554 = .ok (.ireturn, 1) := by decide +kernel
theorem dL_law_555 : decode cL_law 555 = .ok (.iload 6, 2) := by decide +kernel
theorem dL_law_557 : decode cL_law 557 = .ok (.ifCond .ne 15, 3) := by decide +kernel
theorem dL_law_560 : decode cL_law 560 = .ok (.aload_n 3, 1) := by decide +kernel
theorem dL_law_561 : decode cL_law 561 = .ok (.iconst 0, 1) := by decide +kernel
theorem dL_law_562 : decode cL_law 562 = .ok (.laload, 1) := by decide +kernel
theorem dL_law_563 : decode cL_law 563 = .ok (.iload 7, 2) := by decide +kernel
theorem dL_law_565 : decode cL_law 565 = .ok (.i2l, 1) := by decide +kernel
theorem dL_law_566 : decode cL_law 566 = .ok (.lcmp, 1) := by decide +kernel
theorem dL_law_567 : decode cL_law 567 = .ok (.ifCond .eq 5, 3) := by decide +kernel
theorem dL_law_570 : decode cL_law 570 = .ok (.iconst 0, 1) := by decide +kernel
theorem dL_law_571 : decode cL_law 571 = .ok (.ireturn, 1) := by decide +kernel
theorem dL_law_572 : decode cL_law 572 = .ok (.goto 1414, 3) := by decide +kernel
theorem dL_law_575 : decode cL_law 575 = .ok (.aload_n 1, 1) := by decide +kernel
theorem dL_law_576 : decode cL_law 576 = .ok (.aload_n 0, 1) := by decide +kernel
theorem dL_law_577 : decode cL_law 577 = .ok (.iload 5, 2) := by decide +kernel
theorem dL_law_579 : decode cL_law 579 = .ok (.iconst 1, 1) := by decide +kernel
theorem dL_law_580 : decode cL_law 580 = .ok (.iadd, 1) := by decide +kernel
theorem dL_law_581 : decode cL_law 581 = .ok (.iaload, 1) := by decide +kernel
theorem dL_law_582 : decode cL_law 582 = .ok (.aload_n 0, 1) := by decide +kernel
theorem dL_law_583 : decode cL_law 583 = .ok (.iload 5, 2) := by decide +kernel
theorem dL_law_585 : decode cL_law 585 = .ok (.iconst 2, 1) := by decide +kernel
theorem dL_law_586 : decode cL_law 586 = .ok (.iadd, 1) := by decide +kernel
theorem dL_law_587 : decode cL_law 587 = .ok (.iaload, 1) := by decide +kernel
theorem dL_law_588 : decode cL_law 588 = .ok (.aload_n 3, 1) := by decide +kernel
theorem dL_law_589 : decode cL_law 589 = .ok (.invokestatic 126, 3) := by decide +kernel
theorem dL_law_592 : decode cL_law 592 = .ok (.istore 6, 2) := by decide +kernel
theorem dL_law_594 : decode cL_law 594 = .ok (.aload_n 2, 1) := by decide +kernel
theorem dL_law_595 : decode cL_law 595 = .ok (.aload_n 0, 1) := by decide +kernel
theorem dL_law_596 : decode cL_law 596 = .ok (.iload 5, 2) := by decide +kernel
theorem dL_law_598 : decode cL_law 598 = .ok (.iconst 1, 1) := by decide +kernel
theorem dL_law_599 : decode cL_law 599 = .ok (.iadd, 1) := by decide +kernel
theorem dL_law_600 : decode cL_law 600 = .ok (.iaload, 1) := by decide +kernel
theorem dL_law_601 : decode cL_law 601 = .ok (.aload_n 0, 1) := by decide +kernel
theorem dL_law_602 : decode cL_law 602 = .ok (.iload 5, 2) := by decide +kernel
theorem dL_law_604 : decode cL_law 604 = .ok (.iconst 2, 1) := by decide +kernel
theorem dL_law_605 : decode cL_law 605 = .ok (.iadd, 1) := by decide +kernel
theorem dL_law_606 : decode cL_law 606 = .ok (.iaload, 1) := by decide +kernel
theorem dL_law_607 : decode cL_law 607 = .ok (.invokevirtual 128, 3) := by decide +kernel
theorem dL_law_610 : decode cL_law 610 = .ok (.istore 7, 2) := by decide +kernel
theorem dL_law_612 : decode cL_law 612 = .ok (.aload_n 2, 1) := by decide +kernel
theorem dL_law_613 : decode cL_law 613 = .ok (.invokevirtual 107, 3) := by decide +kernel
theorem dL_law_616 : decode cL_law 616 = .ok (.iload 6, 2) := by decide +kernel
theorem dL_law_618 : decode cL_law 618 = .ok (.if_icmp .eq 5, 3) := by decide +kernel
theorem dL_law_621 : decode cL_law 621 = .ok (.iconst 0, 1) := by decide +kernel
theorem dL_law_622 : decode cL_law 622 = .ok (.ireturn, 1) := by decide +kernel
theorem dL_law_623 : decode cL_law 623 = .ok (.iload 6, 2) := by decide +kernel
theorem dL_law_625 : decode cL_law 625 = .ok (.ifCond .ne 15, 3) := by decide +kernel
theorem dL_law_628 : decode cL_law 628 = .ok (.aload_n 3, 1) := by decide +kernel
theorem dL_law_629 : decode cL_law 629 = .ok (.iconst 0, 1) := by decide +kernel
theorem dL_law_630 : decode cL_law 630 = .ok (.laload, 1) := by decide +kernel
theorem dL_law_631 : decode cL_law 631 = .ok (.iload 7, 2) := by decide +kernel
theorem dL_law_633 : decode cL_law 633 = .ok (.i2l, 1) := by decide +kernel
theorem dL_law_634 : decode cL_law 634 = .ok (.lcmp, 1) := by decide +kernel
theorem dL_law_635 : decode cL_law 635 = .ok (.ifCond .eq 5, 3) := by decide +kernel
theorem dL_law_638 : decode cL_law 638 = .ok (.iconst 0, 1) := by decide +kernel
theorem dL_law_639 : decode cL_law 639 = .ok (.ireturn, 1) := by decide +kernel
theorem dL_law_640 : decode cL_law 640 = .ok (.goto 1346, 3) := by decide +kernel
theorem dL_law_643 : decode cL_law 643 = .ok (.aload_n 1, 1) := by decide +kernel
theorem dL_law_644 : decode cL_law 644 = .ok (.aload_n 0, 1) := by decide +kernel
theorem dL_law_645 : decode cL_law 645 = .ok (.iload 5, 2) := by decide +kernel
theorem dL_law_647 : decode cL_law 647 = .ok (.iconst 1, 1) := by decide +kernel
theorem dL_law_648 : decode cL_law 648 = .ok (.iadd, 1) := by decide +kernel
theorem dL_law_649 : decode cL_law 649 = .ok (.iaload, 1) := by decide +kernel
theorem dL_law_650 : decode cL_law 650 = .ok (.aload_n 0, 1) := by decide +kernel
theorem dL_law_651 : decode cL_law 651 = .ok (.iload 5, 2) := by decide +kernel
theorem dL_law_653 : decode cL_law 653 = .ok (.iconst 2, 1) := by decide +kernel
theorem dL_law_654 : decode cL_law 654 = .ok (.iadd, 1) := by decide +kernel
theorem dL_law_655 : decode cL_law 655 = .ok (.iaload, 1) := by decide +kernel
theorem dL_law_656 : decode cL_law 656 = .ok (.aload_n 0, 1) := by decide +kernel
theorem dL_law_657 : decode cL_law 657 = .ok (.iload 5, 2) := by decide +kernel
theorem dL_law_659 : decode cL_law 659 = .ok (.iconst 3, 1) := by decide +kernel
theorem dL_law_660 : decode cL_law 660 = .ok (.iadd, 1) := by decide +kernel
theorem dL_law_661 : decode cL_law 661 = .ok (.iaload, 1) := by decide +kernel
theorem dL_law_662 : decode cL_law 662 = .ok (.aload_n 3, 1) := by decide +kernel
theorem dL_law_663 : decode cL_law 663 = .ok (.invokestatic 129, 3) := by decide +kernel
theorem dL_law_666 : decode cL_law 666 = .ok (.istore 6, 2) := by decide +kernel
theorem dL_law_668 : decode cL_law 668 = .ok (.aload_n 2, 1) := by decide +kernel
theorem dL_law_669 : decode cL_law 669 = .ok (.aload_n 0, 1) := by decide +kernel
theorem dL_law_670 : decode cL_law 670 = .ok (.iload 5, 2) := by decide +kernel
theorem dL_law_672 : decode cL_law 672 = .ok (.iconst 1, 1) := by decide +kernel
theorem dL_law_673 : decode cL_law 673 = .ok (.iadd, 1) := by decide +kernel
theorem dL_law_674 : decode cL_law 674 = .ok (.iaload, 1) := by decide +kernel
theorem dL_law_675 : decode cL_law 675 = .ok (.aload_n 0, 1) := by decide +kernel
theorem dL_law_676 : decode cL_law 676 = .ok (.iload 5, 2) := by decide +kernel
theorem dL_law_678 : decode cL_law 678 = .ok (.iconst 2, 1) := by decide +kernel
theorem dL_law_679 : decode cL_law 679 = .ok (.iadd, 1) := by decide +kernel
theorem dL_law_680 : decode cL_law 680 = .ok (.iaload, 1) := by decide +kernel
theorem dL_law_681 : decode cL_law 681 = .ok (.aload_n 0, 1) := by decide +kernel
theorem dL_law_682 : decode cL_law 682 = .ok (.iload 5, 2) := by decide +kernel
theorem dL_law_684 : decode cL_law 684 = .ok (.iconst 3, 1) := by decide +kernel
theorem dL_law_685 : decode cL_law 685 = .ok (.iadd, 1) := by decide +kernel
theorem dL_law_686 : decode cL_law 686 = .ok (.iaload, 1) := by decide +kernel
theorem dL_law_687 : decode cL_law 687 = .ok (.invokevirtual 131, 3) := by decide +kernel
theorem dL_law_690 : decode cL_law 690 = .ok (.istore 7, 2) := by decide +kernel
theorem dL_law_692 : decode cL_law 692 = .ok (.aload_n 2, 1) := by decide +kernel
theorem dL_law_693 : decode cL_law 693 = .ok (.invokevirtual 107, 3) := by decide +kernel
theorem dL_law_696 : decode cL_law 696 = .ok (.iload 6, 2) := by decide +kernel
theorem dL_law_698 : decode cL_law 698 = .ok (.if_icmp .eq 5, 3) := by decide +kernel
theorem dL_law_701 : decode cL_law 701 = .ok (.iconst 0, 1) := by decide +kernel
theorem dL_law_702 : decode cL_law 702 = .ok (.ireturn, 1) := by decide +kernel
theorem dL_law_703 : decode cL_law 703 = .ok (.iload 6, 2) := by decide +kernel
theorem dL_law_705 : decode cL_law 705 = .ok (.ifCond .ne 15, 3) := by decide +kernel
theorem dL_law_708 : decode cL_law 708 = .ok (.aload_n 3, 1) := by decide +kernel
theorem dL_law_709 : decode cL_law 709 = .ok (.iconst 0, 1) := by decide +kernel
theorem dL_law_710 : decode cL_law 710 = .ok (.laload, 1) := by decide +kernel
theorem dL_law_711 : decode cL_law 711 = .ok (.iload 7, 2) := by decide +kernel
theorem dL_law_713 : decode cL_law 713 = .ok (.i2l, 1) := by decide +kernel
theorem dL_law_714 : decode cL_law 714 = .ok (.lcmp, 1) := by decide +kernel
theorem dL_law_715 : decode cL_law 715 = .ok (.ifCond .eq 5, 3) := by decide +kernel
theorem dL_law_718 : decode cL_law 718 = .ok (.iconst 0, 1) := by decide +kernel
theorem dL_law_719 : decode cL_law 719 = .ok (.ireturn, 1) := by decide +kernel
theorem dL_law_720 : decode cL_law 720 = .ok (.goto 1266, 3) := by decide +kernel
theorem dL_law_723 : decode cL_law 723 = .ok (.aload_n 1, 1) := by decide +kernel
theorem dL_law_724 : decode cL_law 724 = .ok (.aload_n 0, 1) := by decide +kernel
theorem dL_law_725 : decode cL_law 725 = .ok (.iload 5, 2) := by decide +kernel
theorem dL_law_727 : decode cL_law 727 = .ok (.iconst 1, 1) := by decide +kernel
theorem dL_law_728 : decode cL_law 728 = .ok (.iadd, 1) := by decide +kernel
theorem dL_law_729 : decode cL_law 729 = .ok (.iaload, 1) := by decide +kernel
theorem dL_law_730 : decode cL_law 730 = .ok (.aload_n 0, 1) := by decide +kernel
theorem dL_law_731 : decode cL_law 731 = .ok (.iload 5, 2) := by decide +kernel
theorem dL_law_733 : decode cL_law 733 = .ok (.iconst 2, 1) := by decide +kernel
theorem dL_law_734 : decode cL_law 734 = .ok (.iadd, 1) := by decide +kernel
theorem dL_law_735 : decode cL_law 735 = .ok (.iaload, 1) := by decide +kernel
theorem dL_law_736 : decode cL_law 736 = .ok (.aload_n 0, 1) := by decide +kernel
theorem dL_law_737 : decode cL_law 737 = .ok (.iload 5, 2) := by decide +kernel
theorem dL_law_739 : decode cL_law 739 = .ok (.iconst 3, 1) := by decide +kernel
theorem dL_law_740 : decode cL_law 740 = .ok (.iadd, 1) := by decide +kernel
theorem dL_law_741 : decode cL_law 741 = .ok (.iaload, 1) := by decide +kernel
theorem dL_law_742 : decode cL_law 742 = .ok (.aload_n 3, 1) := by decide +kernel
theorem dL_law_743 : decode cL_law 743 = .ok (.invokestatic 132, 3) := by decide +kernel
theorem dL_law_746 : decode cL_law 746 = .ok (.istore 6, 2) := by decide +kernel
theorem dL_law_748 : decode cL_law 748 = .ok (.aload_n 2, 1) := by decide +kernel
theorem dL_law_749 : decode cL_law 749 = .ok (.aload_n 0, 1) := by decide +kernel
theorem dL_law_750 : decode cL_law 750 = .ok (.iload 5, 2) := by decide +kernel
theorem dL_law_752 : decode cL_law 752 = .ok (.iconst 1, 1) := by decide +kernel
theorem dL_law_753 : decode cL_law 753 = .ok (.iadd, 1) := by decide +kernel
theorem dL_law_754 : decode cL_law 754 = .ok (.iaload, 1) := by decide +kernel
theorem dL_law_755 : decode cL_law 755 = .ok (.aload_n 0, 1) := by decide +kernel
theorem dL_law_756 : decode cL_law 756 = .ok (.iload 5, 2) := by decide +kernel
theorem dL_law_758 : decode cL_law 758 = .ok (.iconst 2, 1) := by decide +kernel
theorem dL_law_759 : decode cL_law 759 = .ok (.iadd, 1) := by decide +kernel
theorem dL_law_760 : decode cL_law 760 = .ok (.iaload, 1) := by decide +kernel
theorem dL_law_761 : decode cL_law 761 = .ok (.aload_n 0, 1) := by decide +kernel
theorem dL_law_762 : decode cL_law 762 = .ok (.iload 5, 2) := by decide +kernel
theorem dL_law_764 : decode cL_law 764 = .ok (.iconst 3, 1) := by decide +kernel
theorem dL_law_765 : decode cL_law 765 = .ok (.iadd, 1) := by decide +kernel
theorem dL_law_766 : decode cL_law 766 = .ok (.iaload, 1) := by decide +kernel
theorem dL_law_767 : decode cL_law 767 = .ok (.invokevirtual 134, 3) := by decide +kernel
theorem dL_law_770 : decode cL_law 770 = .ok (.istore 7, 2) := by decide +kernel
theorem dL_law_772 : decode cL_law 772 = .ok (.aload_n 2, 1) := by decide +kernel
theorem dL_law_773 : decode cL_law 773 = .ok (.invokevirtual 107, 3) := by decide +kernel
theorem dL_law_776 : decode cL_law 776 = .ok (.iload 6, 2) := by decide +kernel
theorem dL_law_778 : decode cL_law 778 = .ok (.if_icmp .eq 5, 3) := by decide +kernel
theorem dL_law_781 : decode cL_law 781 = .ok (.iconst 0, 1) := by decide +kernel
theorem dL_law_782 : decode cL_law 782 = .ok (.ireturn, 1) := by decide +kernel
theorem dL_law_783 : decode cL_law 783 = .ok (.iload 6, 2) := by decide +kernel
theorem dL_law_785 : decode cL_law 785 = .ok (.ifCond .ne 15, 3) := by decide +kernel
theorem dL_law_788 : decode cL_law 788 = .ok (.aload_n 3, 1) := by decide +kernel
theorem dL_law_789 : decode cL_law 789 = .ok (.iconst 0, 1) := by decide +kernel
theorem dL_law_790 : decode cL_law 790 = .ok (.laload, 1) := by decide +kernel
theorem dL_law_791 : decode cL_law 791 = .ok (.iload 7, 2) := by decide +kernel
theorem dL_law_793 : decode cL_law 793 = .ok (.i2l, 1) := by decide +kernel
theorem dL_law_794 : decode cL_law 794 = .ok (.lcmp, 1) := by decide +kernel
theorem dL_law_795 : decode cL_law 795 = .ok (.ifCond .eq 5, 3) := by decide +kernel
theorem dL_law_798 : decode cL_law 798 = .ok (.iconst 0, 1) := by decide +kernel
theorem dL_law_799 : decode cL_law 799 = .ok (.ireturn, 1) := by decide +kernel
theorem dL_law_800 : decode cL_law 800 = .ok (.goto 1186, 3) := by decide +kernel
theorem dL_law_803 : decode cL_law 803 = .ok (.aload_n 1, 1) := by decide +kernel
theorem dL_law_804 : decode cL_law 804 = .ok (.aload_n 0, 1) := by decide +kernel
theorem dL_law_805 : decode cL_law 805 = .ok (.iload 5, 2) := by decide +kernel
theorem dL_law_807 : decode cL_law 807 = .ok (.iconst 1, 1) := by decide +kernel
theorem dL_law_808 : decode cL_law 808 = .ok (.iadd, 1) := by decide +kernel
theorem dL_law_809 : decode cL_law 809 = .ok (.iaload, 1) := by decide +kernel
theorem dL_law_810 : decode cL_law 810 = .ok (.aload_n 0, 1) := by decide +kernel
theorem dL_law_811 : decode cL_law 811 = .ok (.iload 5, 2) := by decide +kernel
theorem dL_law_813 : decode cL_law 813 = .ok (.iconst 2, 1) := by decide +kernel
theorem dL_law_814 : decode cL_law 814 = .ok (.iadd, 1) := by decide +kernel
theorem dL_law_815 : decode cL_law 815 = .ok (.iaload, 1) := by decide +kernel
theorem dL_law_816 : decode cL_law 816 = .ok (.aload_n 0, 1) := by decide +kernel
theorem dL_law_817 : decode cL_law 817 = .ok (.iload 5, 2) := by decide +kernel
theorem dL_law_819 : decode cL_law 819 = .ok (.iconst 3, 1) := by decide +kernel
theorem dL_law_820 : decode cL_law 820 = .ok (.iadd, 1) := by decide +kernel
theorem dL_law_821 : decode cL_law 821 = .ok (.iaload, 1) := by decide +kernel
theorem dL_law_822 : decode cL_law 822 = .ok (.aload_n 3, 1) := by decide +kernel
theorem dL_law_823 : decode cL_law 823 = .ok (.invokestatic 135, 3) := by decide +kernel
theorem dL_law_826 : decode cL_law 826 = .ok (.istore 6, 2) := by decide +kernel
theorem dL_law_828 : decode cL_law 828 = .ok (.aload_n 2, 1) := by decide +kernel
theorem dL_law_829 : decode cL_law 829 = .ok (.aload_n 0, 1) := by decide +kernel
theorem dL_law_830 : decode cL_law 830 = .ok (.iload 5, 2) := by decide +kernel
theorem dL_law_832 : decode cL_law 832 = .ok (.iconst 1, 1) := by decide +kernel
theorem dL_law_833 : decode cL_law 833 = .ok (.iadd, 1) := by decide +kernel
theorem dL_law_834 : decode cL_law 834 = .ok (.iaload, 1) := by decide +kernel
theorem dL_law_835 : decode cL_law 835 = .ok (.aload_n 0, 1) := by decide +kernel
theorem dL_law_836 : decode cL_law 836 = .ok (.iload 5, 2) := by decide +kernel
theorem dL_law_838 : decode cL_law 838 = .ok (.iconst 2, 1) := by decide +kernel
theorem dL_law_839 : decode cL_law 839 = .ok (.iadd, 1) := by decide +kernel
theorem dL_law_840 : decode cL_law 840 = .ok (.iaload, 1) := by decide +kernel
theorem dL_law_841 : decode cL_law 841 = .ok (.aload_n 0, 1) := by decide +kernel
theorem dL_law_842 : decode cL_law 842 = .ok (.iload 5, 2) := by decide +kernel
theorem dL_law_844 : decode cL_law 844 = .ok (.iconst 3, 1) := by decide +kernel
theorem dL_law_845 : decode cL_law 845 = .ok (.iadd, 1) := by decide +kernel
theorem dL_law_846 : decode cL_law 846 = .ok (.iaload, 1) := by decide +kernel
theorem dL_law_847 : decode cL_law 847 = .ok (.invokevirtual 137, 3) := by decide +kernel
theorem dL_law_850 : decode cL_law 850 = .ok (.istore 7, 2) := by decide +kernel
theorem dL_law_852 : decode cL_law 852 = .ok (.aload_n 2, 1) := by decide +kernel
theorem dL_law_853 : decode cL_law 853 = .ok (.invokevirtual 107, 3) := by decide +kernel
theorem dL_law_856 : decode cL_law 856 = .ok (.iload 6, 2) := by decide +kernel
theorem dL_law_858 : decode cL_law 858 = .ok (.if_icmp .eq 5, 3) := by decide +kernel
theorem dL_law_861 : decode cL_law 861 = .ok (.iconst 0, 1) := by decide +kernel
theorem dL_law_862 : decode cL_law 862 = .ok (.ireturn, 1) := by decide +kernel
theorem dL_law_863 : decode cL_law 863 = .ok (.iload 6, 2) := by decide +kernel
theorem dL_law_865 : decode cL_law 865 = .ok (.ifCond .ne 15, 3) := by decide +kernel
theorem dL_law_868 : decode cL_law 868 = .ok (.aload_n 3, 1) := by decide +kernel
theorem dL_law_869 : decode cL_law 869 = .ok (.iconst 0, 1) := by decide +kernel
theorem dL_law_870 : decode cL_law 870 = .ok (.laload, 1) := by decide +kernel
theorem dL_law_871 : decode cL_law 871 = .ok (.iload 7, 2) := by decide +kernel
theorem dL_law_873 : decode cL_law 873 = .ok (.i2l, 1) := by decide +kernel
theorem dL_law_874 : decode cL_law 874 = .ok (.lcmp, 1) := by decide +kernel
theorem dL_law_875 : decode cL_law 875 = .ok (.ifCond .eq 5, 3) := by decide +kernel
theorem dL_law_878 : decode cL_law 878 = .ok (.iconst 0, 1) := by decide +kernel
theorem dL_law_879 : decode cL_law 879 = .ok (.ireturn, 1) := by decide +kernel
theorem dL_law_880 : decode cL_law 880 = .ok (.goto 1106, 3) := by decide +kernel
theorem dL_law_883 : decode cL_law 883 = .ok (.aload_n 1, 1) := by decide +kernel
theorem dL_law_884 : decode cL_law 884 = .ok (.aload_n 0, 1) := by decide +kernel
theorem dL_law_885 : decode cL_law 885 = .ok (.iload 5, 2) := by decide +kernel
theorem dL_law_887 : decode cL_law 887 = .ok (.iconst 1, 1) := by decide +kernel
theorem dL_law_888 : decode cL_law 888 = .ok (.iadd, 1) := by decide +kernel
theorem dL_law_889 : decode cL_law 889 = .ok (.iaload, 1) := by decide +kernel
theorem dL_law_890 : decode cL_law 890 = .ok (.aload_n 0, 1) := by decide +kernel
theorem dL_law_891 : decode cL_law 891 = .ok (.iload 5, 2) := by decide +kernel
theorem dL_law_893 : decode cL_law 893 = .ok (.iconst 2, 1) := by decide +kernel
theorem dL_law_894 : decode cL_law 894 = .ok (.iadd, 1) := by decide +kernel
theorem dL_law_895 : decode cL_law 895 = .ok (.iaload, 1) := by decide +kernel
theorem dL_law_896 : decode cL_law 896 = .ok (.aload_n 0, 1) := by decide +kernel
theorem dL_law_897 : decode cL_law 897 = .ok (.iload 5, 2) := by decide +kernel
theorem dL_law_899 : decode cL_law 899 = .ok (.iconst 3, 1) := by decide +kernel
theorem dL_law_900 : decode cL_law 900 = .ok (.iadd, 1) := by decide +kernel
theorem dL_law_901 : decode cL_law 901 = .ok (.iaload, 1) := by decide +kernel
theorem dL_law_902 : decode cL_law 902 = .ok (.ifCond .eq 7, 3) := by decide +kernel
theorem dL_law_905 : decode cL_law 905 = .ok (.iconst 1, 1) := by decide +kernel
theorem dL_law_906 : decode cL_law 906 = .ok (.goto 4, 3) := by decide +kernel
theorem dL_law_909 : decode cL_law 909 = .ok (.iconst 0, 1) := by decide +kernel
theorem dL_law_910 : decode cL_law 910 = .ok (.aload_n 3, 1) := by decide +kernel
theorem dL_law_911 : decode cL_law 911 = .ok (.invokestatic 138, 3) := by decide +kernel
theorem dL_law_914 : decode cL_law 914 = .ok (.istore 6, 2) := by decide +kernel
theorem dL_law_916 : decode cL_law 916 = .ok (.aload_n 2, 1) := by decide +kernel
theorem dL_law_917 : decode cL_law 917 = .ok (.aload_n 0, 1) := by decide +kernel
theorem dL_law_918 : decode cL_law 918 = .ok (.iload 5, 2) := by decide +kernel
theorem dL_law_920 : decode cL_law 920 = .ok (.iconst 1, 1) := by decide +kernel
theorem dL_law_921 : decode cL_law 921 = .ok (.iadd, 1) := by decide +kernel
theorem dL_law_922 : decode cL_law 922 = .ok (.iaload, 1) := by decide +kernel
theorem dL_law_923 : decode cL_law 923 = .ok (.aload_n 0, 1) := by decide +kernel
theorem dL_law_924 : decode cL_law 924 = .ok (.iload 5, 2) := by decide +kernel
theorem dL_law_926 : decode cL_law 926 = .ok (.iconst 2, 1) := by decide +kernel
theorem dL_law_927 : decode cL_law 927 = .ok (.iadd, 1) := by decide +kernel
theorem dL_law_928 : decode cL_law 928 = .ok (.iaload, 1) := by decide +kernel
theorem dL_law_929 : decode cL_law 929 = .ok (.aload_n 0, 1) := by decide +kernel
theorem dL_law_930 : decode cL_law 930 = .ok (.iload 5, 2) := by decide +kernel
theorem dL_law_932 : decode cL_law 932 = .ok (.iconst 3, 1) := by decide +kernel
theorem dL_law_933 : decode cL_law 933 = .ok (.iadd, 1) := by decide +kernel
theorem dL_law_934 : decode cL_law 934 = .ok (.iaload, 1) := by decide +kernel
theorem dL_law_935 : decode cL_law 935 = .ok (.ifCond .eq 7, 3) := by decide +kernel
theorem dL_law_938 : decode cL_law 938 = .ok (.iconst 1, 1) := by decide +kernel
theorem dL_law_939 : decode cL_law 939 = .ok (.goto 4, 3) := by decide +kernel
theorem dL_law_942 : decode cL_law 942 = .ok (.iconst 0, 1) := by decide +kernel
theorem dL_law_943 : decode cL_law 943 = .ok (.invokevirtual 141, 3) := by decide +kernel
theorem dL_law_946 : decode cL_law 946 = .ok (.istore 7, 2) := by decide +kernel
theorem dL_law_948 : decode cL_law 948 = .ok (.aload_n 2, 1) := by decide +kernel
theorem dL_law_949 : decode cL_law 949 = .ok (.invokevirtual 107, 3) := by decide +kernel
theorem dL_law_952 : decode cL_law 952 = .ok (.iload 6, 2) := by decide +kernel
theorem dL_law_954 : decode cL_law 954 = .ok (.if_icmp .eq 5, 3) := by decide +kernel
theorem dL_law_957 : decode cL_law 957 = .ok (.iconst 0, 1) := by decide +kernel
theorem dL_law_958 : decode cL_law 958 = .ok (.ireturn, 1) := by decide +kernel
theorem dL_law_959 : decode cL_law 959 = .ok (.iload 6, 2) := by decide +kernel
theorem dL_law_961 : decode cL_law 961 = .ok (.ifCond .ne 15, 3) := by decide +kernel
theorem dL_law_964 : decode cL_law 964 = .ok (.aload_n 3, 1) := by decide +kernel
theorem dL_law_965 : decode cL_law 965 = .ok (.iconst 0, 1) := by decide +kernel
theorem dL_law_966 : decode cL_law 966 = .ok (.laload, 1) := by decide +kernel
theorem dL_law_967 : decode cL_law 967 = .ok (.iload 7, 2) := by decide +kernel
theorem dL_law_969 : decode cL_law 969 = .ok (.i2l, 1) := by decide +kernel
theorem dL_law_970 : decode cL_law 970 = .ok (.lcmp, 1) := by decide +kernel
theorem dL_law_971 : decode cL_law 971 = .ok (.ifCond .eq 5, 3) := by decide +kernel
theorem dL_law_974 : decode cL_law 974 = .ok (.iconst 0, 1) := by decide +kernel
theorem dL_law_975 : decode cL_law 975 = .ok (.ireturn, 1) := by decide +kernel
theorem dL_law_976 : decode cL_law 976 = .ok (.goto 1010, 3) := by decide +kernel
theorem dL_law_979 : decode cL_law 979 = .ok (.aload_n 1, 1) := by decide +kernel
theorem dL_law_980 : decode cL_law 980 = .ok (.aload_n 0, 1) := by decide +kernel
theorem dL_law_981 : decode cL_law 981 = .ok (.iload 5, 2) := by decide +kernel
theorem dL_law_983 : decode cL_law 983 = .ok (.iconst 1, 1) := by decide +kernel
theorem dL_law_984 : decode cL_law 984 = .ok (.iadd, 1) := by decide +kernel
theorem dL_law_985 : decode cL_law 985 = .ok (.iaload, 1) := by decide +kernel
theorem dL_law_986 : decode cL_law 986 = .ok (.aload_n 0, 1) := by decide +kernel
theorem dL_law_987 : decode cL_law 987 = .ok (.iload 5, 2) := by decide +kernel
theorem dL_law_989 : decode cL_law 989 = .ok (.iconst 2, 1) := by decide +kernel
theorem dL_law_990 : decode cL_law 990 = .ok (.iadd, 1) := by decide +kernel
theorem dL_law_991 : decode cL_law 991 = .ok (.iaload, 1) := by decide +kernel
theorem dL_law_992 : decode cL_law 992 = .ok (.aload_n 3, 1) := by decide +kernel
theorem dL_law_993 : decode cL_law 993 = .ok (.invokestatic 142, 3) := by decide +kernel
theorem dL_law_996 : decode cL_law 996 = .ok (.istore 6, 2) := by decide +kernel
theorem dL_law_998 : decode cL_law 998 = .ok (.aload_n 2, 1) := by decide +kernel
theorem dL_law_999 : decode cL_law 999 = .ok (.aload_n 0, 1) := by decide +kernel
theorem dL_law_1000 : decode cL_law 1000 = .ok (.iload 5, 2) := by decide +kernel
theorem dL_law_1002 : decode cL_law 1002 = .ok (.iconst 1, 1) := by decide +kernel
theorem dL_law_1003 : decode cL_law 1003 = .ok (.iadd, 1) := by decide +kernel
theorem dL_law_1004 : decode cL_law 1004 = .ok (.iaload, 1) := by decide +kernel
theorem dL_law_1005 : decode cL_law 1005 = .ok (.aload_n 0, 1) := by decide +kernel
theorem dL_law_1006 : decode cL_law 1006 = .ok (.iload 5, 2) := by decide +kernel
theorem dL_law_1008 : decode cL_law 1008 = .ok (.iconst 2, 1) := by decide +kernel
theorem dL_law_1009 : decode cL_law 1009 = .ok (.iadd, 1) := by decide +kernel
theorem dL_law_1010 : decode cL_law 1010 = .ok (.iaload, 1) := by decide +kernel
theorem dL_law_1011 : decode cL_law 1011 = .ok (.invokevirtual 144, 3) := by decide +kernel
theorem dL_law_1014 : decode cL_law 1014 = .ok (.istore 7, 2) := by decide +kernel
theorem dL_law_1016 : decode cL_law 1016 = .ok (.aload_n 2, 1) := by decide +kernel
theorem dL_law_1017 : decode cL_law 1017 = .ok (.invokevirtual 107, 3) := by decide +kernel
theorem dL_law_1020 : decode cL_law 1020 = .ok (.iload 6, 2) := by decide +kernel
theorem dL_law_1022 : decode cL_law 1022 = .ok (.if_icmp .eq 5, 3) := by decide +kernel
theorem dL_law_1025 : decode cL_law 1025 = .ok (.iconst 0, 1) := by decide +kernel
theorem dL_law_1026 : decode cL_law 1026 = .ok (.ireturn, 1) := by decide +kernel
theorem dL_law_1027 : decode cL_law 1027 = .ok (.iload 6, 2) := by decide +kernel
theorem dL_law_1029 : decode cL_law 1029 = .ok (.ifCond .ne 15, 3) := by decide +kernel
theorem dL_law_1032 : decode cL_law 1032 = .ok (.aload_n 3, 1) := by decide +kernel
theorem dL_law_1033 : decode cL_law 1033 = .ok (.iconst 0, 1) := by decide +kernel
theorem dL_law_1034 : decode cL_law 1034 = .ok (.laload, 1) := by decide +kernel
theorem dL_law_1035 : decode cL_law 1035 = .ok (.iload 7, 2) := by decide +kernel
theorem dL_law_1037 : decode cL_law 1037 = .ok (.i2l, 1) := by decide +kernel
theorem dL_law_1038 : decode cL_law 1038 = .ok (.lcmp, 1) := by decide +kernel
theorem dL_law_1039 : decode cL_law 1039 = .ok (.ifCond .eq 5, 3) := by decide +kernel
theorem dL_law_1042 : decode cL_law 1042 = .ok (.iconst 0, 1) := by decide +kernel
theorem dL_law_1043 : decode cL_law 1043 = .ok (.ireturn, 1) := by decide +kernel
theorem dL_law_1044 : decode cL_law 1044 = .ok (.goto 942, 3) := by decide +kernel
theorem dL_law_1047 : decode cL_law 1047 = .ok (.aload_n 1, 1) := by decide +kernel
theorem dL_law_1048 : decode cL_law 1048 = .ok (.aload_n 0, 1) := by decide +kernel
theorem dL_law_1049 : decode cL_law 1049 = .ok (.iload 5, 2) := by decide +kernel
theorem dL_law_1051 : decode cL_law 1051 = .ok (.iconst 1, 1) := by decide +kernel
theorem dL_law_1052 : decode cL_law 1052 = .ok (.iadd, 1) := by decide +kernel
theorem dL_law_1053 : decode cL_law 1053 = .ok (.iaload, 1) := by decide +kernel
theorem dL_law_1054 : decode cL_law 1054 = .ok (.aload_n 0, 1) := by decide +kernel
theorem dL_law_1055 : decode cL_law 1055 = .ok (.iload 5, 2) := by decide +kernel
theorem dL_law_1057 : decode cL_law 1057 = .ok (.iconst 2, 1) := by decide +kernel
theorem dL_law_1058 : decode cL_law 1058 = .ok (.iadd, 1) := by decide +kernel
theorem dL_law_1059 : decode cL_law 1059 = .ok (.iaload, 1) := by decide +kernel
theorem dL_law_1060 : decode cL_law 1060 = .ok (.aload_n 3, 1) := by decide +kernel
theorem dL_law_1061 : decode cL_law 1061 = .ok (.invokestatic 145, 3) := by decide +kernel
theorem dL_law_1064 : decode cL_law 1064 = .ok (.istore 6, 2) := by decide +kernel
theorem dL_law_1066 : decode cL_law 1066 = .ok (.aload_n 2, 1) := by decide +kernel
theorem dL_law_1067 : decode cL_law 1067 = .ok (.aload_n 0, 1) := by decide +kernel
theorem dL_law_1068 : decode cL_law 1068 = .ok (.iload 5, 2) := by decide +kernel
theorem dL_law_1070 : decode cL_law 1070 = .ok (.iconst 1, 1) := by decide +kernel
theorem dL_law_1071 : decode cL_law 1071 = .ok (.iadd, 1) := by decide +kernel
theorem dL_law_1072 : decode cL_law 1072 = .ok (.iaload, 1) := by decide +kernel
theorem dL_law_1073 : decode cL_law 1073 = .ok (.aload_n 0, 1) := by decide +kernel
theorem dL_law_1074 : decode cL_law 1074 = .ok (.iload 5, 2) := by decide +kernel
theorem dL_law_1076 : decode cL_law 1076 = .ok (.iconst 2, 1) := by decide +kernel
theorem dL_law_1077 : decode cL_law 1077 = .ok (.iadd, 1) := by decide +kernel
theorem dL_law_1078 : decode cL_law 1078 = .ok (.iaload, 1) := by decide +kernel
theorem dL_law_1079 : decode cL_law 1079 = .ok (.invokevirtual 147, 3) := by decide +kernel
theorem dL_law_1082 : decode cL_law 1082 = .ok (.istore 7, 2) := by decide +kernel
theorem dL_law_1084 : decode cL_law 1084 = .ok (.aload_n 2, 1) := by decide +kernel
theorem dL_law_1085 : decode cL_law 1085 = .ok (.invokevirtual 107, 3) := by decide +kernel
theorem dL_law_1088 : decode cL_law 1088 = .ok (.iload 6, 2) := by decide +kernel
theorem dL_law_1090 : decode cL_law 1090 = .ok (.if_icmp .eq 5, 3) := by decide +kernel
theorem dL_law_1093 : decode cL_law 1093 = .ok (.iconst 0, 1) := by decide +kernel
theorem dL_law_1094 : decode cL_law 1094 = .ok (.ireturn, 1) := by decide +kernel
theorem dL_law_1095 : decode cL_law 1095 = .ok (.iload 6, 2) := by decide +kernel
theorem dL_law_1097 : decode cL_law 1097 = .ok (.ifCond .ne 15, 3) := by decide +kernel
theorem dL_law_1100 : decode cL_law 1100 = .ok (.aload_n 3, 1) := by decide +kernel
theorem dL_law_1101 : decode cL_law 1101 = .ok (.iconst 0, 1) := by decide +kernel
theorem dL_law_1102 : decode cL_law 1102 = .ok (.laload, 1) := by decide +kernel
theorem dL_law_1103 : decode cL_law 1103 = .ok (.iload 7, 2) := by decide +kernel
theorem dL_law_1105 : decode cL_law 1105 = .ok (.i2l, 1) := by decide +kernel
theorem dL_law_1106 : decode cL_law 1106 = .ok (.lcmp, 1) := by decide +kernel
theorem dL_law_1107 : decode cL_law 1107 = .ok (.ifCond .eq 5, 3) := by decide +kernel
theorem dL_law_1110 : decode cL_law 1110 = .ok (.iconst 0, 1) := by decide +kernel
theorem dL_law_1111 : decode cL_law 1111 = .ok (.ireturn, 1) := by decide +kernel
theorem dL_law_1112 : decode cL_law 1112 = .ok (.goto 874, 3) := by decide +kernel
theorem dL_law_1115 : decode cL_law 1115 = .ok (.aload_n 1, 1) := by decide +kernel
theorem dL_law_1116 : decode cL_law 1116 = .ok (.aload_n 0, 1) := by decide +kernel
theorem dL_law_1117 : decode cL_law 1117 = .ok (.iload 5, 2) := by decide +kernel
theorem dL_law_1119 : decode cL_law 1119 = .ok (.iconst 1, 1) := by decide +kernel
theorem dL_law_1120 : decode cL_law 1120 = .ok (.iadd, 1) := by decide +kernel
theorem dL_law_1121 : decode cL_law 1121 = .ok (.iaload, 1) := by decide +kernel
theorem dL_law_1122 : decode cL_law 1122 = .ok (.aload_n 0, 1) := by decide +kernel
theorem dL_law_1123 : decode cL_law 1123 = .ok (.iload 5, 2) := by decide +kernel
theorem dL_law_1125 : decode cL_law 1125 = .ok (.iconst 2, 1) := by decide +kernel
theorem dL_law_1126 : decode cL_law 1126 = .ok (.iadd, 1) := by decide +kernel
theorem dL_law_1127 : decode cL_law 1127 = .ok (.iaload, 1) := by decide +kernel
theorem dL_law_1128 : decode cL_law 1128 = .ok (.aload_n 3, 1) := by decide +kernel
theorem dL_law_1129 : decode cL_law 1129 = .ok (.invokestatic 148, 3) := by decide +kernel
theorem dL_law_1132 : decode cL_law 1132 = .ok (.istore 6, 2) := by decide +kernel
theorem dL_law_1134 : decode cL_law 1134 = .ok (.aload_n 2, 1) := by decide +kernel
theorem dL_law_1135 : decode cL_law 1135 = .ok (.aload_n 0, 1) := by decide +kernel
theorem dL_law_1136 : decode cL_law 1136 = .ok (.iload 5, 2) := by decide +kernel
theorem dL_law_1138 : decode cL_law 1138 = .ok (.iconst 1, 1) := by decide +kernel
theorem dL_law_1139 : decode cL_law 1139 = .ok (.iadd, 1) := by decide +kernel
theorem dL_law_1140 : decode cL_law 1140 = .ok (.iaload, 1) := by decide +kernel
theorem dL_law_1141 : decode cL_law 1141 = .ok (.aload_n 0, 1) := by decide +kernel
theorem dL_law_1142 : decode cL_law 1142 = .ok (.iload 5, 2) := by decide +kernel
theorem dL_law_1144 : decode cL_law 1144 = .ok (.iconst 2, 1) := by decide +kernel
theorem dL_law_1145 : decode cL_law 1145 = .ok (.iadd, 1) := by decide +kernel
theorem dL_law_1146 : decode cL_law 1146 = .ok (.iaload, 1) := by decide +kernel
theorem dL_law_1147 : decode cL_law 1147 = .ok (.invokevirtual 150, 3) := by decide +kernel
theorem dL_law_1150 : decode cL_law 1150 = .ok (.istore 7, 2) := by decide +kernel
theorem dL_law_1152 : decode cL_law 1152 = .ok (.aload_n 2, 1) := by decide +kernel
theorem dL_law_1153 : decode cL_law 1153 = .ok (.invokevirtual 107, 3) := by decide +kernel
theorem dL_law_1156 : decode cL_law 1156 = .ok (.iload 6, 2) := by decide +kernel
theorem dL_law_1158 : decode cL_law 1158 = .ok (.if_icmp .eq 5, 3) := by decide +kernel
theorem dL_law_1161 : decode cL_law 1161 = .ok (.iconst 0, 1) := by decide +kernel
theorem dL_law_1162 : decode cL_law 1162 = .ok (.ireturn, 1) := by decide +kernel
theorem dL_law_1163 : decode cL_law 1163 = .ok (.iload 6, 2) := by decide +kernel
theorem dL_law_1165 : decode cL_law 1165 = .ok (.ifCond .ne 15, 3) := by decide +kernel
theorem dL_law_1168 : decode cL_law 1168 = .ok (.aload_n 3, 1) := by decide +kernel
theorem dL_law_1169 : decode cL_law 1169 = .ok (.iconst 0, 1) := by decide +kernel
theorem dL_law_1170 : decode cL_law 1170 = .ok (.laload, 1) := by decide +kernel
theorem dL_law_1171 : decode cL_law 1171 = .ok (.iload 7, 2) := by decide +kernel
theorem dL_law_1173 : decode cL_law 1173 = .ok (.i2l, 1) := by decide +kernel
theorem dL_law_1174 : decode cL_law 1174 = .ok (.lcmp, 1) := by decide +kernel
theorem dL_law_1175 : decode cL_law 1175 = .ok (.ifCond .eq 5, 3) := by decide +kernel
theorem dL_law_1178 : decode cL_law 1178 = .ok (.iconst 0, 1) := by decide +kernel
theorem dL_law_1179 : decode cL_law 1179 = .ok (.ireturn, 1) := by decide +kernel
theorem dL_law_1180 : decode cL_law 1180 = .ok (.goto 806, 3) := by decide +kernel
theorem dL_law_1183 : decode cL_law 1183 = .ok (.aload_n 1, 1) := by decide +kernel
theorem dL_law_1184 : decode cL_law 1184 = .ok (.aload_n 0, 1) := by decide +kernel
theorem dL_law_1185 : decode cL_law 1185 = .ok (.iload 5, 2) := by decide +kernel
theorem dL_law_1187 : decode cL_law 1187 = .ok (.iconst 1, 1) := by decide +kernel
theorem dL_law_1188 : decode cL_law 1188 = .ok (.iadd, 1) := by decide +kernel
theorem dL_law_1189 : decode cL_law 1189 = .ok (.iaload, 1) := by decide +kernel
theorem dL_law_1190 : decode cL_law 1190 = .ok (.aload_n 3, 1) := by decide +kernel
theorem dL_law_1191 : decode cL_law 1191 = .ok (.invokestatic 151, 3) := by decide +kernel
theorem dL_law_1194 : decode cL_law 1194 = .ok (.istore 6, 2) := by decide +kernel
theorem dL_law_1196 : decode cL_law 1196 = .ok (.aload_n 2, 1) := by decide +kernel
theorem dL_law_1197 : decode cL_law 1197 = .ok (.aload_n 0, 1) := by decide +kernel
theorem dL_law_1198 : decode cL_law 1198 = .ok (.iload 5, 2) := by decide +kernel
theorem dL_law_1200 : decode cL_law 1200 = .ok (.iconst 1, 1) := by decide +kernel
theorem dL_law_1201 : decode cL_law 1201 = .ok (.iadd, 1) := by decide +kernel
theorem dL_law_1202 : decode cL_law 1202 = .ok (.iaload, 1) := by decide +kernel
theorem dL_law_1203 : decode cL_law 1203 = .ok (.invokevirtual 154, 3) := by decide +kernel
theorem dL_law_1206 : decode cL_law 1206 = .ok (.istore 7, 2) := by decide +kernel
theorem dL_law_1208 : decode cL_law 1208 = .ok (.aload_n 2, 1) := by decide +kernel
theorem dL_law_1209 : decode cL_law 1209 = .ok (.invokevirtual 107, 3) := by decide +kernel
theorem dL_law_1212 : decode cL_law 1212 = .ok (.iload 6, 2) := by decide +kernel
theorem dL_law_1214 : decode cL_law 1214 = .ok (.if_icmp .eq 5, 3) := by decide +kernel
theorem dL_law_1217 : decode cL_law 1217 = .ok (.iconst 0, 1) := by decide +kernel
theorem dL_law_1218 : decode cL_law 1218 = .ok (.ireturn, 1) := by decide +kernel
theorem dL_law_1219 : decode cL_law 1219 = .ok (.iload 6, 2) := by decide +kernel
theorem dL_law_1221 : decode cL_law 1221 = .ok (.ifCond .ne 15, 3) := by decide +kernel
theorem dL_law_1224 : decode cL_law 1224 = .ok (.aload_n 3, 1) := by decide +kernel
theorem dL_law_1225 : decode cL_law 1225 = .ok (.iconst 0, 1) := by decide +kernel
theorem dL_law_1226 : decode cL_law 1226 = .ok (.laload, 1) := by decide +kernel
theorem dL_law_1227 : decode cL_law 1227 = .ok (.iload 7, 2) := by decide +kernel
theorem dL_law_1229 : decode cL_law 1229 = .ok (.i2l, 1) := by decide +kernel
theorem dL_law_1230 : decode cL_law 1230 = .ok (.lcmp, 1) := by decide +kernel
theorem dL_law_1231 : decode cL_law 1231 = .ok (.ifCond .eq 5, 3) := by decide +kernel
theorem dL_law_1234 : decode cL_law 1234 = .ok (.iconst 0, 1) := by decide +kernel
theorem dL_law_1235 : decode cL_law 1235 = .ok (.ireturn, 1) := by decide +kernel
theorem dL_law_1236 : decode cL_law 1236 = .ok (.goto 750, 3) := by decide +kernel
theorem dL_law_1239 : decode cL_law 1239 = .ok (.aload_n 1, 1) := by decide +kernel
theorem dL_law_1240 : decode cL_law 1240 = .ok (.aload_n 0, 1) := by decide +kernel
theorem dL_law_1241 : decode cL_law 1241 = .ok (.iload 5, 2) := by decide +kernel
theorem dL_law_1243 : decode cL_law 1243 = .ok (.iconst 1, 1) := by decide +kernel
theorem dL_law_1244 : decode cL_law 1244 = .ok (.iadd, 1) := by decide +kernel
theorem dL_law_1245 : decode cL_law 1245 = .ok (.iaload, 1) := by decide +kernel
theorem dL_law_1246 : decode cL_law 1246 = .ok (.aload_n 3, 1) := by decide +kernel
theorem dL_law_1247 : decode cL_law 1247 = .ok (.invokestatic 155, 3) := by decide +kernel
theorem dL_law_1250 : decode cL_law 1250 = .ok (.istore 6, 2) := by decide +kernel
theorem dL_law_1252 : decode cL_law 1252 = .ok (.aload_n 2, 1) := by decide +kernel
theorem dL_law_1253 : decode cL_law 1253 = .ok (.aload_n 0, 1) := by decide +kernel
theorem dL_law_1254 : decode cL_law 1254 = .ok (.iload 5, 2) := by decide +kernel
theorem dL_law_1256 : decode cL_law 1256 = .ok (.iconst 1, 1) := by decide +kernel
theorem dL_law_1257 : decode cL_law 1257 = .ok (.iadd, 1) := by decide +kernel
theorem dL_law_1258 : decode cL_law 1258 = .ok (.iaload, 1) := by decide +kernel
theorem dL_law_1259 : decode cL_law 1259 = .ok (.invokevirtual 157, 3) := by decide +kernel
theorem dL_law_1262 : decode cL_law 1262 = .ok (.istore 7, 2) := by decide +kernel
theorem dL_law_1264 : decode cL_law 1264 = .ok (.aload_n 2, 1) := by decide +kernel
theorem dL_law_1265 : decode cL_law 1265 = .ok (.invokevirtual 107, 3) := by decide +kernel
theorem dL_law_1268 : decode cL_law 1268 = .ok (.iload 6, 2) := by decide +kernel
theorem dL_law_1270 : decode cL_law 1270 = .ok (.if_icmp .eq 5, 3) := by decide +kernel
theorem dL_law_1273 : decode cL_law 1273 = .ok (.iconst 0, 1) := by decide +kernel
theorem dL_law_1274 : decode cL_law 1274 = .ok (.ireturn, 1) := by decide +kernel
theorem dL_law_1275 : decode cL_law 1275 = .ok (.iload 6, 2) := by decide +kernel
theorem dL_law_1277 : decode cL_law 1277 = .ok (.ifCond .ne 15, 3) := by decide +kernel
theorem dL_law_1280 : decode cL_law 1280 = .ok (.aload_n 3, 1) := by decide +kernel
theorem dL_law_1281 : decode cL_law 1281 = .ok (.iconst 0, 1) := by decide +kernel
theorem dL_law_1282 : decode cL_law 1282 = .ok (.laload, 1) := by decide +kernel
theorem dL_law_1283 : decode cL_law 1283 = .ok (.iload 7, 2) := by decide +kernel
theorem dL_law_1285 : decode cL_law 1285 = .ok (.i2l, 1) := by decide +kernel
theorem dL_law_1286 : decode cL_law 1286 = .ok (.lcmp, 1) := by decide +kernel
theorem dL_law_1287 : decode cL_law 1287 = .ok (.ifCond .eq 5, 3) := by decide +kernel
theorem dL_law_1290 : decode cL_law 1290 = .ok (.iconst 0, 1) := by decide +kernel
theorem dL_law_1291 : decode cL_law 1291 = .ok (.ireturn, 1) := by decide +kernel
theorem dL_law_1292 : decode cL_law 1292 = .ok (.goto 694, 3) := by decide +kernel
theorem dL_law_1295 : decode cL_law 1295 = .ok (.aload_n 1, 1) := by decide +kernel
theorem dL_law_1296 : decode cL_law 1296 = .ok (.aload_n 0, 1) := by decide +kernel
theorem dL_law_1297 : decode cL_law 1297 = .ok (.iload 5, 2) := by decide +kernel
theorem dL_law_1299 : decode cL_law 1299 = .ok (.iconst 1, 1) := by decide +kernel
theorem dL_law_1300 : decode cL_law 1300 = .ok (.iadd, 1) := by decide +kernel
theorem dL_law_1301 : decode cL_law 1301 = .ok (.iaload, 1) := by decide +kernel
theorem dL_law_1302 : decode cL_law 1302 = .ok (.aload_n 0, 1) := by decide +kernel
theorem dL_law_1303 : decode cL_law 1303 = .ok (.iload 5, 2) := by decide +kernel
theorem dL_law_1305 : decode cL_law 1305 = .ok (.iconst 2, 1) := by decide +kernel
theorem dL_law_1306 : decode cL_law 1306 = .ok (.iadd, 1) := by decide +kernel
theorem dL_law_1307 : decode cL_law 1307 = .ok (.iaload, 1) := by decide +kernel
theorem dL_law_1308 : decode cL_law 1308 = .ok (.aload_n 3, 1) := by decide +kernel
theorem dL_law_1309 : decode cL_law 1309 = .ok (.invokestatic 158, 3) := by decide +kernel
theorem dL_law_1312 : decode cL_law 1312 = .ok (.istore 6, 2) := by decide +kernel
theorem dL_law_1314 : decode cL_law 1314 = .ok (.aload_n 2, 1) := by decide +kernel
theorem dL_law_1315 : decode cL_law 1315 = .ok (.aload_n 0, 1) := by decide +kernel
theorem dL_law_1316 : decode cL_law 1316 = .ok (.iload 5, 2) := by decide +kernel
theorem dL_law_1318 : decode cL_law 1318 = .ok (.iconst 1, 1) := by decide +kernel
theorem dL_law_1319 : decode cL_law 1319 = .ok (.iadd, 1) := by decide +kernel
theorem dL_law_1320 : decode cL_law 1320 = .ok (.iaload, 1) := by decide +kernel
theorem dL_law_1321 : decode cL_law 1321 = .ok (.aload_n 0, 1) := by decide +kernel
theorem dL_law_1322 : decode cL_law 1322 = .ok (.iload 5, 2) := by decide +kernel
theorem dL_law_1324 : decode cL_law 1324 = .ok (.iconst 2, 1) := by decide +kernel
theorem dL_law_1325 : decode cL_law 1325 = .ok (.iadd, 1) := by decide +kernel
theorem dL_law_1326 : decode cL_law 1326 = .ok (.iaload, 1) := by decide +kernel
theorem dL_law_1327 : decode cL_law 1327 = .ok (.invokevirtual 160, 3) := by decide +kernel
theorem dL_law_1330 : decode cL_law 1330 = .ok (.istore 7, 2) := by decide +kernel
theorem dL_law_1332 : decode cL_law 1332 = .ok (.aload_n 2, 1) := by decide +kernel
theorem dL_law_1333 : decode cL_law 1333 = .ok (.invokevirtual 107, 3) := by decide +kernel
theorem dL_law_1336 : decode cL_law 1336 = .ok (.iload 6, 2) := by decide +kernel
theorem dL_law_1338 : decode cL_law 1338 = .ok (.if_icmp .eq 5, 3) := by decide +kernel
theorem dL_law_1341 : decode cL_law 1341 = .ok (.iconst 0, 1) := by decide +kernel
theorem dL_law_1342 : decode cL_law 1342 = .ok (.ireturn, 1) := by decide +kernel
theorem dL_law_1343 : decode cL_law 1343 = .ok (.iload 6, 2) := by decide +kernel
theorem dL_law_1345 : decode cL_law 1345 = .ok (.ifCond .ne 15, 3) := by decide +kernel
theorem dL_law_1348 : decode cL_law 1348 = .ok (.aload_n 3, 1) := by decide +kernel
theorem dL_law_1349 : decode cL_law 1349 = .ok (.iconst 0, 1) := by decide +kernel
theorem dL_law_1350 : decode cL_law 1350 = .ok (.laload, 1) := by decide +kernel
theorem dL_law_1351 : decode cL_law 1351 = .ok (.iload 7, 2) := by decide +kernel
theorem dL_law_1353 : decode cL_law 1353 = .ok (.i2l, 1) := by decide +kernel
theorem dL_law_1354 : decode cL_law 1354 = .ok (.lcmp, 1) := by decide +kernel
theorem dL_law_1355 : decode cL_law 1355 = .ok (.ifCond .eq 5, 3) := by decide +kernel
theorem dL_law_1358 : decode cL_law 1358 = .ok (.iconst 0, 1) := by decide +kernel
theorem dL_law_1359 : decode cL_law 1359 = .ok (.ireturn, 1) := by decide +kernel
theorem dL_law_1360 : decode cL_law 1360 = .ok (.goto 626, 3) := by decide +kernel
theorem dL_law_1363 : decode cL_law 1363 = .ok (.aload_n 1, 1) := by decide +kernel
theorem dL_law_1364 : decode cL_law 1364 = .ok (.aload_n 0, 1) := by decide +kernel
theorem dL_law_1365 : decode cL_law 1365 = .ok (.iload 5, 2) := by decide +kernel
theorem dL_law_1367 : decode cL_law 1367 = .ok (.iconst 1, 1) := by decide +kernel
theorem dL_law_1368 : decode cL_law 1368 = .ok (.iadd, 1) := by decide +kernel
theorem dL_law_1369 : decode cL_law 1369 = .ok (.iaload, 1) := by decide +kernel
theorem dL_law_1370 : decode cL_law 1370 = .ok (.aload_n 0, 1) := by decide +kernel
theorem dL_law_1371 : decode cL_law 1371 = .ok (.iload 5, 2) := by decide +kernel
theorem dL_law_1373 : decode cL_law 1373 = .ok (.iconst 2, 1) := by decide +kernel
theorem dL_law_1374 : decode cL_law 1374 = .ok (.iadd, 1) := by decide +kernel
theorem dL_law_1375 : decode cL_law 1375 = .ok (.iaload, 1) := by decide +kernel
theorem dL_law_1376 : decode cL_law 1376 = .ok (.aload_n 3, 1) := by decide +kernel
theorem dL_law_1377 : decode cL_law 1377 = .ok (.invokestatic 161, 3) := by decide +kernel
theorem dL_law_1380 : decode cL_law 1380 = .ok (.istore 6, 2) := by decide +kernel
theorem dL_law_1382 : decode cL_law 1382 = .ok (.aload_n 2, 1) := by decide +kernel
theorem dL_law_1383 : decode cL_law 1383 = .ok (.aload_n 0, 1) := by decide +kernel
theorem dL_law_1384 : decode cL_law 1384 = .ok (.iload 5, 2) := by decide +kernel
theorem dL_law_1386 : decode cL_law 1386 = .ok (.iconst 1, 1) := by decide +kernel
theorem dL_law_1387 : decode cL_law 1387 = .ok (.iadd, 1) := by decide +kernel
theorem dL_law_1388 : decode cL_law 1388 = .ok (.iaload, 1) := by decide +kernel
theorem dL_law_1389 : decode cL_law 1389 = .ok (.aload_n 0, 1) := by decide +kernel
theorem dL_law_1390 : decode cL_law 1390 = .ok (.iload 5, 2) := by decide +kernel
theorem dL_law_1392 : decode cL_law 1392 = .ok (.iconst 2, 1) := by decide +kernel
theorem dL_law_1393 : decode cL_law 1393 = .ok (.iadd, 1) := by decide +kernel
theorem dL_law_1394 : decode cL_law 1394 = .ok (.iaload, 1) := by decide +kernel
theorem dL_law_1395 : decode cL_law 1395 = .ok (.invokevirtual 163, 3) := by decide +kernel
theorem dL_law_1398 : decode cL_law 1398 = .ok (.istore 7, 2) := by decide +kernel
theorem dL_law_1400 : decode cL_law 1400 = .ok (.aload_n 2, 1) := by decide +kernel
theorem dL_law_1401 : decode cL_law 1401 = .ok (.invokevirtual 107, 3) := by decide +kernel
theorem dL_law_1404 : decode cL_law 1404 = .ok (.iload 6, 2) := by decide +kernel
theorem dL_law_1406 : decode cL_law 1406 = .ok (.if_icmp .eq 5, 3) := by decide +kernel
theorem dL_law_1409 : decode cL_law 1409 = .ok (.iconst 0, 1) := by decide +kernel
theorem dL_law_1410 : decode cL_law 1410 = .ok (.ireturn, 1) := by decide +kernel
theorem dL_law_1411 : decode cL_law 1411 = .ok (.iload 6, 2) := by decide +kernel
theorem dL_law_1413 : decode cL_law 1413 = .ok (.ifCond .ne 15, 3) := by decide +kernel
theorem dL_law_1416 : decode cL_law 1416 = .ok (.aload_n 3, 1) := by decide +kernel
theorem dL_law_1417 : decode cL_law 1417 = .ok (.iconst 0, 1) := by decide +kernel
theorem dL_law_1418 : decode cL_law 1418 = .ok (.laload, 1) := by decide +kernel
theorem dL_law_1419 : decode cL_law 1419 = .ok (.iload 7, 2) := by decide +kernel
theorem dL_law_1421 : decode cL_law 1421 = .ok (.i2l, 1) := by decide +kernel
theorem dL_law_1422 : decode cL_law 1422 = .ok (.lcmp, 1) := by decide +kernel
theorem dL_law_1423 : decode cL_law 1423 = .ok (.ifCond .eq 5, 3) := by decide +kernel
theorem dL_law_1426 : decode cL_law 1426 = .ok (.iconst 0, 1) := by decide +kernel
theorem dL_law_1427 : decode cL_law 1427 = .ok (.ireturn, 1) := by decide +kernel
theorem dL_law_1428 : decode cL_law 1428 = .ok (.goto 558, 3) := by decide +kernel
theorem dL_law_1431 : decode cL_law 1431 = .ok (.aload_n 1, 1) := by decide +kernel
theorem dL_law_1432 : decode cL_law 1432 = .ok (.aload_n 0, 1) := by decide +kernel
theorem dL_law_1433 : decode cL_law 1433 = .ok (.iload 5, 2) := by decide +kernel
theorem dL_law_1435 : decode cL_law 1435 = .ok (.iconst 1, 1) := by decide +kernel
theorem dL_law_1436 : decode cL_law 1436 = .ok (.iadd, 1) := by decide +kernel
theorem dL_law_1437 : decode cL_law 1437 = .ok (.iaload, 1) := by decide +kernel
theorem dL_law_1438 : decode cL_law 1438 = .ok (.aload_n 0, 1) := by decide +kernel
theorem dL_law_1439 : decode cL_law 1439 = .ok (.iload 5, 2) := by decide +kernel
theorem dL_law_1441 : decode cL_law 1441 = .ok (.iconst 2, 1) := by decide +kernel
theorem dL_law_1442 : decode cL_law 1442 = .ok (.iadd, 1) := by decide +kernel
theorem dL_law_1443 : decode cL_law 1443 = .ok (.iaload, 1) := by decide +kernel
theorem dL_law_1444 : decode cL_law 1444 = .ok (.aload_n 0, 1) := by decide +kernel
theorem dL_law_1445 : decode cL_law 1445 = .ok (.iload 5, 2) := by decide +kernel
theorem dL_law_1447 : decode cL_law 1447 = .ok (.iconst 3, 1) := by decide +kernel
theorem dL_law_1448 : decode cL_law 1448 = .ok (.iadd, 1) := by decide +kernel
theorem dL_law_1449 : decode cL_law 1449 = .ok (.iaload, 1) := by decide +kernel
theorem dL_law_1450 : decode cL_law 1450 = .ok (.aload_n 3, 1) := by decide +kernel
theorem dL_law_1451 : decode cL_law 1451 = .ok (.invokestatic 164, 3) := by decide +kernel
theorem dL_law_1454 : decode cL_law 1454 = .ok (.istore 6, 2) := by decide +kernel
theorem dL_law_1456 : decode cL_law 1456 = .ok (.aload_n 2, 1) := by decide +kernel
theorem dL_law_1457 : decode cL_law 1457 = .ok (.aload_n 0, 1) := by decide +kernel
theorem dL_law_1458 : decode cL_law 1458 = .ok (.iload 5, 2) := by decide +kernel
theorem dL_law_1460 : decode cL_law 1460 = .ok (.iconst 1, 1) := by decide +kernel
theorem dL_law_1461 : decode cL_law 1461 = .ok (.iadd, 1) := by decide +kernel
theorem dL_law_1462 : decode cL_law 1462 = .ok (.iaload, 1) := by decide +kernel
theorem dL_law_1463 : decode cL_law 1463 = .ok (.aload_n 0, 1) := by decide +kernel
theorem dL_law_1464 : decode cL_law 1464 = .ok (.iload 5, 2) := by decide +kernel
theorem dL_law_1466 : decode cL_law 1466 = .ok (.iconst 2, 1) := by decide +kernel
theorem dL_law_1467 : decode cL_law 1467 = .ok (.iadd, 1) := by decide +kernel
theorem dL_law_1468 : decode cL_law 1468 = .ok (.iaload, 1) := by decide +kernel
theorem dL_law_1469 : decode cL_law 1469 = .ok (.aload_n 0, 1) := by decide +kernel
theorem dL_law_1470 : decode cL_law 1470 = .ok (.iload 5, 2) := by decide +kernel
theorem dL_law_1472 : decode cL_law 1472 = .ok (.iconst 3, 1) := by decide +kernel
theorem dL_law_1473 : decode cL_law 1473 = .ok (.iadd, 1) := by decide +kernel
theorem dL_law_1474 : decode cL_law 1474 = .ok (.iaload, 1) := by decide +kernel
theorem dL_law_1475 : decode cL_law 1475 = .ok (.invokevirtual 166, 3) := by decide +kernel
theorem dL_law_1478 : decode cL_law 1478 = .ok (.istore 7, 2) := by decide +kernel
theorem dL_law_1480 : decode cL_law 1480 = .ok (.aload_n 2, 1) := by decide +kernel
theorem dL_law_1481 : decode cL_law 1481 = .ok (.invokevirtual 107, 3) := by decide +kernel
theorem dL_law_1484 : decode cL_law 1484 = .ok (.iload 6, 2) := by decide +kernel
theorem dL_law_1486 : decode cL_law 1486 = .ok (.if_icmp .eq 5, 3) := by decide +kernel
theorem dL_law_1489 : decode cL_law 1489 = .ok (.iconst 0, 1) := by decide +kernel
theorem dL_law_1490 : decode cL_law 1490 = .ok (.ireturn, 1) := by decide +kernel
theorem dL_law_1491 : decode cL_law 1491 = .ok (.iload 6, 2) := by decide +kernel
theorem dL_law_1493 : decode cL_law 1493 = .ok (.ifCond .ne 15, 3) := by decide +kernel
theorem dL_law_1496 : decode cL_law 1496 = .ok (.aload_n 3, 1) := by decide +kernel
theorem dL_law_1497 : decode cL_law 1497 = .ok (.iconst 0, 1) := by decide +kernel
theorem dL_law_1498 : decode cL_law 1498 = .ok (.laload, 1) := by decide +kernel
theorem dL_law_1499 : decode cL_law 1499 = .ok (.iload 7, 2) := by decide +kernel
theorem dL_law_1501 : decode cL_law 1501 = .ok (.i2l, 1) := by decide +kernel
theorem dL_law_1502 : decode cL_law 1502 = .ok (.lcmp, 1) := by decide +kernel
theorem dL_law_1503 : decode cL_law 1503 = .ok (.ifCond .eq 5, 3) := by decide +kernel
theorem dL_law_1506 : decode cL_law 1506 = .ok (.iconst 0, 1) := by decide +kernel
theorem dL_law_1507 : decode cL_law 1507 = .ok (.ireturn, 1) := by decide +kernel
theorem dL_law_1508 : decode cL_law 1508 = .ok (.goto 478, 3) := by decide +kernel
theorem dL_law_1511 : decode cL_law 1511 = .ok (.aload_n 1, 1) := by decide +kernel
theorem dL_law_1512 : decode cL_law 1512 = .ok (.aload_n 0, 1) := by decide +kernel
theorem dL_law_1513 : decode cL_law 1513 = .ok (.iload 5, 2) := by decide +kernel
theorem dL_law_1515 : decode cL_law 1515 = .ok (.iconst 1, 1) := by decide +kernel
theorem dL_law_1516 : decode cL_law 1516 = .ok (.iadd, 1) := by decide +kernel
theorem dL_law_1517 : decode cL_law 1517 = .ok (.iaload, 1) := by decide +kernel
theorem dL_law_1518 : decode cL_law 1518 = .ok (.aload_n 0, 1) := by decide +kernel
theorem dL_law_1519 : decode cL_law 1519 = .ok (.iload 5, 2) := by decide +kernel
theorem dL_law_1521 : decode cL_law 1521 = .ok (.iconst 2, 1) := by decide +kernel
theorem dL_law_1522 : decode cL_law 1522 = .ok (.iadd, 1) := by decide +kernel
theorem dL_law_1523 : decode cL_law 1523 = .ok (.iaload, 1) := by decide +kernel
theorem dL_law_1524 : decode cL_law 1524 = .ok (.aload_n 3, 1) := by decide +kernel
theorem dL_law_1525 : decode cL_law 1525 = .ok (.invokestatic 167, 3) := by decide +kernel
theorem dL_law_1528 : decode cL_law 1528 = .ok (.istore 6, 2) := by decide +kernel
theorem dL_law_1530 : decode cL_law 1530 = .ok (.aload_n 2, 1) := by decide +kernel
theorem dL_law_1531 : decode cL_law 1531 = .ok (.aload_n 0, 1) := by decide +kernel
theorem dL_law_1532 : decode cL_law 1532 = .ok (.iload 5, 2) := by decide +kernel
theorem dL_law_1534 : decode cL_law 1534 = .ok (.iconst 1, 1) := by decide +kernel
theorem dL_law_1535 : decode cL_law 1535 = .ok (.iadd, 1) := by decide +kernel
theorem dL_law_1536 : decode cL_law 1536 = .ok (.iaload, 1) := by decide +kernel
theorem dL_law_1537 : decode cL_law 1537 = .ok (.aload_n 0, 1) := by decide +kernel
theorem dL_law_1538 : decode cL_law 1538 = .ok (.iload 5, 2) := by decide +kernel
theorem dL_law_1540 : decode cL_law 1540 = .ok (.iconst 2, 1) := by decide +kernel
theorem dL_law_1541 : decode cL_law 1541 = .ok (.iadd, 1) := by decide +kernel
theorem dL_law_1542 : decode cL_law 1542 = .ok (.iaload, 1) := by decide +kernel
theorem dL_law_1543 : decode cL_law 1543 = .ok (.invokevirtual 169, 3) := by decide +kernel
theorem dL_law_1546 : decode cL_law 1546 = .ok (.istore 7, 2) := by decide +kernel
theorem dL_law_1548 : decode cL_law 1548 = .ok (.aload_n 2, 1) := by decide +kernel
theorem dL_law_1549 : decode cL_law 1549 = .ok (.invokevirtual 107, 3) := by decide +kernel
theorem dL_law_1552 : decode cL_law 1552 = .ok (.iload 6, 2) := by decide +kernel
theorem dL_law_1554 : decode cL_law 1554 = .ok (.if_icmp .eq 5, 3) := by decide +kernel
theorem dL_law_1557 : decode cL_law 1557 = .ok (.iconst 0, 1) := by decide +kernel
theorem dL_law_1558 : decode cL_law 1558 = .ok (.ireturn, 1) := by decide +kernel
theorem dL_law_1559 : decode cL_law 1559 = .ok (.iload 6, 2) := by decide +kernel
theorem dL_law_1561 : decode cL_law 1561 = .ok (.ifCond .ne 15, 3) := by decide +kernel
theorem dL_law_1564 : decode cL_law 1564 = .ok (.aload_n 3, 1) := by decide +kernel
theorem dL_law_1565 : decode cL_law 1565 = .ok (.iconst 0, 1) := by decide +kernel
theorem dL_law_1566 : decode cL_law 1566 = .ok (.laload, 1) := by decide +kernel
theorem dL_law_1567 : decode cL_law 1567 = .ok (.iload 7, 2) := by decide +kernel
theorem dL_law_1569 : decode cL_law 1569 = .ok (.i2l, 1) := by decide +kernel
theorem dL_law_1570 : decode cL_law 1570 = .ok (.lcmp, 1) := by decide +kernel
theorem dL_law_1571 : decode cL_law 1571 = .ok (.ifCond .eq 5, 3) := by decide +kernel
theorem dL_law_1574 : decode cL_law 1574 = .ok (.iconst 0, 1) := by decide +kernel
theorem dL_law_1575 : decode cL_law 1575 = .ok (.ireturn, 1) := by decide +kernel
theorem dL_law_1576 : decode cL_law 1576 = .ok (.goto 410, 3) := by decide +kernel
theorem dL_law_1579 : decode cL_law 1579 = .ok (.aload_n 1, 1) := by decide +kernel
theorem dL_law_1580 : decode cL_law 1580 = .ok (.aload_n 0, 1) := by decide +kernel
theorem dL_law_1581 : decode cL_law 1581 = .ok (.iload 5, 2) := by decide +kernel
theorem dL_law_1583 : decode cL_law 1583 = .ok (.iconst 1, 1) := by decide +kernel
theorem dL_law_1584 : decode cL_law 1584 = .ok (.iadd, 1) := by decide +kernel
theorem dL_law_1585 : decode cL_law 1585 = .ok (.iaload, 1) := by decide +kernel
theorem dL_law_1586 : decode cL_law 1586 = .ok (.aload_n 3, 1) := by decide +kernel
theorem dL_law_1587 : decode cL_law 1587 = .ok (.invokestatic 170, 3) := by decide +kernel
theorem dL_law_1590 : decode cL_law 1590 = .ok (.istore 6, 2) := by decide +kernel
theorem dL_law_1592 : decode cL_law 1592 = .ok (.aload_n 2, 1) := by decide +kernel
theorem dL_law_1593 : decode cL_law 1593 = .ok (.aload_n 0, 1) := by decide +kernel
theorem dL_law_1594 : decode cL_law 1594 = .ok (.iload 5, 2) := by decide +kernel
theorem dL_law_1596 : decode cL_law 1596 = .ok (.iconst 1, 1) := by decide +kernel
theorem dL_law_1597 : decode cL_law 1597 = .ok (.iadd, 1) := by decide +kernel
theorem dL_law_1598 : decode cL_law 1598 = .ok (.iaload, 1) := by decide +kernel
theorem dL_law_1599 : decode cL_law 1599 = .ok (.invokevirtual 172, 3) := by decide +kernel
theorem dL_law_1602 : decode cL_law 1602 = .ok (.istore 7, 2) := by decide +kernel
theorem dL_law_1604 : decode cL_law 1604 = .ok (.aload_n 2, 1) := by decide +kernel
theorem dL_law_1605 : decode cL_law 1605 = .ok (.invokevirtual 107, 3) := by decide +kernel
theorem dL_law_1608 : decode cL_law 1608 = .ok (.iload 6, 2) := by decide +kernel
theorem dL_law_1610 : decode cL_law 1610 = .ok (.if_icmp .eq 5, 3) := by decide +kernel
theorem dL_law_1613 : decode cL_law 1613 = .ok (.iconst 0, 1) := by decide +kernel
theorem dL_law_1614 : decode cL_law 1614 = .ok (.ireturn, 1) := by decide +kernel
theorem dL_law_1615 : decode cL_law 1615 = .ok (.iload 6, 2) := by decide +kernel
theorem dL_law_1617 : decode cL_law 1617 = .ok (.ifCond .ne 15, 3) := by decide +kernel
theorem dL_law_1620 : decode cL_law 1620 = .ok (.aload_n 3, 1) := by decide +kernel
theorem dL_law_1621 : decode cL_law 1621 = .ok (.iconst 0, 1) := by decide +kernel
theorem dL_law_1622 : decode cL_law 1622 = .ok (.laload, 1) := by decide +kernel
theorem dL_law_1623 : decode cL_law 1623 = .ok (.iload 7, 2) := by decide +kernel
theorem dL_law_1625 : decode cL_law 1625 = .ok (.i2l, 1) := by decide +kernel
theorem dL_law_1626 : decode cL_law 1626 = .ok (.lcmp, 1) := by decide +kernel
theorem dL_law_1627 : decode cL_law 1627 = .ok (.ifCond .eq 5, 3) := by decide +kernel
theorem dL_law_1630 : decode cL_law 1630 = .ok (.iconst 0, 1) := by decide +kernel
theorem dL_law_1631 : decode cL_law 1631 = .ok (.ireturn, 1) := by decide +kernel
theorem dL_law_1632 : decode cL_law 1632 = .ok (.goto 354, 3) := by decide +kernel
theorem dL_law_1635 : decode cL_law 1635 = .ok (.aload_n 1, 1) := by decide +kernel
theorem dL_law_1636 : decode cL_law 1636 = .ok (.aload_n 0, 1) := by decide +kernel
theorem dL_law_1637 : decode cL_law 1637 = .ok (.iload 5, 2) := by decide +kernel
theorem dL_law_1639 : decode cL_law 1639 = .ok (.iconst 1, 1) := by decide +kernel
theorem dL_law_1640 : decode cL_law 1640 = .ok (.iadd, 1) := by decide +kernel
theorem dL_law_1641 : decode cL_law 1641 = .ok (.iaload, 1) := by decide +kernel
theorem dL_law_1642 : decode cL_law 1642 = .ok (.aload 4, 2) := by decide +kernel
theorem dL_law_1644 : decode cL_law 1644 = .ok (.invokestatic 173, 3) := by decide +kernel
theorem dL_law_1647 : decode cL_law 1647 = .ok (.istore 6, 2) := by decide +kernel
theorem dL_law_1649 : decode cL_law 1649 = .ok (.aload_n 2, 1) := by decide +kernel
theorem dL_law_1650 : decode cL_law 1650 = .ok (.aload_n 0, 1) := by decide +kernel
theorem dL_law_1651 : decode cL_law 1651 = .ok (.iload 5, 2) := by decide +kernel
theorem dL_law_1653 : decode cL_law 1653 = .ok (.iconst 1, 1) := by decide +kernel
theorem dL_law_1654 : decode cL_law 1654 = .ok (.iadd, 1) := by decide +kernel
theorem dL_law_1655 : decode cL_law 1655 = .ok (.iaload, 1) := by decide +kernel
theorem dL_law_1656 : decode cL_law 1656 = .ok (.invokevirtual 176, 3) := by decide +kernel
theorem dL_law_1659 : decode cL_law 1659 = .ok (.dstore 7, 2) := by decide +kernel
theorem dL_law_1661 : decode cL_law 1661 = .ok (.aload_n 2, 1) := by decide +kernel
theorem dL_law_1662 : decode cL_law 1662 = .ok (.invokevirtual 107, 3) := by decide +kernel
theorem dL_law_1665 : decode cL_law 1665 = .ok (.iload 6, 2) := by decide +kernel
theorem dL_law_1667 : decode cL_law 1667 = .ok (.if_icmp .eq 5, 3) := by decide +kernel
theorem dL_law_1670 : decode cL_law 1670 = .ok (.iconst 0, 1) := by decide +kernel
theorem dL_law_1671 : decode cL_law 1671 = .ok (.ireturn, 1) := by decide +kernel
theorem dL_law_1672 : decode cL_law 1672 = .ok (.iload 6, 2) := by decide +kernel
theorem dL_law_1674 : decode cL_law 1674 = .ok (.ifCond .ne 35, 3) := by decide +kernel
theorem dL_law_1677 : decode cL_law 1677 = .ok (.aload 4, 2) := by decide +kernel
theorem dL_law_1679 : decode cL_law 1679 = .ok (.iconst 0, 1) := by decide +kernel
theorem dL_law_1680 : decode cL_law 1680 = .ok (.daload, 1) := by decide +kernel
theorem dL_law_1681 : decode cL_law 1681 = .ok (.dload 7, 2) := by decide +kernel
theorem dL_law_1683 : decode cL_law 1683 = .ok (.dcmp .l, 1) := by decide +kernel
theorem dL_law_1684 : decode cL_law 1684 = .ok (.ifCond .eq 25, 3) := by decide +kernel
theorem dL_law_1687 : decode cL_law 1687 = .ok (.aload 4, 2) := by decide +kernel
theorem dL_law_1689 : decode cL_law 1689 = .ok (.iconst 0, 1) := by decide +kernel
theorem dL_law_1690 : decode cL_law 1690 = .ok (.daload, 1) := by decide +kernel
theorem dL_law_1691 : decode cL_law 1691 = .ok (.aload 4, 2) := by decide +kernel
theorem dL_law_1693 : decode cL_law 1693 = .ok (.iconst 0, 1) := by decide +kernel
theorem dL_law_1694 : decode cL_law 1694 = .ok (.daload, 1) := by decide +kernel
theorem dL_law_1695 : decode cL_law 1695 = .ok (.dcmp .l, 1) := by decide +kernel
theorem dL_law_1696 : decode cL_law 1696 = .ok (.ifCond .eq 11, 3) := by decide +kernel
theorem dL_law_1699 : decode cL_law 1699 = .ok (.dload 7, 2) := by decide +kernel
theorem dL_law_1701 : decode cL_law 1701 = .ok (.dload 7, 2) := by decide +kernel
theorem dL_law_1703 : decode cL_law 1703 = .ok (.dcmp .l, 1) := by decide +kernel
theorem dL_law_1704 : decode cL_law 1704 = .ok (.ifCond .ne 5, 3) := by decide +kernel
theorem dL_law_1707 : decode cL_law 1707 = .ok (.iconst 0, 1) := by decide +kernel
theorem dL_law_1708 : decode cL_law 1708 = .ok (.ireturn, 1) := by decide +kernel
theorem dL_law_1709 : decode cL_law 1709 = .ok (.goto 277, 3) := by decide +kernel
theorem dL_law_1712 : decode cL_law 1712 = .ok (.aload_n 1, 1) := by decide +kernel
theorem dL_law_1713 : decode cL_law 1713 = .ok (.aload_n 0, 1) := by decide +kernel
theorem dL_law_1714 : decode cL_law 1714 = .ok (.iload 5, 2) := by decide +kernel
theorem dL_law_1716 : decode cL_law 1716 = .ok (.iconst 1, 1) := by decide +kernel
theorem dL_law_1717 : decode cL_law 1717 = .ok (.iadd, 1) := by decide +kernel
theorem dL_law_1718 : decode cL_law 1718 = .ok (.iaload, 1) := by decide +kernel
theorem dL_law_1719 : decode cL_law 1719 = .ok (.aload_n 0, 1) := by decide +kernel
theorem dL_law_1720 : decode cL_law 1720 = .ok (.iload 5, 2) := by decide +kernel
theorem dL_law_1722 : decode cL_law 1722 = .ok (.iconst 2, 1) := by decide +kernel
theorem dL_law_1723 : decode cL_law 1723 = .ok (.iadd, 1) := by decide +kernel
theorem dL_law_1724 : decode cL_law 1724 = .ok (.iaload, 1) := by decide +kernel
theorem dL_law_1725 : decode cL_law 1725 = .ok (.aload_n 3, 1) := by decide +kernel
theorem dL_law_1726 : decode cL_law 1726 = .ok (.invokestatic 177, 3) := by decide +kernel
theorem dL_law_1729 : decode cL_law 1729 = .ok (.istore 6, 2) := by decide +kernel
theorem dL_law_1731 : decode cL_law 1731 = .ok (.aload_n 2, 1) := by decide +kernel
theorem dL_law_1732 : decode cL_law 1732 = .ok (.aload_n 0, 1) := by decide +kernel
theorem dL_law_1733 : decode cL_law 1733 = .ok (.iload 5, 2) := by decide +kernel
theorem dL_law_1735 : decode cL_law 1735 = .ok (.iconst 1, 1) := by decide +kernel
theorem dL_law_1736 : decode cL_law 1736 = .ok (.iadd, 1) := by decide +kernel
theorem dL_law_1737 : decode cL_law 1737 = .ok (.iaload, 1) := by decide +kernel
theorem dL_law_1738 : decode cL_law 1738 = .ok (.aload_n 0, 1) := by decide +kernel
theorem dL_law_1739 : decode cL_law 1739 = .ok (.iload 5, 2) := by decide +kernel
theorem dL_law_1741 : decode cL_law 1741 = .ok (.iconst 2, 1) := by decide +kernel
theorem dL_law_1742 : decode cL_law 1742 = .ok (.iadd, 1) := by decide +kernel
theorem dL_law_1743 : decode cL_law 1743 = .ok (.iaload, 1) := by decide +kernel
theorem dL_law_1744 : decode cL_law 1744 = .ok (.invokevirtual 179, 3) := by decide +kernel
theorem dL_law_1747 : decode cL_law 1747 = .ok (.istore 7, 2) := by decide +kernel
theorem dL_law_1749 : decode cL_law 1749 = .ok (.aload_n 2, 1) := by decide +kernel
theorem dL_law_1750 : decode cL_law 1750 = .ok (.invokevirtual 107, 3) := by decide +kernel
theorem dL_law_1753 : decode cL_law 1753 = .ok (.iload 6, 2) := by decide +kernel
theorem dL_law_1755 : decode cL_law 1755 = .ok (.if_icmp .eq 5, 3) := by decide +kernel
theorem dL_law_1758 : decode cL_law 1758 = .ok (.iconst 0, 1) := by decide +kernel
theorem dL_law_1759 : decode cL_law 1759 = .ok (.ireturn, 1) := by decide +kernel
theorem dL_law_1760 : decode cL_law 1760 = .ok (.iload 6, 2) := by decide +kernel
theorem dL_law_1762 : decode cL_law 1762 = .ok (.ifCond .ne 15, 3) := by decide +kernel
theorem dL_law_1765 : decode cL_law 1765 = .ok (.aload_n 3, 1) := by decide +kernel
theorem dL_law_1766 : decode cL_law 1766 = .ok (.iconst 0, 1) := by decide +kernel
theorem dL_law_1767 : decode cL_law 1767 = .ok (.laload, 1) := by decide +kernel
theorem dL_law_1768 : decode cL_law 1768 = .ok (.iload 7, 2) := by decide +kernel
theorem dL_law_1770 : decode cL_law 1770 = .ok (.i2l, 1) := by decide +kernel
theorem dL_law_1771 : decode cL_law 1771 = .ok (.lcmp, 1) := by decide +kernel
theorem dL_law_1772 : decode cL_law 1772 = .ok (.ifCond .eq 5, 3) := by decide +kernel
theorem dL_law_1775 : decode cL_law 1775 = .ok (.iconst 0, 1) := by decide +kernel
theorem dL_law_1776 : decode cL_law 1776 = .ok (.ireturn, 1) := by decide +kernel
theorem dL_law_1777 : decode cL_law 1777 = .ok (.goto 209, 3) := by decide +kernel
theorem dL_law_1780 : decode cL_law 1780 = .ok (.aload_n 1, 1) := by decide +kernel
theorem dL_law_1781 : decode cL_law 1781 = .ok (.aload_n 0, 1) := by decide +kernel
theorem dL_law_1782 : decode cL_law 1782 = .ok (.iload 5, 2) := by decide +kernel
theorem dL_law_1784 : decode cL_law 1784 = .ok (.iconst 1, 1) := by decide +kernel
theorem dL_law_1785 : decode cL_law 1785 = .ok (.iadd, 1) := by decide +kernel
theorem dL_law_1786 : decode cL_law 1786 = .ok (.iaload, 1) := by decide +kernel
theorem dL_law_1787 : decode cL_law 1787 = .ok (.aload_n 0, 1) := by decide +kernel
theorem dL_law_1788 : decode cL_law 1788 = .ok (.iload 5, 2) := by decide +kernel
theorem dL_law_1790 : decode cL_law 1790 = .ok (.iconst 2, 1) := by decide +kernel
theorem dL_law_1791 : decode cL_law 1791 = .ok (.iadd, 1) := by decide +kernel
theorem dL_law_1792 : decode cL_law 1792 = .ok (.iaload, 1) := by decide +kernel
theorem dL_law_1793 : decode cL_law 1793 = .ok (.aload_n 3, 1) := by decide +kernel
theorem dL_law_1794 : decode cL_law 1794 = .ok (.invokestatic 180, 3) := by decide +kernel
theorem dL_law_1797 : decode cL_law 1797 = .ok (.istore 6, 2) := by decide +kernel
theorem dL_law_1799 : decode cL_law 1799 = .ok (.aload_n 2, 1) := by decide +kernel
theorem dL_law_1800 : decode cL_law 1800 = .ok (.aload_n 0, 1) := by decide +kernel
theorem dL_law_1801 : decode cL_law 1801 = .ok (.iload 5, 2) := by decide +kernel
theorem dL_law_1803 : decode cL_law 1803 = .ok (.iconst 1, 1) := by decide +kernel
theorem dL_law_1804 : decode cL_law 1804 = .ok (.iadd, 1) := by decide +kernel
theorem dL_law_1805 : decode cL_law 1805 = .ok (.iaload, 1) := by decide +kernel
theorem dL_law_1806 : decode cL_law 1806 = .ok (.aload_n 0, 1) := by decide +kernel
theorem dL_law_1807 : decode cL_law 1807 = .ok (.iload 5, 2) := by decide +kernel
theorem dL_law_1809 : decode cL_law 1809 = .ok (.iconst 2, 1) := by decide +kernel
theorem dL_law_1810 : decode cL_law 1810 = .ok (.iadd, 1) := by decide +kernel
theorem dL_law_1811 : decode cL_law 1811 = .ok (.iaload, 1) := by decide +kernel
theorem dL_law_1812 : decode cL_law 1812 = .ok (.invokevirtual 182, 3) := by decide +kernel
theorem dL_law_1815 : decode cL_law 1815 = .ok (.istore 7, 2) := by decide +kernel
theorem dL_law_1817 : decode cL_law 1817 = .ok (.aload_n 2, 1) := by decide +kernel
theorem dL_law_1818 : decode cL_law 1818 = .ok (.invokevirtual 107, 3) := by decide +kernel
theorem dL_law_1821 : decode cL_law 1821 = .ok (.iload 6, 2) := by decide +kernel
theorem dL_law_1823 : decode cL_law 1823 = .ok (.if_icmp .eq 5, 3) := by decide +kernel
theorem dL_law_1826 : decode cL_law 1826 = .ok (.iconst 0, 1) := by decide +kernel
theorem dL_law_1827 : decode cL_law 1827 = .ok (.ireturn, 1) := by decide +kernel
theorem dL_law_1828 : decode cL_law 1828 = .ok (.iload 6, 2) := by decide +kernel
theorem dL_law_1830 : decode cL_law 1830 = .ok (.ifCond .ne 15, 3) := by decide +kernel
theorem dL_law_1833 : decode cL_law 1833 = .ok (.aload_n 3, 1) := by decide +kernel
theorem dL_law_1834 : decode cL_law 1834 = .ok (.iconst 0, 1) := by decide +kernel
theorem dL_law_1835 : decode cL_law 1835 = .ok (.laload, 1) := by decide +kernel
theorem dL_law_1836 : decode cL_law 1836 = .ok (.iload 7, 2) := by decide +kernel
theorem dL_law_1838 : decode cL_law 1838 = .ok (.i2l, 1) := by decide +kernel
theorem dL_law_1839 : decode cL_law 1839 = .ok (.lcmp, 1) := by decide +kernel
theorem dL_law_1840 : decode cL_law 1840 = .ok (.ifCond .eq 5, 3) := by decide +kernel
theorem dL_law_1843 : decode cL_law 1843 = .ok (.iconst 0, 1) := by decide +kernel
theorem dL_law_1844 : decode cL_law 1844 = .ok (.ireturn, 1) := by decide +kernel
theorem dL_law_1845 : decode cL_law 1845 = .ok (.goto 141, 3) := by decide +kernel
theorem dL_law_1848 : decode cL_law 1848 = .ok (.aload_n 1, 1) := by decide +kernel
theorem dL_law_1849 : decode cL_law 1849 = .ok (.aload_n 0, 1) := by decide +kernel
theorem dL_law_1850 : decode cL_law 1850 = .ok (.iload 5, 2) := by decide +kernel
theorem dL_law_1852 : decode cL_law 1852 = .ok (.iconst 1, 1) := by decide +kernel
theorem dL_law_1853 : decode cL_law 1853 = .ok (.iadd, 1) := by decide +kernel
theorem dL_law_1854 : decode cL_law 1854 = .ok (.iaload, 1) := by decide +kernel
theorem dL_law_1855 : decode cL_law 1855 = .ok (.aload_n 0, 1) := by decide +kernel
theorem dL_law_1856 : decode cL_law 1856 = .ok (.iload 5, 2) := by decide +kernel
theorem dL_law_1858 : decode cL_law 1858 = .ok (.iconst 2, 1) := by decide +kernel
theorem dL_law_1859 : decode cL_law 1859 = .ok (.iadd, 1) := by decide +kernel
theorem dL_law_1860 : decode cL_law 1860 = .ok (.iaload, 1) := by decide +kernel
theorem dL_law_1861 : decode cL_law 1861 = .ok (.aload_n 3, 1) := by decide +kernel
theorem dL_law_1862 : decode cL_law 1862 = .ok (.invokestatic 183, 3) := by decide +kernel
theorem dL_law_1865 : decode cL_law 1865 = .ok (.istore 6, 2) := by decide +kernel
theorem dL_law_1867 : decode cL_law 1867 = .ok (.aload_n 2, 1) := by decide +kernel
theorem dL_law_1868 : decode cL_law 1868 = .ok (.aload_n 0, 1) := by decide +kernel
theorem dL_law_1869 : decode cL_law 1869 = .ok (.iload 5, 2) := by decide +kernel
theorem dL_law_1871 : decode cL_law 1871 = .ok (.iconst 1, 1) := by decide +kernel
theorem dL_law_1872 : decode cL_law 1872 = .ok (.iadd, 1) := by decide +kernel
theorem dL_law_1873 : decode cL_law 1873 = .ok (.iaload, 1) := by decide +kernel
theorem dL_law_1874 : decode cL_law 1874 = .ok (.aload_n 0, 1) := by decide +kernel
theorem dL_law_1875 : decode cL_law 1875 = .ok (.iload 5, 2) := by decide +kernel
theorem dL_law_1877 : decode cL_law 1877 = .ok (.iconst 2, 1) := by decide +kernel
theorem dL_law_1878 : decode cL_law 1878 = .ok (.iadd, 1) := by decide +kernel
theorem dL_law_1879 : decode cL_law 1879 = .ok (.iaload, 1) := by decide +kernel
theorem dL_law_1880 : decode cL_law 1880 = .ok (.invokevirtual 185, 3) := by decide +kernel
theorem dL_law_1883 : decode cL_law 1883 = .ok (.istore 7, 2) := by decide +kernel
theorem dL_law_1885 : decode cL_law 1885 = .ok (.aload_n 2, 1) := by decide +kernel
theorem dL_law_1886 : decode cL_law 1886 = .ok (.invokevirtual 107, 3) := by decide +kernel
theorem dL_law_1889 : decode cL_law 1889 = .ok (.iload 6, 2) := by decide +kernel
theorem dL_law_1891 : decode cL_law 1891 = .ok (.if_icmp .eq 5, 3) := by decide +kernel
theorem dL_law_1894 : decode cL_law 1894 = .ok (.iconst 0, 1) := by decide +kernel
theorem dL_law_1895 : decode cL_law 1895 = .ok (.ireturn, 1) := by decide +kernel
theorem dL_law_1896 : decode cL_law 1896 = .ok (.iload 6, 2) := by decide +kernel
theorem dL_law_1898 : decode cL_law 1898 = .ok (.ifCond .ne 15, 3) := by decide +kernel
theorem dL_law_1901 : decode cL_law 1901 = .ok (.aload_n 3, 1) := by decide +kernel
theorem dL_law_1902 : decode cL_law 1902 = .ok (.iconst 0, 1) := by decide +kernel
theorem dL_law_1903 : decode cL_law 1903 = .ok (.laload, 1) := by decide +kernel
theorem dL_law_1904 : decode cL_law 1904 = .ok (.iload 7, 2) := by decide +kernel
theorem dL_law_1906 : decode cL_law 1906 = .ok (.i2l, 1) := by decide +kernel
theorem dL_law_1907 : decode cL_law 1907 = .ok (.lcmp, 1) := by decide +kernel
theorem dL_law_1908 : decode cL_law 1908 = .ok (.ifCond .eq 5, 3) := by decide +kernel
theorem dL_law_1911 : decode cL_law 1911 = .ok (.iconst 0, 1) := by decide +kernel
theorem dL_law_1912 : decode cL_law 1912 = .ok (.ireturn, 1) := by decide +kernel
theorem dL_law_1913 : decode cL_law 1913 = .ok (.goto 73, 3) := by decide +kernel
theorem dL_law_1916 : decode cL_law 1916 = .ok (.aload_n 1, 1) := by decide +kernel
theorem dL_law_1917 : decode cL_law 1917 = .ok (.aload_n 0, 1) := by decide +kernel
theorem dL_law_1918 : decode cL_law 1918 = .ok (.iload 5, 2) := by decide +kernel
theorem dL_law_1920 : decode cL_law 1920 = .ok (.iconst 1, 1) := by decide +kernel
theorem dL_law_1921 : decode cL_law 1921 = .ok (.iadd, 1) := by decide +kernel
theorem dL_law_1922 : decode cL_law 1922 = .ok (.iaload, 1) := by decide +kernel
theorem dL_law_1923 : decode cL_law 1923 = .ok (.aload_n 3, 1) := by decide +kernel
theorem dL_law_1924 : decode cL_law 1924 = .ok (.invokestatic 186, 3) := by decide +kernel
theorem dL_law_1927 : decode cL_law 1927 = .ok (.istore 6, 2) := by decide +kernel
theorem dL_law_1929 : decode cL_law 1929 = .ok (.aload_n 2, 1) := by decide +kernel
theorem dL_law_1930 : decode cL_law 1930 = .ok (.aload_n 0, 1) := by decide +kernel
theorem dL_law_1931 : decode cL_law 1931 = .ok (.iload 5, 2) := by decide +kernel
theorem dL_law_1933 : decode cL_law 1933 = .ok (.iconst 1, 1) := by decide +kernel
theorem dL_law_1934 : decode cL_law 1934 = .ok (.iadd, 1) := by decide +kernel
theorem dL_law_1935 : decode cL_law 1935 = .ok (.iaload, 1) := by decide +kernel
theorem dL_law_1936 : decode cL_law 1936 = .ok (.invokevirtual 188, 3) := by decide +kernel
theorem dL_law_1939 : decode cL_law 1939 = .ok (.istore 7, 2) := by decide +kernel
theorem dL_law_1941 : decode cL_law 1941 = .ok (.aload_n 2, 1) := by decide +kernel
theorem dL_law_1942 : decode cL_law 1942 = .ok (.invokevirtual 107, 3) := by decide +kernel
theorem dL_law_1945 : decode cL_law 1945 = .ok (.iload 6, 2) := by decide +kernel
theorem dL_law_1947 : decode cL_law 1947 = .ok (.if_icmp .eq 5, 3) := by decide +kernel
theorem dL_law_1950 : decode cL_law 1950 = .ok (.iconst 0, 1) := by decide +kernel
theorem dL_law_1951 : decode cL_law 1951 = .ok (.ireturn, 1) := by decide +kernel
theorem dL_law_1952 : decode cL_law 1952 = .ok (.iload 6, 2) := by decide +kernel
theorem dL_law_1954 : decode cL_law 1954 = .ok (.ifCond .ne 15, 3) := by decide +kernel
theorem dL_law_1957 : decode cL_law 1957 = .ok (.aload_n 3, 1) := by decide +kernel
theorem dL_law_1958 : decode cL_law 1958 = .ok (.iconst 0, 1) := by decide +kernel
theorem dL_law_1959 : decode cL_law 1959 = .ok (.laload, 1) := by decide +kernel
theorem dL_law_1960 : decode cL_law 1960 = .ok (.iload 7, 2) := by decide +kernel
theorem dL_law_1962 : decode cL_law 1962 = .ok (.i2l, 1) := by decide +kernel
theorem dL_law_1963 : decode cL_law 1963 = .ok (.lcmp, 1) := by decide +kernel
theorem dL_law_1964 : decode cL_law 1964 = .ok (.ifCond .eq 5, 3) := by decide +kernel
theorem dL_law_1967 : decode cL_law 1967 = .ok (.iconst 0, 1) := by decide +kernel
theorem dL_law_1968 : decode cL_law 1968 = .ok (.ireturn, 1) := by decide +kernel
theorem dL_law_1969 : decode cL_law 1969 = .ok (.goto 17, 3) := by decide +kernel
theorem dL_law_1972 : decode cL_law 1972 = .ok (.aload_n 1, 1) := by decide +kernel
theorem dL_law_1973 : decode cL_law 1973 = .ok (.invokevirtual 189, 3) := by decide +kernel
theorem dL_law_1976 : decode cL_law 1976 = .ok (.aload_n 2, 1) := by decide +kernel
theorem dL_law_1977 : decode cL_law 1977 = .ok (.invokevirtual 193, 3) := by decide +kernel
theorem dL_law_1980 : decode cL_law 1980 = .ok (.lcmp, 1) := by decide +kernel
theorem dL_law_1981 : decode cL_law 1981 = .ok (.ifCond .eq 5, 3) := by decide +kernel
theorem dL_law_1984 : decode cL_law 1984 = .ok (.iconst 0, 1) := by decide +kernel
theorem dL_law_1985 : decode cL_law 1985 = .ok (.ireturn, 1) := by decide +kernel
theorem dL_law_1986 : decode cL_law 1986 = .ok (.iinc 5 6, 3) := by decide +kernel
theorem dL_law_1989 : decode cL_law 1989 = .ok (.goto (-1961), 3) := by decide +kernel
theorem dL_law_1992 : decode cL_law 1992 = .ok (.iconst 1, 1) := by decide +kernel
theorem dL_law_1993 : decode cL_law 1993 = .ok (.ireturn, 1) := by decide +kernel
end
section
-- the words of the tables, all at once, and what every contract begins with
def okn : Cond → Bool
  | .fieldLinkNest _ _ _ _ _ _ => true
  | .methodLinkNest _ _ _ _ => true
  | _ => false
def okw (w : Cond) : Bool := goodWord w || okn w
theorem okw_tab {w : Cond} (h : okw w = true) : w.onTables = true ∨ ∃ ty, w = .arrayClass ty := by
  unfold okw at h
  rcases Bool.or_eq_true_iff.mp h with h | h
  · rcases good_of_word h with h | ⟨ty, rfl⟩
    · exact Or.inl (Bool.and_eq_true_iff.mp h).1
    · exact Or.inr ⟨ty, rfl⟩
  · refine Or.inl ?_
    cases w <;> first | rfl | (cases h)
theorem okw_tabs {w : Cond} (ho : okw w = true) {A A' : Array Value} {u U : State} (h : u.vm = U.vm) (hb : w.before A u = true) : w.before A' U = true := by
  rcases okw_tab ho with h1 | ⟨ty, rfl⟩
  · exact va_tabs h1 h hb
  · have e : u.setVm U.vm = u := by rw [← h]; rfl
    have h2 : (Cond.arrayClass ty).before A (u.setVm U.vm) = true := by rw [e]; exact hb
    exact h2
def ALLW (U : State) : Prop := ∀ w ∈ lw_tbl, okw w = true → w.before #[] U = true
theorem ALLW.warm {s U : State} (hW : s.WarmedH U.vm) (h : ALLW s) : ALLW U := by
  intro w hm ho
  have h1 := h w hm ho
  unfold okw at ho
  rcases Bool.or_eq_true_iff.mp ho with hg | hg
  · exact word_at hW (good_of_word hg) h1
  · cases w <;> first | exact va_Nw.warmF hW h1 | exact va_Nw.warmM hW h1 | (cases hg)
theorem ALLW.vm {u U : State} (hvm : u.vm = U.vm) (h : ALLW u) : ALLW U := fun w hm ho => okw_tabs ho hvm (h w hm ho)
theorem ALLW.of {s : State} {args : Array Value} (h : ∀ w ∈ lw_tbl, w.before args s = true) : ALLW s := fun w hm ho => okw_tabs ho rfl (h w hm)
theorem ALLW.use {s : State} (h : ALLW s) {w : Cond} (hm : w ∈ lw_tbl) (ho : okw w = true) {args : Array Value} : w.before args s = true := okw_tabs ho rfl (h w hm ho)
/-- the array types: int[], and of Star, Station, Receiver, Sight; int[][], int[][][], long[], double[] -/
def TYS (cy : Nat → ClassId) : List (ClassId × FieldType) := [(cy 0, .int), (cy 1, .object RX3), (cy 2, .object RX4), (cy 3, .object RX0), (cy 4, .object RX1), (cy 5, .array .int), (cy 6, .array (.array .int)), (cy 7, .long), (cy 8, .double)]
def GK (D : va_G) (cy : Nat → ClassId) (U : State) : Prop := ALLW U ∧ va_K D vwCl (TYS cy) U
theorem GK.warm {D : va_G} {cy : Nat → ClassId} {s U : State} (hW : s.WarmedH U.vm) (h : GK D cy s) : GK D cy U := ⟨h.1.warm hW, va_K.moved hW.alike h.2⟩
theorem GK.calling {D : va_G} {cy : Nat → ClassId} {U : State} {g : JFrame} {mk : MethodId} {a : Array Value} (h : GK D cy U) : GK D cy (U.calling g mk a) := ⟨ALLW.vm (u := U) (U := U.calling g mk a) rfl h.1, va_K.moved (u := U) (U := U.calling g mk a) (Vm.Alike.refl U.vm) h.2⟩
theorem GK.w {D : va_G} {cy : Nat → ClassId} {s : State} (h : GK D cy s) {w : Cond} (hm : w ∈ lw_tbl) (ho : okw w = true) {args : Array Value} : w.before args s = true := h.1.use hm ho
/-- a contract's start -/
def PC (D : va_G) (cy : Nat → ClassId) (av : List Value) (I : Heap → Prop) : Array Value → State → Prop := fun v U => v = av.toArray ∧ GK D cy U ∧ I U.heap
theorem PC.blind {D : va_G} {cy : Nat → ClassId} {av : List Value} {I : Heap → Prop} : FrameBlind (PC D cy av I) := fun _ _ _ _ h => ⟨h.1, h.2.1.calling, h.2.2⟩
theorem PC.preS {D : va_G} {cy : Nat → ClassId} {As : List Value} {I : Heap → Prop} {s : State} {H : Heap} (hG : GK D cy s) (hI : I H) : PreS s H (PC D cy As I) As := ⟨PC.blind, fun U hU hW => ⟨rfl, hG.warm hW, by rw [hU]; exact hI⟩⟩
theorem PC.preV {D : va_G} {cy : Nat → ClassId} {As : List Value} {I : Heap → Prop} {s : State} {H : Heap} {b ci : Nat} {fs : List Value} {C : String} {T : u_T} {N : Nat} (hG : GK D cy s) (hP : va_P D vwCl [(b, .inr (ci, fs))] H) (hc : vwCl[ci]? = some (C, T, N)) (hI : I H) : PreV s H C b (PC D cy (.ref b :: As) I) As :=
  ⟨PC.blind, va_recv hG.2 hP (q := (C, T, N)) (q0 := 0) hc rfl, fun U hU hW => ⟨rfl, hG.warm hW, by rw [hU]; exact hI⟩⟩
def RQi (r : Int32) : Array Value → State → Outcome → State → Prop := fun _ st oc t => oc = .returned (some (.int r)) ∧ t.heap = st.heap
def RQl (r : Int64) : Array Value → State → Outcome → State → Prop := fun _ st oc t => oc = .returned (some (.long r)) ∧ t.heap = st.heap
/-- a method that writes: its answer and the heap behind it satisfy P, what isn't in A stays -/
def UQi (A : Nat → Prop) (P : Int32 → Heap → Prop) : Array Value → State → Outcome → State → Prop := fun _ st oc t => (∃ r : Int32, oc = .returned (some (.int r)) ∧ P r t.heap) ∧ va_F A st t
def UQl (A : Nat → Prop) (P : Int64 → Heap → Prop) : Array Value → State → Outcome → State → Prop := fun _ st oc t => (∃ r : Int64, oc = .returned (some (.long r)) ∧ P r t.heap) ∧ va_F A st t
def UQv (A : Nat → Prop) (P : Heap → Prop) : Array Value → State → Outcome → State → Prop := fun _ st oc t => (oc = .returned none ∧ P t.heap) ∧ va_F A st t
def bI (b : Bool) : Int32 := if b then 1 else 0
theorem bI_0 {b : Bool} : bI b = 0 ↔ b = false := by cases b <;> decide
theorem bI_t {b : Bool} (h : ¬ bI b = 0) : b = true := by cases b with
  | true => rfl
  | false => exact absurd rfl h
theorem bI_f {b : Bool} (h : bI b = 0) : b = false := bI_0.mp h
theorem bI_nar (b : Bool) : narrow .boolean (.int (bI b)) = .int (bI b) := by cases b <;> decide
theorem bI_fit (b : Bool) : fits .boolean (.int (bI b)) = true := by cases b <;> decide
/-- what the tables say of a method: its code, that its class stands, how many parameters -/
def CFm (y : MethodName) (bytes : ByteArray) (maxL : Nat) (ret : Option FieldType) (n : Nat) : Prop :=
  Cond.code y bytes maxL ret ∈ lw_tbl ∧ Cond.initialized y.cls ∈ lw_tbl ∧ (y.cls ≠ "java/lang/invoke/MethodHandle" ∧ y.cls ≠ "java/lang/invoke/VarHandle" ∧ (parseMethodDescriptor y.desc).map (fun d => d.parameters.length) = some n)
def CFi (y : MethodName) (bytes : ByteArray) (maxL : Nat) (ret : Option FieldType) (n : Nat) : Prop := CFm y bytes maxL ret n ∧ Cond.instanceMethod y ∈ lw_tbl ∧ Cond.selects y.cls y y ∈ lw_tbl
def CFs (y : MethodName) (bytes : ByteArray) (maxL : Nat) (ret : Option FieldType) (n : Nat) : Prop := CFm y bytes maxL ret n ∧ Cond.static y ∈ lw_tbl
def CFc (y : MethodName) (bytes : ByteArray) (maxL : Nat) (n : Nat) : Prop := CFm y bytes maxL none n ∧ y.name = "<init>" ∧ Cond.instanceMethod y ∈ lw_tbl
section KR
variable {p : Program} {l : Launch} {e : Env} {R : Room} {s : State} {m : MethodId} {args : Array Value} {below : List Frame} {meth : Method} {c : Code} {H : Heap} {locs : List Loc} {cells slots : Nat} {Q : State → Prop}
variable {cc bytes : ByteArray} {pc nL maxL mc ms n index : Nat} {ls : Array Slot} {rest st0 As : List Value} {D : va_G} {cy : Nat → ClassId} {a b ci : Nat} {fs : List Value} {own C host : String} {T : u_T} {N : Nat} {y : MethodName} {ret : Option FieldType} {rm : Room} {I : Heap → Prop} {Qc : Array Value → State → Outcome → State → Prop} {free : Addr → Prop} {A A0 A1 : Nat → Prop} {H0 : Heap}
theorem k_body (hy : plainName y.cls = true) (hlen : (lg_sl As).length ≤ maxL)
    (body : ∀ (p : Program) (e : Env) (s : State) (m : MethodId) (below : List Frame) (meth : Method) (c : Code) (ls : Array Slot), p.tables.exec = Jvm.exec → c.code = bytes → c.maxLocals = ls.size → s.vm.findClass y.cls = some m.cls → meth.sig.returnType = ret → meth.locks = false → (meth.name = y.name) → lv_has ls maxL (lv_args 0 As) → GK D cy s → I s.heap →
      W p l e rm s m As.toArray below meth c s.heap [] 0 0 (MQ below Qc As.toArray s mc ms free) (F0 m 0 ls [])) : Met l y [.code y bytes maxL ret] rm (PC D cy As I) Qc mc ms free := by
  refine Met.ofW (cc := bytes) (maxL := maxL) (ret := ret) hy rfl ?_
  intro p e s m args below meth c s₁ B hml hv
  obtain ⟨rfl, hG, hI⟩ := hv
  have hl := lv_entry As hlen
  rw [lg_entry_eq]
  generalize (lg_sl As ++ List.replicate (maxL - (lg_sl As).length) Slot.unset).toArray = ls at hl ⊢
  exact body p e s m below meth c ls B.exec B.bytes (hml.trans hl.1.symm) (findClass_of_methodNamed B.named) B.returns B.notSynchronized (name_of_methodNamed B.named B.method).1 hl hG hI
theorem ke_i {r v : Int32} (hx : p.tables.exec = Jvm.exec) (hb : c.code = cc) (hr : meth.sig.returnType = some .int) (hlk : meth.locks = false) (hdg : decode cc pc = .ok (.ireturn, 1)) (hv : v = r) : W p l e R s m args below meth c s.heap [] cells slots (MQ below (RQi r) args s cells slots free) (F0 m pc ls [.int v]) := by
  subst hv
  exact W.iret hx hb hr (fun t ht _ => ⟨rfl, ht⟩) (fun _ h => nomatch h) hdg hlk
theorem ke_z {r : Bool} {v : Int32} (hx : p.tables.exec = Jvm.exec) (hb : c.code = cc) (hr : meth.sig.returnType = some .boolean) (hlk : meth.locks = false) (hdg : decode cc pc = .ok (.ireturn, 1)) (hv : v = bI r) : W p l e R s m args below meth c s.heap [] cells slots (MQ below (RQi (bI r)) args s cells slots free) (F0 m pc ls [.int v]) := by
  subst hv
  exact W.zret hx hb hr (bI_nar r) (fun t ht _ => ⟨rfl, ht⟩) (fun _ h => nomatch h) hdg hlk
theorem ke_l {r v : Int64} (hx : p.tables.exec = Jvm.exec) (hb : c.code = cc) (hr : meth.sig.returnType = some .long) (hlk : meth.locks = false) (hdg : decode cc pc = .ok (.lreturn, 1)) (hv : v = r) : W p l e R s m args below meth c s.heap [] cells slots (MQ below (RQl r) args s cells slots free) (F0 m pc ls [.long v]) := by
  subst hv
  exact W.lret hx hb hr (fun t ht _ => ⟨rfl, ht⟩) (fun _ h => nomatch h) hdg hlk
theorem ke_ui {P : Int32 → Heap → Prop} {v : Int32} (hx : p.tables.exec = Jvm.exec) (hb : c.code = cc) (hr : meth.sig.returnType = some .int) (hlk : meth.locks = false) (hS : va_S A s.heap H locs) (hdg : decode cc pc = .ok (.ireturn, 1)) (hv : P v H) : W p l e R s m args below meth c H locs cells slots (MQ below (UQi A P) args s cells slots A) (F0 m pc ls [.int v]) :=
  W.iret hx hb hr (fun t ht _ => ⟨⟨v, rfl, by rw [ht]; exact hv⟩, hS.F ht⟩) hS.2.2 hdg hlk
theorem ke_ul {P : Int64 → Heap → Prop} {v : Int64} (hx : p.tables.exec = Jvm.exec) (hb : c.code = cc) (hr : meth.sig.returnType = some .long) (hlk : meth.locks = false) (hS : va_S A s.heap H locs) (hdg : decode cc pc = .ok (.lreturn, 1)) (hv : P v H) : W p l e R s m args below meth c H locs cells slots (MQ below (UQl A P) args s cells slots A) (F0 m pc ls [.long v]) :=
  W.lret hx hb hr (fun t ht _ => ⟨⟨v, rfl, by rw [ht]; exact hv⟩, hS.F ht⟩) hS.2.2 hdg hlk
theorem ke_uv {P : Heap → Prop} (hx : p.tables.exec = Jvm.exec) (hb : c.code = cc) (hr : meth.sig.returnType = none) (hlk : meth.locks = false) (hS : va_S A s.heap H locs) (hdg : decode cc pc = .ok (.return_, 1)) (hv : P H) : W p l e R s m args below meth c H locs cells slots (MQ below (UQv A P) args s cells slots A) (F0 m pc ls []) :=
  W.vret hx hb hr (fun t ht _ => ⟨⟨rfl, by rw [ht]; exact hv⟩, hS.F ht⟩) hS.2.2 hdg hlk
-- fields
theorem k_get (hx : p.tables.exec = Jvm.exec) (hb : c.code = cc) (hown : s.vm.findClass own = some m.cls) (hG : GK D cy s) (hc : vwCl[ci]? = some (C, T, N)) (hin : ∀ w ∈ u_ws C T N, w ∈ lw_tbl ∧ okw w = true) (hP : va_P D vwCl [(a, .inr (ci, fs))] H) (k : Nat) (hk : k < N) (hlink : Cond.fieldLink own index (T k).1 (T k).2.1 (T k).2.2.1 ∈ lw_tbl) {v : Value} (hv : fs[k]? = some v) (hdg : decode cc pc = .ok (.getfield index, 3))
    (kk : W p l e R s m args below meth c H locs cells slots Q (F0 m (pc + 3) ls (v :: rest))) : W p l e R s m args below meth c H locs cells slots Q (F0 m pc ls (.ref a :: rest)) :=
  va_get hx hb (Ts := u_ws C T N) (fun w h => hG.w (hin w h).1 (hin w h).2) (fun _ h => h) hown hG.2 hP 0 rfl hc k hk (hG.w hlink rfl) (fun _ h => h) hv hdg kk
theorem k_getN (hx : p.tables.exec = Jvm.exec) (hb : c.code = cc) (hown : s.vm.findClass own = some m.cls) (hG : GK D cy s) (hc : vwCl[ci]? = some (C, T, N)) (hin : ∀ w ∈ u_ws C T N, w ∈ lw_tbl ∧ okw w = true) (hP : va_P D vwCl [(a, .inr (ci, fs))] H) (k : Nat) (hk : k < N) (hlink : Cond.fieldLinkNest own index (T k).1 (T k).2.1 (T k).2.2.1 host ∈ lw_tbl) {v : Value} (hv : fs[k]? = some v) (hdg : decode cc pc = .ok (.getfield index, 3))
    (kk : W p l e R s m args below meth c H locs cells slots Q (F0 m (pc + 3) ls (v :: rest))) : W p l e R s m args below meth c H locs cells slots Q (F0 m pc ls (.ref a :: rest)) :=
  va_getN hx hb (Ts := u_ws C T N) (fun w h => hG.w (hin w h).1 (hin w h).2) (fun _ h => h) hown hG.2 hP 0 rfl hc k hk (hG.w hlink rfl) (fun _ h => h) hv hdg kk
theorem kS_put {k9 : Nat} {H1 : Heap} (h : va_S A H0 H locs) (z : H1.size = H.size) (oq : ∀ q : Nat, q ≠ a → H1[q]? = H[q]?) (ha : A a) : va_S A H0 H1 (locs ++ [⟨a, k9⟩]) := h.put z oq ha
theorem k_put (hx : p.tables.exec = Jvm.exec) (hb : c.code = cc) (hown : s.vm.findClass own = some m.cls) (hG : GK D cy s) (hc : vwCl[ci]? = some (C, T, N)) (hin : ∀ w ∈ u_ws C T N, w ∈ lw_tbl ∧ okw w = true) (ty0 : Nat → FieldType) (hty : ∀ k, k < N → parseFieldDescriptor (T k).2.2.1 = some (ty0 k)) (hnm : ∀ a, a < N → ∀ b, b < N → a ≠ b → (T a).2.1 ≠ (T b).2.1) (hP : va_P D vwCl [(a, .inr (ci, fs))] H) (hS0 : va_S A H0 H locs) (hA : A a) (k : Nat) (hk : k < N) (hlink : Cond.fieldLink own index (T k).1 (T k).2.1 (T k).2.2.1 ∈ lw_tbl) (hfin : (T k).2.2.2 = false) {v : Value} (hn : narrow (ty0 k) v = v) (hfit : fits (ty0 k) v = true) (hl : k < fs.length)
    (hdg : decode cc pc = .ok (.putfield index, 3)) (kk : ∀ (H1 : Heap) (locs1 : List Loc), va_P D vwCl [(a, .inr (ci, fs.set k v))] H1 → H1.size = H.size → (∀ q : Nat, q ≠ a → H1[q]? = H[q]?) → va_S A H0 H1 locs1 → W p l e R s m args below meth c H1 locs1 cells slots Q (F0 m (pc + 3) ls rest)) : W p l e R s m args below meth c H locs cells slots Q (F0 m pc ls (v :: .ref a :: rest)) := by
  have hts : ∀ w ∈ u_ws C T N, w.before args s = true := fun w h => hG.w (hin w h).1 (hin w h).2
  have hap := va_apart (own := own) hts (fun _ h => h) ty0 hty hnm hG.2 hc
  obtain ⟨r, h1, cell, q1, q2, q3, q4⟩ := hP 0 _ rfl
  have hr : r = (C, T, N) := Option.some.inj (h1.symm.trans hc)
  subst hr
  obtain ⟨hS, hfc, kC, hkC, hkind⟩ := hG.2.1 ci _ hc
  obtain ⟨cf, kf, fi, f, hi, hsl⟩ := hS k hk
  have hlay := hts _ (u_in_lay hk)
  unfold u_lay at hlay
  rw [if_neg (by rw [hfin]; decide)] at hlay
  have hst := (u_facts hfc hkC (u_lays hts (fun _ h => h) hk) hi).1
  have h6 := u_store hfc hkC hkind hlay hi (hty k hk) hn hfit
  refine W.putK hx hb (f := f) ⟨hown, hG.w hlink rfl, ⟨_, _, _, hi⟩, hst⟩ (by rw [q2]; exact h6) q1 q3 (by rw [hsl]; exact k2_hasslot (q4 k hk)) rfl rfl hdg fun H' e1 e2 e3 => ?_
  rw [hsl] at e1 ⊢
  refine kk H' _ ?_ e2 e3 (hS0.put e2 e3 hA)
  intro k9 q9 h9
  have hz : k9 < 1 := (List.getElem?_eq_some_iff.mp h9).1
  rw [show k9 = 0 by omega] at h9
  cases h9
  exact ⟨_, hc, t_OB.to (V := updV (vp_V fs) k v) ⟨_, e1, q2, q3, t_set q4 hap hk v⟩ (fun j _ => vp_updV_set hl v j)⟩
theorem k_putN (hx : p.tables.exec = Jvm.exec) (hb : c.code = cc) (hown : s.vm.findClass own = some m.cls) (hG : GK D cy s) (hc : vwCl[ci]? = some (C, T, N)) (hin : ∀ w ∈ u_ws C T N, w ∈ lw_tbl ∧ okw w = true) (ty0 : Nat → FieldType) (hty : ∀ k, k < N → parseFieldDescriptor (T k).2.2.1 = some (ty0 k)) (hnm : ∀ a, a < N → ∀ b, b < N → a ≠ b → (T a).2.1 ≠ (T b).2.1) (hP : va_P D vwCl [(a, .inr (ci, fs))] H) (hS0 : va_S A H0 H locs) (hA : A a) (k : Nat) (hk : k < N) (hlink : Cond.fieldLinkNest own index (T k).1 (T k).2.1 (T k).2.2.1 host ∈ lw_tbl) (hfin : (T k).2.2.2 = false) {v : Value} (hn : narrow (ty0 k) v = v) (hfit : fits (ty0 k) v = true) (hl : k < fs.length)
    (hdg : decode cc pc = .ok (.putfield index, 3)) (kk : ∀ (H1 : Heap) (locs1 : List Loc), va_P D vwCl [(a, .inr (ci, fs.set k v))] H1 → H1.size = H.size → (∀ q : Nat, q ≠ a → H1[q]? = H[q]?) → va_S A H0 H1 locs1 → W p l e R s m args below meth c H1 locs1 cells slots Q (F0 m (pc + 3) ls rest)) : W p l e R s m args below meth c H locs cells slots Q (F0 m pc ls (v :: .ref a :: rest)) := by
  have hts : ∀ w ∈ u_ws C T N, w.before args s = true := fun w h => hG.w (hin w h).1 (hin w h).2
  have hap := va_apart (own := own) hts (fun _ h => h) ty0 hty hnm hG.2 hc
  obtain ⟨r, h1, cell, q1, q2, q3, q4⟩ := hP 0 _ rfl
  have hr : r = (C, T, N) := Option.some.inj (h1.symm.trans hc)
  subst hr
  obtain ⟨hS, hfc, kC, hkC, hkind⟩ := hG.2.1 ci _ hc
  obtain ⟨cf, kf, fi, f, hi, hsl⟩ := hS k hk
  have hlay := hts _ (u_in_lay hk)
  unfold u_lay at hlay
  rw [if_neg (by rw [hfin]; decide)] at hlay
  have hst := (u_facts hfc hkC (u_lays hts (fun _ h => h) hk) hi).1
  have h6 := u_store hfc hkC hkind hlay hi (hty k hk) hn hfit
  refine va_WputK hx hb (f := f) hown (hG.w hlink rfl) hi hst (by rw [q2]; exact h6) q1 q3 (by rw [hsl]; exact k2_hasslot (q4 k hk)) rfl rfl hdg fun H' e1 e2 e3 => ?_
  rw [hsl] at e1 ⊢
  refine kk H' _ ?_ e2 e3 (hS0.put e2 e3 hA)
  intro k9 q9 h9
  have hz : k9 < 1 := (List.getElem?_eq_some_iff.mp h9).1
  rw [show k9 = 0 by omega] at h9
  cases h9
  exact ⟨_, hc, t_OB.to (V := updV (vp_V fs) k v) ⟨_, e1, q2, q3, t_set q4 hap hk v⟩ (fun j _ => vp_updV_set hl v j)⟩
-- arrays
theorem k_iald (hx : p.tables.exec = Jvm.exec) (hb : c.code = cc) (hG : GK D cy s) {n : Nat} {f : Nat → Int32} (hP : va_P D vwCl [(a, .inl (cy 0, n, .inl f))] H) {i : Int32} {v : Int32} (hin : vp_in i n) (hv : f i.toNatClampNeg = v) (hdg : decode cc pc = .ok (.iaload, 1))
    (kk : W p l e R s m args below meth c H locs cells slots Q (F0 m (pc + 1) ls (.int v :: rest))) : W p l e R s m args below meth c H locs cells slots Q (F0 m pc ls (.int i :: .ref a :: rest)) := by
  subst hv
  exact va_iald hx hb hG.2 hP 0 0 rfl rfl hin hdg kk
theorem k_iast (hx : p.tables.exec = Jvm.exec) (hb : c.code = cc) (hG : GK D cy s) {n : Nat} {f : Nat → Int32} (hP : va_P D vwCl [(a, .inl (cy 0, n, .inl f))] H) (hS : va_S A H0 H locs) (hA : A a) {i : Int32} {x : Int32} (hin : vp_in i n) (hdg : decode cc pc = .ok (.iastore, 1))
    (kk : ∀ (H1 : Heap) (locs1 : List Loc), va_P D vwCl [(a, .inl (cy 0, n, .inl (upd f i.toNatClampNeg x)))] H1 → H1.size = H.size → (∀ q : Nat, q ≠ a → H1[q]? = H[q]?) → va_S A H0 H1 locs1 → W p l e R s m args below meth c H1 locs1 cells slots Q (F0 m (pc + 1) ls rest)) : W p l e R s m args below meth c H locs cells slots Q (F0 m pc ls (.int x :: .int i :: .ref a :: rest)) := by
  refine W.iast hx hb (hP 0 _ rfl) ((hG.2.2 0 _ rfl).1 n (fun j => .int (f j))) (fun q => by cases q) (by show ¬ (i < 0 ∨ (arrV _ _ _).slots.size ≤ _); rw [arrV_size]; exact hin) rfl rfl hdg fun H1 e z oq => ?_
  refine kk H1 _ ?_ z oq (hS.put z oq hA)
  intro k9 q9 h9
  have hz : k9 < 1 := (List.getElem?_eq_some_iff.mp h9).1
  rw [show k9 = 0 by omega] at h9
  cases h9
  show H1[a]? = some (vp_cell _ _)
  rw [e]
  rw [vp_cell_i, vp_cell_i, arrV_store]
  congr 2
  funext q
  by_cases hq : q = i.toNatClampNeg
  · subst hq
    simp [updV, upd]
  · simp [updV, upd, hq]
theorem k_aldq (hx : p.tables.exec = Jvm.exec) (hb : c.code = cc) (hG : GK D cy s) (t0 : Nat) {cA : ClassId} {C : String} (ht : (TYS cy)[t0]? = some (cA, .object C)) {n : Nat} {f : Nat → Option Nat} (hP : va_P D vwCl [(a, .inl (cA, n, .inr (.inr (.inr (.inr f)))))] H) {i : Int32} {v : Nat} (hin : vp_in i n) (hv : f i.toNatClampNeg = some v) (hdg : decode cc pc = .ok (.aaload, 1))
    (kk : W p l e R s m args below meth c H locs cells slots Q (F0 m (pc + 1) ls (.ref v :: rest))) : W p l e R s m args below meth c H locs cells slots Q (F0 m pc ls (.int i :: .ref a :: rest)) :=
  va_aldq hx hb hG.2 hP 0 t0 rfl ht hin hdg (by rw [hv]; exact kk)
theorem k_ald2 (hx : p.tables.exec = Jvm.exec) (hb : c.code = cc) (hG : GK D cy s) (t0 : Nat) {cA : ClassId} {ty : FieldType} (ht : (TYS cy)[t0]? = some (cA, .array ty)) {n : Nat} {f : Nat → Option Nat} (hP : va_P D vwCl [(a, .inl (cA, n, .inr (.inr (.inr (.inr f)))))] H) {i : Int32} {v : Nat} (hin : vp_in i n) (hv : f i.toNatClampNeg = some v) (hdg : decode cc pc = .ok (.aaload, 1))
    (kk : W p l e R s m args below meth c H locs cells slots Q (F0 m (pc + 1) ls (.ref v :: rest))) : W p l e R s m args below meth c H locs cells slots Q (F0 m pc ls (.int i :: .ref a :: rest)) := by
  have hlt : i.toNatClampNeg < n := Nat.not_le.mp fun q => hin (Or.inr q)
  exact W.aald (v := .ref v) (ty := .array ty) hx hb (hP 0 _ rfl) ((hG.2.2 t0 _ ht).1 n (fun j => va_rf (f j))) rfl (fun q => by cases q) (by show ¬ (i < 0 ∨ (arrV _ _ _).slots.size ≤ _); rw [arrV_size]; exact hin) (by show (arrV _ _ _).slots[_]? = _; rw [arrV_read _ _ hlt, hv]; rfl) rfl rfl hdg kk
-- calls: the run
theorem k_cb (hG : GK D cy s) (cf : CFm y bytes maxL ret n) (hl : Cond.methodLink own index y ∈ lw_tbl) (hroom : rm.cells = mc ∧ rm.slots = ms ∧ rm.frames + 1 ≤ R.frames ∧ 8 + (maxL + 11) + rm.locals ≤ R.locals) : CallB R s args own index y bytes maxL ret [.code y bytes maxL ret] rm mc ms n := by
  refine ⟨hroom.1, hroom.2.1, hroom.2.2.1, hroom.2.2.2, fun w hw a' U hW => ?_, List.mem_singleton.mpr rfl, hG.w cf.1 rfl, hG.w cf.2.1 rfl, ⟨cf.2.2.1, cf.2.2.2.1⟩, fun sig h => ?_, hG.w hl rfl⟩
  · rw [List.mem_singleton.mp hw]
    exact (hG.warm hW).w cf.1 rfl
  · have h2 := cf.2.2.2.2
    rw [h] at h2
    exact (Option.some.inj h2).symm
theorem k_cn (hG : GK D cy s) (cf : CFm y bytes maxL ret n) (hl : Cond.methodLinkNest own index y host ∈ lw_tbl) (hroom : rm.cells = mc ∧ rm.slots = ms ∧ rm.frames + 1 ≤ R.frames ∧ 8 + (maxL + 11) + rm.locals ≤ R.locals) : va_CN R s args own index y host bytes maxL ret [.code y bytes maxL ret] rm mc ms n := by
  refine ⟨⟨hroom.1, hroom.2.1, hroom.2.2.1, hroom.2.2.2, fun w hw a' U hW => ?_, List.mem_singleton.mpr rfl⟩, hG.w cf.1 rfl, hG.w cf.2.1 rfl, ⟨cf.2.2.1, cf.2.2.2.1⟩, fun sig h => ?_, hG.w hl rfl⟩
  · rw [List.mem_singleton.mp hw]
    exact (hG.warm hW).w cf.1 rfl
  · have h2 := cf.2.2.2.2
    rw [h] at h2
    exact (Option.some.inj h2).symm
theorem kr_V (hx : p.tables.exec = Jvm.exec) (hb : c.code = cc) (hml : c.maxLocals = ls.size) (hown : s.vm.findClass own = some m.cls) (hG : GK D cy s) (hM : Met l y [.code y bytes maxL ret] rm (PC D cy (.ref b :: As) I) Qc mc ms free) (cf : CFi y bytes maxL ret n) (hl : Cond.methodLink own index y ∈ lw_tbl) (hP : va_P D vwCl [(b, .inr (ci, fs))] H) (hci : vwCl[ci]? = some (y.cls, T, N)) (hI : I H) (hroom : rm.cells = mc ∧ rm.slots = ms ∧ rm.frames + 1 ≤ R.frames ∧ 8 + (maxL + 11) + rm.locals ≤ R.locals) (hn : As.length = n) (hst : st0 = As.reverse ++ .ref b :: rest) (hW : (rest.map fun v => v.category).sum ≤ 8) (hf : cells + mc ≤ R.cells ∧ slots + ms ≤ R.slots) (hdg : decode cc pc = .ok (.invokevirtual index, 3)) :
    va_Run p l e R s m args below meth c H locs cells slots mc ms (F0 m pc ls st0) rest (Qc (Value.ref b :: As).toArray) free :=
  va_runV (Ts := []) ⟨hx, hb, hml, hown, fun _ h => nomatch h⟩ hM ⟨k_cb hG cf.1 hl hroom, hG.w cf.2.1 rfl, hG.w cf.2.2 rfl⟩ (PC.preV hG hP hci hI) rfl hn rfl hst (lv_room hW) hdg hf
theorem kr_VN (hx : p.tables.exec = Jvm.exec) (hb : c.code = cc) (hml : c.maxLocals = ls.size) (hown : s.vm.findClass own = some m.cls) (hG : GK D cy s) (hM : Met l y [.code y bytes maxL ret] rm (PC D cy (.ref b :: As) I) Qc mc ms free) (cf : CFi y bytes maxL ret n) (hl : Cond.methodLinkNest own index y host ∈ lw_tbl) (hP : va_P D vwCl [(b, .inr (ci, fs))] H) (hci : vwCl[ci]? = some (y.cls, T, N)) (hI : I H) (hroom : rm.cells = mc ∧ rm.slots = ms ∧ rm.frames + 1 ≤ R.frames ∧ 8 + (maxL + 11) + rm.locals ≤ R.locals) (hn : As.length = n) (hst : st0 = As.reverse ++ .ref b :: rest) (hW : (rest.map fun v => v.category).sum ≤ 8) (hf : cells + mc ≤ R.cells ∧ slots + ms ≤ R.slots) (hdg : decode cc pc = .ok (.invokevirtual index, 3)) :
    va_Run p l e R s m args below meth c H locs cells slots mc ms (F0 m pc ls st0) rest (Qc (Value.ref b :: As).toArray) free :=
  va_runVN (Ts := []) ⟨hx, hb, hml, hown, fun _ h => nomatch h⟩ hM ⟨k_cn hG cf.1 hl hroom, hG.w cf.2.1 rfl, hG.w cf.2.2 rfl⟩ (PC.preV hG hP hci hI) rfl hn rfl hst (lv_room hW) hdg hf
theorem kr_S (hx : p.tables.exec = Jvm.exec) (hb : c.code = cc) (hml : c.maxLocals = ls.size) (hown : s.vm.findClass own = some m.cls) (hG : GK D cy s) (hM : Met l y [.code y bytes maxL ret] rm (PC D cy As I) Qc mc ms free) (cf : CFs y bytes maxL ret n) (hl : Cond.methodLink own index y ∈ lw_tbl) (hI : I H) (hroom : rm.cells = mc ∧ rm.slots = ms ∧ rm.frames + 1 ≤ R.frames ∧ 8 + (maxL + 11) + rm.locals ≤ R.locals) (hn : As.length = n) (hst : st0 = As.reverse ++ rest) (hW : (rest.map fun v => v.category).sum ≤ 8) (hf : cells + mc ≤ R.cells ∧ slots + ms ≤ R.slots) (hdg : decode cc pc = .ok (.invokestatic index, 3)) :
    va_Run p l e R s m args below meth c H locs cells slots mc ms (F0 m pc ls st0) rest (Qc As.toArray) free :=
  va_runS (Ts := []) ⟨hx, hb, hml, hown, fun _ h => nomatch h⟩ hM ⟨k_cb hG cf.1 hl hroom, hG.w cf.2 rfl⟩ (PC.preS hG hI) rfl hn rfl hst (lv_room hW) hdg hf
theorem kr_SN (hx : p.tables.exec = Jvm.exec) (hb : c.code = cc) (hml : c.maxLocals = ls.size) (hown : s.vm.findClass own = some m.cls) (hG : GK D cy s) (hM : Met l y [.code y bytes maxL ret] rm (PC D cy As I) Qc mc ms free) (cf : CFs y bytes maxL ret n) (hl : Cond.methodLinkNest own index y host ∈ lw_tbl) (hI : I H) (hroom : rm.cells = mc ∧ rm.slots = ms ∧ rm.frames + 1 ≤ R.frames ∧ 8 + (maxL + 11) + rm.locals ≤ R.locals) (hn : As.length = n) (hst : st0 = As.reverse ++ rest) (hW : (rest.map fun v => v.category).sum ≤ 8) (hf : cells + mc ≤ R.cells ∧ slots + ms ≤ R.slots) (hdg : decode cc pc = .ok (.invokestatic index, 3)) :
    va_Run p l e R s m args below meth c H locs cells slots mc ms (F0 m pc ls st0) rest (Qc As.toArray) free :=
  va_runSN (Ts := []) ⟨hx, hb, hml, hown, fun _ h => nomatch h⟩ hM ⟨k_cn hG cf.1 hl hroom, hG.w cf.2 rfl, trivial⟩ (PC.preS hG hI) rfl hn rfl hst (lv_room hW) hdg hf
-- calls: what goes on
theorem kc_i {r : Int32} {a9 : Array Value} (hr : va_Run p l e R s m args below meth c H locs cells slots 0 0 (F0 m pc ls st0) rest (RQi r a9) (fun _ => False)) (kk : W p l e R s m args below meth c H locs cells slots Q (F0 m (pc + 3) ls (.int r :: rest))) : W p l e R s m args below meth c H locs cells slots Q (F0 m pc ls st0) := by
  intro T hT X
  obtain ⟨v, st₀, t, T', L, h0, X', hL, e1, e2, ⟨hv, hh⟩, st⟩ := hr T hT X
  cases hv
  obtain ⟨t2, a1, b1⟩ := kk T' (by rw [e1, hh, h0]) (Stand.forget X' (fun q h => (hL q h).elim))
  exact ⟨t2, st t2 a1, b1⟩
theorem kc_l {r : Int64} {a9 : Array Value} (hr : va_Run p l e R s m args below meth c H locs cells slots 0 0 (F0 m pc ls st0) rest (RQl r a9) (fun _ => False)) (kk : W p l e R s m args below meth c H locs cells slots Q (F0 m (pc + 3) ls (.long r :: rest))) : W p l e R s m args below meth c H locs cells slots Q (F0 m pc ls st0) := by
  intro T hT X
  obtain ⟨v, st₀, t, T', L, h0, X', hL, e1, e2, ⟨hv, hh⟩, st⟩ := hr T hT X
  cases hv
  obtain ⟨t2, a1, b1⟩ := kk T' (by rw [e1, hh, h0]) (Stand.forget X' (fun q h => (hL q h).elim))
  exact ⟨t2, st t2 a1, b1⟩
theorem kS_call {H1 : Heap} {L : List Loc} (hS : va_S A0 H0 H locs) (hA : ∀ q, q < H.size → A1 q → A0 q) (hf : ∀ q, free q → A0 q) (hL : ∀ q ∈ L, free q.base) (hz : H.size ≤ H1.size) (hk : ∀ q : Nat, q < H.size → ¬ A1 q → H1[q]? = H[q]?) : va_S A0 H0 H1 (locs ++ L) :=
  ⟨Nat.le_trans hS.1 hz, fun q h1 h2 => by rw [hk q (Nat.lt_of_lt_of_le h1 hS.1) (fun z => h2 (hA q (Nat.lt_of_lt_of_le h1 hS.1) z))]; exact hS.2.1 q h1 h2, fun q hq => by
    rcases List.mem_append.mp hq with h | h
    · exact hS.2.2 q h
    · exact hf _ (hL q h)⟩
theorem kc_ui {P : Int32 → Heap → Prop} {a9 : Array Value} (hr : va_Run p l e R s m args below meth c H locs cells slots mc ms (F0 m pc ls st0) rest (UQi A1 P a9) A1) (hS : va_S A0 H0 H locs) (hA : ∀ q, A1 q → A0 q)
    (kk : ∀ (r : Int32) (H1 : Heap) (locs1 : List Loc), P r H1 → H.size ≤ H1.size → (∀ q : Nat, q < H.size → ¬ A1 q → H1[q]? = H[q]?) → va_S A0 H0 H1 locs1 → W p l e R s m args below meth c H1 locs1 (cells + mc) (slots + ms) Q (F0 m (pc + 3) ls (.int r :: rest))) : W p l e R s m args below meth c H locs cells slots Q (F0 m pc ls st0) := by
  intro T hT X
  obtain ⟨v, st₀, t, T', L, h0, X', hL, e1, e2, ⟨⟨r, hv, hp⟩, hz, hk⟩, st⟩ := hr T hT X
  cases hv
  rw [h0] at hz hk
  obtain ⟨t2, a1, b1⟩ := kk r T'.heap (locs ++ L) (by rw [e1]; exact hp) (by rw [e1]; exact hz) (fun q h1 h2 => by rw [e1]; exact hk q h1 h2) (kS_call hS (fun q _ h => hA q h) hA hL (by rw [e1]; exact hz) (fun q h1 h2 => by rw [e1]; exact hk q h1 h2)) T' rfl X'
  exact ⟨t2, st t2 a1, b1⟩
theorem kc_ul {P : Int64 → Heap → Prop} {a9 : Array Value} (hr : va_Run p l e R s m args below meth c H locs cells slots mc ms (F0 m pc ls st0) rest (UQl A1 P a9) A1) (hS : va_S A0 H0 H locs) (hA : ∀ q, A1 q → A0 q)
    (kk : ∀ (r : Int64) (H1 : Heap) (locs1 : List Loc), P r H1 → H.size ≤ H1.size → (∀ q : Nat, q < H.size → ¬ A1 q → H1[q]? = H[q]?) → va_S A0 H0 H1 locs1 → W p l e R s m args below meth c H1 locs1 (cells + mc) (slots + ms) Q (F0 m (pc + 3) ls (.long r :: rest))) : W p l e R s m args below meth c H locs cells slots Q (F0 m pc ls st0) := by
  intro T hT X
  obtain ⟨v, st₀, t, T', L, h0, X', hL, e1, e2, ⟨⟨r, hv, hp⟩, hz, hk⟩, st⟩ := hr T hT X
  cases hv
  rw [h0] at hz hk
  obtain ⟨t2, a1, b1⟩ := kk r T'.heap (locs ++ L) (by rw [e1]; exact hp) (by rw [e1]; exact hz) (fun q h1 h2 => by rw [e1]; exact hk q h1 h2) (kS_call hS (fun q _ h => hA q h) hA hL (by rw [e1]; exact hz) (fun q h1 h2 => by rw [e1]; exact hk q h1 h2)) T' rfl X'
  exact ⟨t2, st t2 a1, b1⟩
theorem kc_uv {P : Heap → Prop} {a9 : Array Value} (hr : va_Run p l e R s m args below meth c H locs cells slots mc ms (F0 m pc ls st0) rest (UQv A1 P a9) A1) (hS : va_S A0 H0 H locs) (hA : ∀ q, A1 q → A0 q)
    (kk : ∀ (H1 : Heap) (locs1 : List Loc), P H1 → H.size ≤ H1.size → (∀ q : Nat, q < H.size → ¬ A1 q → H1[q]? = H[q]?) → va_S A0 H0 H1 locs1 → W p l e R s m args below meth c H1 locs1 (cells + mc) (slots + ms) Q (F0 m (pc + 3) ls rest)) : W p l e R s m args below meth c H locs cells slots Q (F0 m pc ls st0) := by
  intro T hT X
  obtain ⟨v, st₀, t, T', L, h0, X', hL, e1, e2, ⟨⟨hv, hp⟩, hz, hk⟩, st⟩ := hr T hT X
  cases hv
  rw [h0] at hz hk
  obtain ⟨t2, a1, b1⟩ := kk T'.heap (locs ++ L) (by rw [e1]; exact hp) (by rw [e1]; exact hz) (fun q h1 h2 => by rw [e1]; exact hk q h1 h2) (kS_call hS (fun q _ h => hA q h) hA hL (by rw [e1]; exact hz) (fun q h1 h2 => by rw [e1]; exact hk q h1 h2)) T' rfl X'
  exact ⟨t2, st t2 a1, b1⟩
end KR
end
section
theorem wIni_L : Cond.initialized RL ∈ lw_tbl := List.mem_of_getElem? (i := 92) (by decide +kernel)
theorem wIni_X6 : Cond.initialized RX6 ∈ lw_tbl := List.mem_of_getElem? (i := 93) (by decide +kernel)
theorem wIni_X2 : Cond.initialized RX2 ∈ lw_tbl := List.mem_of_getElem? (i := 94) (by decide +kernel)
theorem wIni_X7 : Cond.initialized RX7 ∈ lw_tbl := List.mem_of_getElem? (i := 95) (by decide +kernel)
theorem wIni_Throwable : Cond.initialized "java/lang/Throwable" ∈ lw_tbl := List.mem_of_getElem? (i := 96) (by decide +kernel)
theorem wIni_Exception : Cond.initialized "java/lang/Exception" ∈ lw_tbl := List.mem_of_getElem? (i := 97) (by decide +kernel)
theorem wIni_RuntimeException : Cond.initialized "java/lang/RuntimeException" ∈ lw_tbl := List.mem_of_getElem? (i := 98) (by decide +kernel)
theorem wIni_IllegalArgumentException : Cond.initialized "java/lang/IllegalArgumentException" ∈ lw_tbl := List.mem_of_getElem? (i := 99) (by decide +kernel)
theorem wIni_IllegalStateException : Cond.initialized "java/lang/IllegalStateException" ∈ lw_tbl := List.mem_of_getElem? (i := 100) (by decide +kernel)
theorem wIni_X3 : Cond.initialized RX3 ∈ lw_tbl := List.mem_of_getElem? (i := 101) (by decide +kernel)
theorem wIni_IndexOutOfBoundsException : Cond.initialized "java/lang/IndexOutOfBoundsException" ∈ lw_tbl := List.mem_of_getElem? (i := 102) (by decide +kernel)
theorem wIni_J9 : Cond.initialized RJ9 ∈ lw_tbl := List.mem_of_getElem? (i := 103) (by decide +kernel)
theorem wIni_X4 : Cond.initialized RX4 ∈ lw_tbl := List.mem_of_getElem? (i := 104) (by decide +kernel)
theorem wIni_X0 : Cond.initialized RX0 ∈ lw_tbl := List.mem_of_getElem? (i := 105) (by decide +kernel)
theorem wIni_X5 : Cond.initialized RX5 ∈ lw_tbl := List.mem_of_getElem? (i := 106) (by decide +kernel)
theorem wIni_X1 : Cond.initialized RX1 ∈ lw_tbl := List.mem_of_getElem? (i := 107) (by decide +kernel)
theorem wIni_J6 : Cond.initialized RJ6 ∈ lw_tbl := List.mem_of_getElem? (i := 108) (by decide +kernel)
theorem wC_L_8 : Cond.classLink RL 8 RX6 ∈ lw_tbl := List.mem_of_getElem? (i := 109) (by decide +kernel)
theorem wI_X6 : Cond.instantiable RX6 8 ∈ lw_tbl := List.mem_of_getElem? (i := 110) (by decide +kernel)
theorem wM_L_97 : Cond.methodLink RL 97 yX6_init ∈ lw_tbl := List.mem_of_getElem? (i := 111) (by decide +kernel)
theorem wM_X6_1 : Cond.methodLink RX6 1 objectInit ∈ lw_tbl := List.mem_of_getElem? (i := 114) (by decide +kernel)
theorem wC_X6_9 : Cond.classLink RX6 9 RX3 ∈ lw_tbl := List.mem_of_getElem? (i := 117) (by decide +kernel)
theorem wAO__object_Pseudorange_Star_ : Cond.arrayOver (.object "Pseudorange$Star") ∈ lw_tbl := List.mem_of_getElem? (i := 118) (by decide +kernel)
theorem wC_X6_15 : Cond.classLink RX6 15 RX4 ∈ lw_tbl := List.mem_of_getElem? (i := 119) (by decide +kernel)
theorem wAO__object_Pseudorange_Station_ : Cond.arrayOver (.object "Pseudorange$Station") ∈ lw_tbl := List.mem_of_getElem? (i := 120) (by decide +kernel)
theorem wC_X6_21 : Cond.classLink RX6 21 RX0 ∈ lw_tbl := List.mem_of_getElem? (i := 121) (by decide +kernel)
theorem wAO__object_Pseudorange_Receiver_ : Cond.arrayOver (.object "Pseudorange$Receiver") ∈ lw_tbl := List.mem_of_getElem? (i := 122) (by decide +kernel)
theorem wC_X6_27 : Cond.classLink RX6 27 RX2 ∈ lw_tbl := List.mem_of_getElem? (i := 123) (by decide +kernel)
theorem wI_X2 : Cond.instantiable RX2 15 ∈ lw_tbl := List.mem_of_getElem? (i := 124) (by decide +kernel)
theorem wMN_X6_29 : Cond.methodLinkNest RX6 29 yX2_init RX6 ∈ lw_tbl := List.mem_of_getElem? (i := 125) (by decide +kernel)
theorem wM_X2_3 : Cond.methodLink RX2 3 objectInit ∈ lw_tbl := List.mem_of_getElem? (i := 128) (by decide +kernel)
theorem wF_X2_9 : Cond.fieldLink RX2 9 RX2 "starX" "[I" ∈ lw_tbl := List.mem_of_getElem? (i := 129) (by decide +kernel)
theorem wF_X2_15 : Cond.fieldLink RX2 15 RX2 "starY" "[I" ∈ lw_tbl := List.mem_of_getElem? (i := 130) (by decide +kernel)
theorem wF_X2_18 : Cond.fieldLink RX2 18 RX2 "pseudoranges" "[I" ∈ lw_tbl := List.mem_of_getElem? (i := 131) (by decide +kernel)
theorem wF_X2_21 : Cond.fieldLink RX2 21 RX2 "weights" "[I" ∈ lw_tbl := List.mem_of_getElem? (i := 132) (by decide +kernel)
theorem wF_X2_24 : Cond.fieldLink RX2 24 RX2 "over" "[I" ∈ lw_tbl := List.mem_of_getElem? (i := 133) (by decide +kernel)
theorem wF_X2_27 : Cond.fieldLink RX2 27 RX2 "used" "I" ∈ lw_tbl := List.mem_of_getElem? (i := 134) (by decide +kernel)
theorem wFN_X5_41 : Cond.fieldLinkNest RX5 41 RX2 "used" "I" RX6 ∈ lw_tbl := List.mem_of_getElem? (i := 135) (by decide +kernel)
theorem wFN_X6_382 : Cond.fieldLinkNest RX6 382 RX2 "used" "I" RX6 ∈ lw_tbl := List.mem_of_getElem? (i := 136) (by decide +kernel)
theorem wF_X2_45 : Cond.fieldLink RX2 45 RX2 "x" "I" ∈ lw_tbl := List.mem_of_getElem? (i := 137) (by decide +kernel)
theorem wFN_X5_56 : Cond.fieldLinkNest RX5 56 RX2 "x" "I" RX6 ∈ lw_tbl := List.mem_of_getElem? (i := 138) (by decide +kernel)
theorem wFN_X6_278 : Cond.fieldLinkNest RX6 278 RX2 "x" "I" RX6 ∈ lw_tbl := List.mem_of_getElem? (i := 139) (by decide +kernel)
theorem wF_X2_51 : Cond.fieldLink RX2 51 RX2 "y" "I" ∈ lw_tbl := List.mem_of_getElem? (i := 140) (by decide +kernel)
theorem wFN_X5_57 : Cond.fieldLinkNest RX5 57 RX2 "y" "I" RX6 ∈ lw_tbl := List.mem_of_getElem? (i := 141) (by decide +kernel)
theorem wFN_X6_279 : Cond.fieldLinkNest RX6 279 RX2 "y" "I" RX6 ∈ lw_tbl := List.mem_of_getElem? (i := 142) (by decide +kernel)
theorem wF_X2_57 : Cond.fieldLink RX2 57 RX2 "time" "I" ∈ lw_tbl := List.mem_of_getElem? (i := 143) (by decide +kernel)
theorem wFN_X5_58 : Cond.fieldLinkNest RX5 58 RX2 "time" "I" RX6 ∈ lw_tbl := List.mem_of_getElem? (i := 144) (by decide +kernel)
theorem wF_X2_64 : Cond.fieldLink RX2 64 RX2 "cost" "J" ∈ lw_tbl := List.mem_of_getElem? (i := 145) (by decide +kernel)
theorem wFN_X5_62 : Cond.fieldLinkNest RX5 62 RX2 "cost" "J" RX6 ∈ lw_tbl := List.mem_of_getElem? (i := 146) (by decide +kernel)
theorem wFN_X6_385 : Cond.fieldLinkNest RX6 385 RX2 "cost" "J" RX6 ∈ lw_tbl := List.mem_of_getElem? (i := 147) (by decide +kernel)
theorem wF_X2_31 : Cond.fieldLink RX2 31 RX2 "level" "I" ∈ lw_tbl := List.mem_of_getElem? (i := 148) (by decide +kernel)
theorem wFN_X5_44 : Cond.fieldLinkNest RX5 44 RX2 "level" "I" RX6 ∈ lw_tbl := List.mem_of_getElem? (i := 149) (by decide +kernel)
theorem wFN_X6_389 : Cond.fieldLinkNest RX6 389 RX2 "level" "I" RX6 ∈ lw_tbl := List.mem_of_getElem? (i := 150) (by decide +kernel)
theorem wF_X2_42 : Cond.fieldLink RX2 42 RX2 "bestX" "I" ∈ lw_tbl := List.mem_of_getElem? (i := 151) (by decide +kernel)
theorem wF_X2_48 : Cond.fieldLink RX2 48 RX2 "bestY" "I" ∈ lw_tbl := List.mem_of_getElem? (i := 152) (by decide +kernel)
theorem wF_X2_54 : Cond.fieldLink RX2 54 RX2 "bestTime" "I" ∈ lw_tbl := List.mem_of_getElem? (i := 153) (by decide +kernel)
theorem wF_X2_60 : Cond.fieldLink RX2 60 RX2 "bestCost" "J" ∈ lw_tbl := List.mem_of_getElem? (i := 154) (by decide +kernel)
theorem wAC_int : Cond.arrayClass .int ∈ lw_tbl := List.mem_of_getElem? (i := 186) (by decide +kernel)
theorem wF_X6_11 : Cond.fieldLink RX6 11 RX6 "stars" "[LPseudorange$Star;" ∈ lw_tbl := List.mem_of_getElem? (i := 187) (by decide +kernel)
theorem wF_X6_17 : Cond.fieldLink RX6 17 RX6 "stations" "[LPseudorange$Station;" ∈ lw_tbl := List.mem_of_getElem? (i := 188) (by decide +kernel)
theorem wF_X6_23 : Cond.fieldLink RX6 23 RX6 "receivers" "[LPseudorange$Receiver;" ∈ lw_tbl := List.mem_of_getElem? (i := 189) (by decide +kernel)
theorem wF_X6_30 : Cond.fieldLink RX6 30 RX6 "solver" "LPseudorange$Solver;" ∈ lw_tbl := List.mem_of_getElem? (i := 190) (by decide +kernel)
theorem wF_X6_47 : Cond.fieldLink RX6 47 RX6 "starCount" "I" ∈ lw_tbl := List.mem_of_getElem? (i := 191) (by decide +kernel)
theorem wF_X6_95 : Cond.fieldLink RX6 95 RX6 "stationCount" "I" ∈ lw_tbl := List.mem_of_getElem? (i := 192) (by decide +kernel)
theorem wF_X6_132 : Cond.fieldLink RX6 132 RX6 "receiverCount" "I" ∈ lw_tbl := List.mem_of_getElem? (i := 193) (by decide +kernel)
theorem wF_X6_114 : Cond.fieldLink RX6 114 RX6 "epoch" "I" ∈ lw_tbl := List.mem_of_getElem? (i := 194) (by decide +kernel)
theorem wM_L_189 : Cond.methodLink RL 189 yX6_digest ∈ lw_tbl := List.mem_of_getElem? (i := 212) (by decide +kernel)
theorem wK_X6_284 : Cond.constantLong RX6 284 (58189 : Int64) ∈ lw_tbl := List.mem_of_getElem? (i := 216) (by decide +kernel)
theorem wK_X6_286 : Cond.constantLong RX6 286 (31 : Int64) ∈ lw_tbl := List.mem_of_getElem? (i := 217) (by decide +kernel)
theorem wM_X6_257 : Cond.methodLink RX6 257 yX6_countOf ∈ lw_tbl := List.mem_of_getElem? (i := 218) (by decide +kernel)
theorem wM_X6_399 : Cond.methodLink RX6 399 yX6_sumOfStars ∈ lw_tbl := List.mem_of_getElem? (i := 222) (by decide +kernel)
theorem wMN_X6_335 : Cond.methodLinkNest RX6 335 yX3_messageHolds RX6 ∈ lw_tbl := List.mem_of_getElem? (i := 226) (by decide +kernel)
theorem wI_X3 : Cond.instantiable RX3 11 ∈ lw_tbl := List.mem_of_getElem? (i := 229) (by decide +kernel)
theorem wMN_X3_63 : Cond.methodLinkNest RX3 63 yX6_isOutside RX6 ∈ lw_tbl := List.mem_of_getElem? (i := 231) (by decide +kernel)
theorem wM_X6_402 : Cond.methodLink RX6 402 yX6_sumOfReceivers ∈ lw_tbl := List.mem_of_getElem? (i := 234) (by decide +kernel)
theorem wM_X6_288 : Cond.methodLink RX6 288 yX6_digestStar ∈ lw_tbl := List.mem_of_getElem? (i := 238) (by decide +kernel)
theorem wMN_X6_239 : Cond.methodLinkNest RX6 239 yX3_tell RX6 ∈ lw_tbl := List.mem_of_getElem? (i := 242) (by decide +kernel)
theorem wM_X3_67 : Cond.methodLink RX3 67 yX3_xIn ∈ lw_tbl := List.mem_of_getElem? (i := 246) (by decide +kernel)
theorem wMN_X3_50 : Cond.methodLinkNest RX3 50 yX6_swing RX6 ∈ lw_tbl := List.mem_of_getElem? (i := 250) (by decide +kernel)
theorem wM_X3_70 : Cond.methodLink RX3 70 yX3_yIn ∈ lw_tbl := List.mem_of_getElem? (i := 253) (by decide +kernel)
theorem wMN_X6_242 : Cond.methodLinkNest RX6 242 yX3_tellMessage RX6 ∈ lw_tbl := List.mem_of_getElem? (i := 257) (by decide +kernel)
theorem wM_X3_73 : Cond.methodLink RX3 73 yX3_messageHolds ∈ lw_tbl := List.mem_of_getElem? (i := 261) (by decide +kernel)
theorem wM_X3_77 : Cond.methodLink RX3 77 yX3_toldClock ∈ lw_tbl := List.mem_of_getElem? (i := 262) (by decide +kernel)
theorem wM_X3_80 : Cond.methodLink RX3 80 Lib.Math.abs.name ∈ lw_tbl := List.mem_of_getElem? (i := 266) (by decide +kernel)
theorem wM_X3_83 : Cond.methodLink RX3 83 yX3_toldX ∈ lw_tbl := List.mem_of_getElem? (i := 269) (by decide +kernel)
theorem wM_X3_86 : Cond.methodLink RX3 86 yX3_toldY ∈ lw_tbl := List.mem_of_getElem? (i := 273) (by decide +kernel)
theorem wMN_X3_89 : Cond.methodLinkNest RX3 89 yX6_rangeOf RX6 ∈ lw_tbl := List.mem_of_getElem? (i := 277) (by decide +kernel)
theorem wM_X6_302 : Cond.methodLink RX6 302 Lib.Math.abs.name ∈ lw_tbl := List.mem_of_getElem? (i := 280) (by decide +kernel)
theorem wM_X6_299 : Cond.methodLink RX6 299 Lib.Math.max.name ∈ lw_tbl := List.mem_of_getElem? (i := 281) (by decide +kernel)
theorem wM_X6_266 : Cond.methodLink RX6 266 yX6_firstHeard ∈ lw_tbl := List.mem_of_getElem? (i := 284) (by decide +kernel)
theorem wMN_X6_108 : Cond.methodLinkNest RX6 108 yX4_canHear RX6 ∈ lw_tbl := List.mem_of_getElem? (i := 287) (by decide +kernel)
theorem wI_X4 : Cond.instantiable RX4 2 ∈ lw_tbl := List.mem_of_getElem? (i := 290) (by decide +kernel)
theorem wMN_X4_16 : Cond.methodLinkNest RX4 16 yX3_yIn RX6 ∈ lw_tbl := List.mem_of_getElem? (i := 292) (by decide +kernel)
theorem wMN_X4_26 : Cond.methodLinkNest RX4 26 yX3_xIn RX6 ∈ lw_tbl := List.mem_of_getElem? (i := 293) (by decide +kernel)
theorem wM_X4_29 : Cond.methodLink RX4 29 Lib.Math.abs.name ∈ lw_tbl := List.mem_of_getElem? (i := 294) (by decide +kernel)
theorem wM_X6_292 : Cond.methodLink RX6 292 yX6_digestReceiver ∈ lw_tbl := List.mem_of_getElem? (i := 295) (by decide +kernel)
theorem wM_X6_254 : Cond.methodLink RX6 254 yX6_tellReceiver ∈ lw_tbl := List.mem_of_getElem? (i := 299) (by decide +kernel)
theorem wM_X6_165 : Cond.methodLink RX6 165 yX6_setSeen ∈ lw_tbl := List.mem_of_getElem? (i := 303) (by decide +kernel)
theorem wMN_X6_306 : Cond.methodLinkNest RX6 306 yX0_canSee RX6 ∈ lw_tbl := List.mem_of_getElem? (i := 307) (by decide +kernel)
theorem wI_X0 : Cond.instantiable RX0 13 ∈ lw_tbl := List.mem_of_getElem? (i := 310) (by decide +kernel)
theorem wMN_X0_50 : Cond.methodLinkNest RX0 50 yX3_xIn RX6 ∈ lw_tbl := List.mem_of_getElem? (i := 312) (by decide +kernel)
theorem wMN_X0_60 : Cond.methodLinkNest RX0 60 yX3_yIn RX6 ∈ lw_tbl := List.mem_of_getElem? (i := 313) (by decide +kernel)
theorem wM_X6_169 : Cond.methodLink RX6 169 yJ6_bitCount_0f7a4 ∈ lw_tbl := List.mem_of_getElem? (i := 314) (by decide +kernel)
theorem wK_J6_265 : Cond.constant RJ6 265 (1431655765 : Int32) ∈ lw_tbl := List.mem_of_getElem? (i := 317) (by decide +kernel)
theorem wK_J6_266 : Cond.constant RJ6 266 (858993459 : Int32) ∈ lw_tbl := List.mem_of_getElem? (i := 318) (by decide +kernel)
theorem wK_J6_267 : Cond.constant RJ6 267 (252645135 : Int32) ∈ lw_tbl := List.mem_of_getElem? (i := 319) (by decide +kernel)
theorem wMN_X6_395 : Cond.methodLinkNest RX6 395 yX5_errorAt RX6 ∈ lw_tbl := List.mem_of_getElem? (i := 320) (by decide +kernel)
theorem wI_X5 : Cond.instantiable RX5 13 ∈ lw_tbl := List.mem_of_getElem? (i := 323) (by decide +kernel)
theorem wMN_X5_37 : Cond.methodLinkNest RX5 37 yX6_rangeOf RX6 ∈ lw_tbl := List.mem_of_getElem? (i := 325) (by decide +kernel)
theorem wMN_X6_398 : Cond.methodLinkNest RX6 398 yX5_tell RX6 ∈ lw_tbl := List.mem_of_getElem? (i := 326) (by decide +kernel)
theorem wMN_X6_251 : Cond.methodLinkNest RX6 251 yX1_tell RX6 ∈ lw_tbl := List.mem_of_getElem? (i := 330) (by decide +kernel)
theorem wI_X1 : Cond.instantiable RX1 11 ∈ lw_tbl := List.mem_of_getElem? (i := 333) (by decide +kernel)
theorem wM_X1_59 : Cond.methodLink RX1 59 yX1_tellSeen ∈ lw_tbl := List.mem_of_getElem? (i := 335) (by decide +kernel)
theorem wM_X6_280 : Cond.methodLink RX6 280 yX6_supposedAlarm ∈ lw_tbl := List.mem_of_getElem? (i := 339) (by decide +kernel)
theorem wM_X6_270 : Cond.methodLink RX6 270 yX6_gatherSupposed ∈ lw_tbl := List.mem_of_getElem? (i := 343) (by decide +kernel)
theorem wMN_X6_329 : Cond.methodLinkNest RX6 329 yX2_clear RX6 ∈ lw_tbl := List.mem_of_getElem? (i := 347) (by decide +kernel)
theorem wM_X6_313 : Cond.methodLink RX6 313 yX6_codeOf ∈ lw_tbl := List.mem_of_getElem? (i := 351) (by decide +kernel)
theorem wM_X6_73 : Cond.methodLink RX6 73 yJ9_floorMod_7cf53 ∈ lw_tbl := List.mem_of_getElem? (i := 355) (by decide +kernel)
theorem wMN_X6_309 : Cond.methodLinkNest RX6 309 yX0_trueCount RX6 ∈ lw_tbl := List.mem_of_getElem? (i := 358) (by decide +kernel)
theorem wMN_X0_63 : Cond.methodLinkNest RX0 63 yX6_rangeOf RX6 ∈ lw_tbl := List.mem_of_getElem? (i := 362) (by decide +kernel)
theorem wMN_X6_326 : Cond.methodLinkNest RX6 326 yX0_airDelay RX6 ∈ lw_tbl := List.mem_of_getElem? (i := 363) (by decide +kernel)
theorem wM_X0_76 : Cond.methodLink RX0 76 Lib.Math.abs.name ∈ lw_tbl := List.mem_of_getElem? (i := 367) (by decide +kernel)
theorem wM_X6_341 : Cond.methodLink RX6 341 yX6_correctionOf ∈ lw_tbl := List.mem_of_getElem? (i := 368) (by decide +kernel)
theorem wM_X6_140 : Cond.methodLink RX6 140 yX6_isNoReceiver ∈ lw_tbl := List.mem_of_getElem? (i := 372) (by decide +kernel)
theorem wM_X6_34 : Cond.methodLink RX6 34 yX6_isOutside ∈ lw_tbl := List.mem_of_getElem? (i := 376) (by decide +kernel)
theorem wMN_X6_369 : Cond.methodLinkNest RX6 369 yX5_hasObservedSince RX6 ∈ lw_tbl := List.mem_of_getElem? (i := 377) (by decide +kernel)
theorem wM_X6_354 : Cond.methodLink RX6 354 yX6_use ∈ lw_tbl := List.mem_of_getElem? (i := 381) (by decide +kernel)
theorem wMN_X6_358 : Cond.methodLinkNest RX6 358 yX3_toldX RX6 ∈ lw_tbl := List.mem_of_getElem? (i := 385) (by decide +kernel)
theorem wMN_X6_361 : Cond.methodLinkNest RX6 361 yX3_toldY RX6 ∈ lw_tbl := List.mem_of_getElem? (i := 386) (by decide +kernel)
theorem wMN_X6_364 : Cond.methodLinkNest RX6 364 yX3_toldClock RX6 ∈ lw_tbl := List.mem_of_getElem? (i := 387) (by decide +kernel)
theorem wMN_X6_367 : Cond.methodLinkNest RX6 367 yX2_use RX6 ∈ lw_tbl := List.mem_of_getElem? (i := 388) (by decide +kernel)
theorem wMN_X6_223 : Cond.methodLinkNest RX6 223 yX2_solve RX6 ∈ lw_tbl := List.mem_of_getElem? (i := 392) (by decide +kernel)
theorem wM_X2_34 : Cond.methodLink RX2 34 yX2_hasSolution ∈ lw_tbl := List.mem_of_getElem? (i := 396) (by decide +kernel)
theorem wM_X2_38 : Cond.methodLink RX2 38 yX2_search ∈ lw_tbl := List.mem_of_getElem? (i := 400) (by decide +kernel)
theorem wK_X2_79 : Cond.constantLong RX2 79 (9223372036854775807 : Int64) ∈ lw_tbl := List.mem_of_getElem? (i := 404) (by decide +kernel)
theorem wM_X2_81 : Cond.methodLink RX2 81 yX2_tryPlace ∈ lw_tbl := List.mem_of_getElem? (i := 405) (by decide +kernel)
theorem wMN_X2_67 : Cond.methodLinkNest RX2 67 yX6_rangeOf RX6 ∈ lw_tbl := List.mem_of_getElem? (i := 409) (by decide +kernel)
theorem wM_X2_85 : Cond.methodLink RX2 85 yJ9_floorDiv_7cf53 ∈ lw_tbl := List.mem_of_getElem? (i := 410) (by decide +kernel)
theorem wM_X2_88 : Cond.methodLink RX2 88 yX2_costBy ∈ lw_tbl := List.mem_of_getElem? (i := 413) (by decide +kernel)
theorem wM_X2_71 : Cond.methodLink RX2 71 Lib.Math.max.name ∈ lw_tbl := List.mem_of_getElem? (i := 417) (by decide +kernel)
theorem wM_X6_226 : Cond.methodLink RX6 226 yX6_alarmOf ∈ lw_tbl := List.mem_of_getElem? (i := 418) (by decide +kernel)
theorem wMN_X6_392 : Cond.methodLinkNest RX6 392 yX5_leapsTo RX6 ∈ lw_tbl := List.mem_of_getElem? (i := 422) (by decide +kernel)
theorem wM_X5_24 : Cond.methodLink RX5 24 yX5_hasObservedIn ∈ lw_tbl := List.mem_of_getElem? (i := 426) (by decide +kernel)
theorem wM_L_101 : Cond.methodLink RL 101 yL_star ∈ lw_tbl := List.mem_of_getElem? (i := 430) (by decide +kernel)
theorem wC_L_13 : Cond.classLink RL 13 "java/lang/IllegalArgumentException" ∈ lw_tbl := List.mem_of_getElem? (i := 433) (by decide +kernel)
theorem wC_L_15 : Cond.classLink RL 15 "java/lang/IllegalStateException" ∈ lw_tbl := List.mem_of_getElem? (i := 434) (by decide +kernel)
theorem wM_L_7 : Cond.methodLink RL 7 yX6_star ∈ lw_tbl := List.mem_of_getElem? (i := 435) (by decide +kernel)
theorem wC_X6_38 : Cond.classLink RX6 38 "java/lang/IllegalArgumentException" ∈ lw_tbl := List.mem_of_getElem? (i := 439) (by decide +kernel)
theorem wI_IllegalArgumentException : Cond.instantiable "java/lang/IllegalArgumentException" 6 ∈ lw_tbl := List.mem_of_getElem? (i := 440) (by decide +kernel)
theorem wCast_IllegalArgumentException_IllegalArgumentException : Cond.castable "java/lang/IllegalArgumentException" "java/lang/IllegalArgumentException" ∈ lw_tbl := List.mem_of_getElem? (i := 441) (by decide +kernel)
theorem wI_Throwable : Cond.instantiable "java/lang/Throwable" 6 ∈ lw_tbl := List.mem_of_getElem? (i := 478) (by decide +kernel)
theorem wStr_X6_40 : Cond.stringRef RX6 40 "radius, phase or spin" ∈ lw_tbl := List.mem_of_getElem? (i := 480) (by decide +kernel)
theorem wM_X6_42 : Cond.methodLink RX6 42 ⟨"java/lang/IllegalArgumentException", "<init>", "(Ljava/lang/String;)V"⟩ ∈ lw_tbl := List.mem_of_getElem? (i := 481) (by decide +kernel)
theorem wAC_byte : Cond.arrayClass .byte ∈ lw_tbl := List.mem_of_getElem? (i := 506) (by decide +kernel)
theorem wStr_X6_45 : Cond.stringRef RX6 45 "offset or drift" ∈ lw_tbl := List.mem_of_getElem? (i := 507) (by decide +kernel)
theorem wC_X6_51 : Cond.classLink RX6 51 "java/lang/IllegalStateException" ∈ lw_tbl := List.mem_of_getElem? (i := 508) (by decide +kernel)
theorem wI_IllegalStateException : Cond.instantiable "java/lang/IllegalStateException" 6 ∈ lw_tbl := List.mem_of_getElem? (i := 509) (by decide +kernel)
theorem wCast_IllegalStateException_IllegalStateException : Cond.castable "java/lang/IllegalStateException" "java/lang/IllegalStateException" ∈ lw_tbl := List.mem_of_getElem? (i := 510) (by decide +kernel)
theorem wStr_X6_53 : Cond.stringRef RX6 53 "there are 8 stars" ∈ lw_tbl := List.mem_of_getElem? (i := 517) (by decide +kernel)
theorem wM_X6_55 : Cond.methodLink RX6 55 ⟨"java/lang/IllegalStateException", "<init>", "(Ljava/lang/String;)V"⟩ ∈ lw_tbl := List.mem_of_getElem? (i := 518) (by decide +kernel)
theorem wMN_X6_56 : Cond.methodLinkNest RX6 56 yX3_init RX6 ∈ lw_tbl := List.mem_of_getElem? (i := 524) (by decide +kernel)
theorem wM_X3_3 : Cond.methodLink RX3 3 objectInit ∈ lw_tbl := List.mem_of_getElem? (i := 527) (by decide +kernel)
theorem wF_X3_9 : Cond.fieldLink RX3 9 RX3 "radius" "I" ∈ lw_tbl := List.mem_of_getElem? (i := 528) (by decide +kernel)
theorem wF_X3_18 : Cond.fieldLink RX3 18 RX3 "spin" "I" ∈ lw_tbl := List.mem_of_getElem? (i := 529) (by decide +kernel)
theorem wF_X3_15 : Cond.fieldLink RX3 15 RX3 "phase" "I" ∈ lw_tbl := List.mem_of_getElem? (i := 530) (by decide +kernel)
theorem wFN_X6_70 : Cond.fieldLinkNest RX6 70 RX3 "phase" "I" RX6 ∈ lw_tbl := List.mem_of_getElem? (i := 531) (by decide +kernel)
theorem wF_X3_21 : Cond.fieldLink RX3 21 RX3 "offset" "I" ∈ lw_tbl := List.mem_of_getElem? (i := 532) (by decide +kernel)
theorem wFN_X0_67 : Cond.fieldLinkNest RX0 67 RX3 "offset" "I" RX6 ∈ lw_tbl := List.mem_of_getElem? (i := 533) (by decide +kernel)
theorem wFN_X6_86 : Cond.fieldLinkNest RX6 86 RX3 "offset" "I" RX6 ∈ lw_tbl := List.mem_of_getElem? (i := 534) (by decide +kernel)
theorem wF_X3_24 : Cond.fieldLink RX3 24 RX3 "drift" "I" ∈ lw_tbl := List.mem_of_getElem? (i := 535) (by decide +kernel)
theorem wFN_X6_83 : Cond.fieldLinkNest RX6 83 RX3 "drift" "I" RX6 ∈ lw_tbl := List.mem_of_getElem? (i := 536) (by decide +kernel)
theorem wF_X3_27 : Cond.fieldLink RX3 27 RX3 "isHealthy" "Z" ∈ lw_tbl := List.mem_of_getElem? (i := 537) (by decide +kernel)
theorem wFN_X4_22 : Cond.fieldLinkNest RX4 22 RX3 "isHealthy" "Z" RX6 ∈ lw_tbl := List.mem_of_getElem? (i := 538) (by decide +kernel)
theorem wFN_X0_56 : Cond.fieldLinkNest RX0 56 RX3 "isHealthy" "Z" RX6 ∈ lw_tbl := List.mem_of_getElem? (i := 539) (by decide +kernel)
theorem wFN_X6_89 : Cond.fieldLinkNest RX6 89 RX3 "isHealthy" "Z" RX6 ∈ lw_tbl := List.mem_of_getElem? (i := 540) (by decide +kernel)
theorem wF_X3_54 : Cond.fieldLink RX3 54 RX3 "issue" "I" ∈ lw_tbl := List.mem_of_getElem? (i := 541) (by decide +kernel)
theorem wFN_X6_123 : Cond.fieldLinkNest RX6 123 RX3 "issue" "I" RX6 ∈ lw_tbl := List.mem_of_getElem? (i := 542) (by decide +kernel)
theorem wF_X3_31 : Cond.fieldLink RX3 31 RX3 "toldEpoch" "I" ∈ lw_tbl := List.mem_of_getElem? (i := 543) (by decide +kernel)
theorem wF_X3_34 : Cond.fieldLink RX3 34 RX3 "toldPhase" "I" ∈ lw_tbl := List.mem_of_getElem? (i := 544) (by decide +kernel)
theorem wF_X3_57 : Cond.fieldLink RX3 57 RX3 "toldOffset" "I" ∈ lw_tbl := List.mem_of_getElem? (i := 545) (by decide +kernel)
theorem wF_X3_60 : Cond.fieldLink RX3 60 RX3 "toldDrift" "I" ∈ lw_tbl := List.mem_of_getElem? (i := 546) (by decide +kernel)
theorem wM_L_111 : Cond.methodLink RL 111 yL_push ∈ lw_tbl := List.mem_of_getElem? (i := 570) (by decide +kernel)
theorem wC_L_21 : Cond.classLink RL 21 "java/lang/IndexOutOfBoundsException" ∈ lw_tbl := List.mem_of_getElem? (i := 573) (by decide +kernel)
theorem wM_L_17 : Cond.methodLink RL 17 yX6_push ∈ lw_tbl := List.mem_of_getElem? (i := 574) (by decide +kernel)
theorem wM_X6_59 : Cond.methodLink RX6 59 yX6_isNoStar ∈ lw_tbl := List.mem_of_getElem? (i := 578) (by decide +kernel)
theorem wC_X6_63 : Cond.classLink RX6 63 "java/lang/IndexOutOfBoundsException" ∈ lw_tbl := List.mem_of_getElem? (i := 582) (by decide +kernel)
theorem wI_IndexOutOfBoundsException : Cond.instantiable "java/lang/IndexOutOfBoundsException" 6 ∈ lw_tbl := List.mem_of_getElem? (i := 583) (by decide +kernel)
theorem wCast_IndexOutOfBoundsException_IndexOutOfBoundsException : Cond.castable "java/lang/IndexOutOfBoundsException" "java/lang/IndexOutOfBoundsException" ∈ lw_tbl := List.mem_of_getElem? (i := 584) (by decide +kernel)
theorem wStr_X6_65 : Cond.stringRef RX6 65 "no such star" ∈ lw_tbl := List.mem_of_getElem? (i := 591) (by decide +kernel)
theorem wM_X6_67 : Cond.methodLink RX6 67 ⟨"java/lang/IndexOutOfBoundsException", "<init>", "(Ljava/lang/String;)V"⟩ ∈ lw_tbl := List.mem_of_getElem? (i := 592) (by decide +kernel)
theorem wStr_X6_68 : Cond.stringRef RX6 68 "by" ∈ lw_tbl := List.mem_of_getElem? (i := 598) (by decide +kernel)
theorem wM_L_115 : Cond.methodLink RL 115 yL_jump ∈ lw_tbl := List.mem_of_getElem? (i := 599) (by decide +kernel)
theorem wM_L_23 : Cond.methodLink RL 23 yX6_jump ∈ lw_tbl := List.mem_of_getElem? (i := 602) (by decide +kernel)
theorem wMN_X6_79 : Cond.methodLinkNest RX6 79 yX3_moveClock RX6 ∈ lw_tbl := List.mem_of_getElem? (i := 606) (by decide +kernel)
theorem wMN_X3_37 : Cond.methodLinkNest RX3 37 yX6_held RX6 ∈ lw_tbl := List.mem_of_getElem? (i := 610) (by decide +kernel)
theorem wM_X6_296 : Cond.methodLink RX6 296 Lib.Math.min.name ∈ lw_tbl := List.mem_of_getElem? (i := 613) (by decide +kernel)
theorem wM_L_119 : Cond.methodLink RL 119 yL_health ∈ lw_tbl := List.mem_of_getElem? (i := 616) (by decide +kernel)
theorem wM_L_27 : Cond.methodLink RL 27 yX6_health ∈ lw_tbl := List.mem_of_getElem? (i := 619) (by decide +kernel)
theorem wM_L_123 : Cond.methodLink RL 123 yL_station ∈ lw_tbl := List.mem_of_getElem? (i := 623) (by decide +kernel)
theorem wM_L_31 : Cond.methodLink RL 31 yX6_station ∈ lw_tbl := List.mem_of_getElem? (i := 626) (by decide +kernel)
theorem wStr_X6_93 : Cond.stringRef RX6 93 "x or delay" ∈ lw_tbl := List.mem_of_getElem? (i := 630) (by decide +kernel)
theorem wStr_X6_98 : Cond.stringRef RX6 98 "there are 3 stations" ∈ lw_tbl := List.mem_of_getElem? (i := 631) (by decide +kernel)
theorem wMN_X6_100 : Cond.methodLinkNest RX6 100 yX4_init RX6 ∈ lw_tbl := List.mem_of_getElem? (i := 632) (by decide +kernel)
theorem wM_X4_1 : Cond.methodLink RX4 1 objectInit ∈ lw_tbl := List.mem_of_getElem? (i := 635) (by decide +kernel)
theorem wF_X4_7 : Cond.fieldLink RX4 7 RX4 "x" "I" ∈ lw_tbl := List.mem_of_getElem? (i := 636) (by decide +kernel)
theorem wF_X4_13 : Cond.fieldLink RX4 13 RX4 "delay" "I" ∈ lw_tbl := List.mem_of_getElem? (i := 637) (by decide +kernel)
theorem wFN_X6_117 : Cond.fieldLinkNest RX6 117 RX4 "delay" "I" RX6 ∈ lw_tbl := List.mem_of_getElem? (i := 638) (by decide +kernel)
theorem wM_L_126 : Cond.methodLink RL 126 yL_listen ∈ lw_tbl := List.mem_of_getElem? (i := 644) (by decide +kernel)
theorem wM_L_34 : Cond.methodLink RL 34 yX6_listen ∈ lw_tbl := List.mem_of_getElem? (i := 647) (by decide +kernel)
theorem wM_X6_103 : Cond.methodLink RX6 103 yX6_isNoStation ∈ lw_tbl := List.mem_of_getElem? (i := 651) (by decide +kernel)
theorem wStr_X6_106 : Cond.stringRef RX6 106 "no such station or star" ∈ lw_tbl := List.mem_of_getElem? (i := 655) (by decide +kernel)
theorem wStr_X6_112 : Cond.stringRef RX6 112 "the station can not hear the star" ∈ lw_tbl := List.mem_of_getElem? (i := 656) (by decide +kernel)
theorem wMN_X6_120 : Cond.methodLinkNest RX6 120 yX3_takeMessage RX6 ∈ lw_tbl := List.mem_of_getElem? (i := 657) (by decide +kernel)
theorem wM_L_129 : Cond.methodLink RL 129 yL_receiver ∈ lw_tbl := List.mem_of_getElem? (i := 661) (by decide +kernel)
theorem wM_L_37 : Cond.methodLink RL 37 yX6_receiver ∈ lw_tbl := List.mem_of_getElem? (i := 664) (by decide +kernel)
theorem wM_X6_126 : Cond.methodLink RX6 126 yX6_isNoPlace ∈ lw_tbl := List.mem_of_getElem? (i := 668) (by decide +kernel)
theorem wStr_X6_130 : Cond.stringRef RX6 130 "x, y or bias" ∈ lw_tbl := List.mem_of_getElem? (i := 671) (by decide +kernel)
theorem wStr_X6_135 : Cond.stringRef RX6 135 "there are 3 receivers" ∈ lw_tbl := List.mem_of_getElem? (i := 672) (by decide +kernel)
theorem wMN_X6_137 : Cond.methodLinkNest RX6 137 yX0_init RX6 ∈ lw_tbl := List.mem_of_getElem? (i := 673) (by decide +kernel)
theorem wM_X0_3 : Cond.methodLink RX0 3 objectInit ∈ lw_tbl := List.mem_of_getElem? (i := 676) (by decide +kernel)
theorem wC_X0_36 : Cond.classLink RX0 36 RX5 ∈ lw_tbl := List.mem_of_getElem? (i := 677) (by decide +kernel)
theorem wMN_X0_38 : Cond.methodLinkNest RX0 38 yX5_init RX6 ∈ lw_tbl := List.mem_of_getElem? (i := 678) (by decide +kernel)
theorem wM_X5_3 : Cond.methodLink RX5 3 objectInit ∈ lw_tbl := List.mem_of_getElem? (i := 681) (by decide +kernel)
theorem wF_X5_21 : Cond.fieldLink RX5 21 RX5 "observations" "I" ∈ lw_tbl := List.mem_of_getElem? (i := 682) (by decide +kernel)
theorem wFN_X6_405 : Cond.fieldLinkNest RX6 405 RX5 "observations" "I" RX6 ∈ lw_tbl := List.mem_of_getElem? (i := 683) (by decide +kernel)
theorem wF_X5_9 : Cond.fieldLink RX5 9 RX5 "latest" "I" ∈ lw_tbl := List.mem_of_getElem? (i := 684) (by decide +kernel)
theorem wF_X5_28 : Cond.fieldLink RX5 28 RX5 "used" "I" ∈ lw_tbl := List.mem_of_getElem? (i := 685) (by decide +kernel)
theorem wF_X5_68 : Cond.fieldLink RX5 68 RX5 "solutions" "I" ∈ lw_tbl := List.mem_of_getElem? (i := 686) (by decide +kernel)
theorem wF_X5_75 : Cond.fieldLink RX5 75 RX5 "errors" "I" ∈ lw_tbl := List.mem_of_getElem? (i := 687) (by decide +kernel)
theorem wF_X5_31 : Cond.fieldLink RX5 31 RX5 "x" "I" ∈ lw_tbl := List.mem_of_getElem? (i := 688) (by decide +kernel)
theorem wF_X5_34 : Cond.fieldLink RX5 34 RX5 "y" "I" ∈ lw_tbl := List.mem_of_getElem? (i := 689) (by decide +kernel)
theorem wF_X5_61 : Cond.fieldLink RX5 61 RX5 "time" "I" ∈ lw_tbl := List.mem_of_getElem? (i := 690) (by decide +kernel)
theorem wF_X5_66 : Cond.fieldLink RX5 66 RX5 "cost" "I" ∈ lw_tbl := List.mem_of_getElem? (i := 691) (by decide +kernel)
theorem wF_X5_15 : Cond.fieldLink RX5 15 RX5 "level" "I" ∈ lw_tbl := List.mem_of_getElem? (i := 692) (by decide +kernel)
theorem wF_X5_45 : Cond.fieldLink RX5 45 RX5 "alarm" "I" ∈ lw_tbl := List.mem_of_getElem? (i := 693) (by decide +kernel)
theorem wFN_X6_234 : Cond.fieldLinkNest RX6 234 RX5 "alarm" "I" RX6 ∈ lw_tbl := List.mem_of_getElem? (i := 694) (by decide +kernel)
theorem wF_X5_78 : Cond.fieldLink RX5 78 RX5 "misled" "I" ∈ lw_tbl := List.mem_of_getElem? (i := 695) (by decide +kernel)
theorem wFN_X6_408 : Cond.fieldLinkNest RX6 408 RX5 "misled" "I" RX6 ∈ lw_tbl := List.mem_of_getElem? (i := 696) (by decide +kernel)
theorem wF_X5_18 : Cond.fieldLink RX5 18 RX5 "alarmEpoch" "I" ∈ lw_tbl := List.mem_of_getElem? (i := 697) (by decide +kernel)
theorem wC_X0_43 : Cond.classLink RX0 43 RX1 ∈ lw_tbl := List.mem_of_getElem? (i := 725) (by decide +kernel)
theorem wAO__object_Pseudorange_Sight_ : Cond.arrayOver (.object "Pseudorange$Sight") ∈ lw_tbl := List.mem_of_getElem? (i := 726) (by decide +kernel)
theorem wMN_X0_49 : Cond.methodLinkNest RX0 49 yX1_init RX6 ∈ lw_tbl := List.mem_of_getElem? (i := 727) (by decide +kernel)
theorem wM_X1_3 : Cond.methodLink RX1 3 objectInit ∈ lw_tbl := List.mem_of_getElem? (i := 730) (by decide +kernel)
theorem wF_X1_9 : Cond.fieldLink RX1 9 RX1 "isSeen" "Z" ∈ lw_tbl := List.mem_of_getElem? (i := 731) (by decide +kernel)
theorem wFN_X6_332 : Cond.fieldLinkNest RX6 332 RX1 "isSeen" "Z" RX6 ∈ lw_tbl := List.mem_of_getElem? (i := 732) (by decide +kernel)
theorem wF_X1_47 : Cond.fieldLink RX1 47 RX1 "isFixed" "Z" ∈ lw_tbl := List.mem_of_getElem? (i := 733) (by decide +kernel)
theorem wFN_X6_351 : Cond.fieldLinkNest RX6 351 RX1 "isFixed" "Z" RX6 ∈ lw_tbl := List.mem_of_getElem? (i := 734) (by decide +kernel)
theorem wF_X1_50 : Cond.fieldLink RX1 50 RX1 "isUsed" "Z" ∈ lw_tbl := List.mem_of_getElem? (i := 735) (by decide +kernel)
theorem wFN_X6_338 : Cond.fieldLinkNest RX6 338 RX1 "isUsed" "Z" RX6 ∈ lw_tbl := List.mem_of_getElem? (i := 736) (by decide +kernel)
theorem wF_X1_18 : Cond.fieldLink RX1 18 RX1 "code" "I" ∈ lw_tbl := List.mem_of_getElem? (i := 737) (by decide +kernel)
theorem wF_X1_22 : Cond.fieldLink RX1 22 RX1 "wave" "I" ∈ lw_tbl := List.mem_of_getElem? (i := 738) (by decide +kernel)
theorem wF_X1_31 : Cond.fieldLink RX1 31 RX1 "count" "I" ∈ lw_tbl := List.mem_of_getElem? (i := 739) (by decide +kernel)
theorem wF_X1_34 : Cond.fieldLink RX1 34 RX1 "left" "I" ∈ lw_tbl := List.mem_of_getElem? (i := 740) (by decide +kernel)
theorem wF_X1_37 : Cond.fieldLink RX1 37 RX1 "kept" "I" ∈ lw_tbl := List.mem_of_getElem? (i := 741) (by decide +kernel)
theorem wF_X1_44 : Cond.fieldLink RX1 44 RX1 "steady" "I" ∈ lw_tbl := List.mem_of_getElem? (i := 742) (by decide +kernel)
theorem wF_X1_53 : Cond.fieldLink RX1 53 RX1 "correction" "I" ∈ lw_tbl := List.mem_of_getElem? (i := 743) (by decide +kernel)
theorem wFN_X6_344 : Cond.fieldLinkNest RX6 344 RX1 "correction" "I" RX6 ∈ lw_tbl := List.mem_of_getElem? (i := 744) (by decide +kernel)
theorem wF_X1_56 : Cond.fieldLink RX1 56 RX1 "offered" "I" ∈ lw_tbl := List.mem_of_getElem? (i := 745) (by decide +kernel)
theorem wFN_X6_372 : Cond.fieldLinkNest RX6 372 RX1 "offered" "I" RX6 ∈ lw_tbl := List.mem_of_getElem? (i := 746) (by decide +kernel)
theorem wF_X0_9 : Cond.fieldLink RX0 9 RX0 "number" "I" ∈ lw_tbl := List.mem_of_getElem? (i := 770) (by decide +kernel)
theorem wFN_X6_323 : Cond.fieldLinkNest RX6 323 RX0 "number" "I" RX6 ∈ lw_tbl := List.mem_of_getElem? (i := 771) (by decide +kernel)
theorem wF_X0_21 : Cond.fieldLink RX0 21 RX0 "bias" "I" ∈ lw_tbl := List.mem_of_getElem? (i := 772) (by decide +kernel)
theorem wF_X0_45 : Cond.fieldLink RX0 45 RX0 "sights" "[LPseudorange$Sight;" ∈ lw_tbl := List.mem_of_getElem? (i := 773) (by decide +kernel)
theorem wFN_X6_247 : Cond.fieldLinkNest RX6 247 RX0 "sights" "[LPseudorange$Sight;" RX6 ∈ lw_tbl := List.mem_of_getElem? (i := 774) (by decide +kernel)
theorem wF_X0_39 : Cond.fieldLink RX0 39 RX0 "track" "LPseudorange$Track;" ∈ lw_tbl := List.mem_of_getElem? (i := 775) (by decide +kernel)
theorem wFN_X6_202 : Cond.fieldLinkNest RX6 202 RX0 "track" "LPseudorange$Track;" RX6 ∈ lw_tbl := List.mem_of_getElem? (i := 776) (by decide +kernel)
theorem wF_X0_15 : Cond.fieldLink RX0 15 RX0 "x" "I" ∈ lw_tbl := List.mem_of_getElem? (i := 777) (by decide +kernel)
theorem wFN_X6_147 : Cond.fieldLinkNest RX6 147 RX0 "x" "I" RX6 ∈ lw_tbl := List.mem_of_getElem? (i := 778) (by decide +kernel)
theorem wF_X0_18 : Cond.fieldLink RX0 18 RX0 "y" "I" ∈ lw_tbl := List.mem_of_getElem? (i := 779) (by decide +kernel)
theorem wFN_X6_150 : Cond.fieldLinkNest RX6 150 RX0 "y" "I" RX6 ∈ lw_tbl := List.mem_of_getElem? (i := 780) (by decide +kernel)
theorem wF_X0_24 : Cond.fieldLink RX0 24 RX0 "leftHill" "I" ∈ lw_tbl := List.mem_of_getElem? (i := 781) (by decide +kernel)
theorem wFN_X6_159 : Cond.fieldLinkNest RX6 159 RX0 "leftHill" "I" RX6 ∈ lw_tbl := List.mem_of_getElem? (i := 782) (by decide +kernel)
theorem wF_X0_27 : Cond.fieldLink RX0 27 RX0 "rightHill" "I" ∈ lw_tbl := List.mem_of_getElem? (i := 783) (by decide +kernel)
theorem wFN_X6_162 : Cond.fieldLinkNest RX6 162 RX0 "rightHill" "I" RX6 ∈ lw_tbl := List.mem_of_getElem? (i := 784) (by decide +kernel)
theorem wF_X0_81 : Cond.fieldLink RX0 81 RX0 "iono" "I" ∈ lw_tbl := List.mem_of_getElem? (i := 785) (by decide +kernel)
theorem wFN_X6_177 : Cond.fieldLinkNest RX6 177 RX0 "iono" "I" RX6 ∈ lw_tbl := List.mem_of_getElem? (i := 786) (by decide +kernel)
theorem wF_X0_73 : Cond.fieldLink RX0 73 RX0 "isDual" "Z" ∈ lw_tbl := List.mem_of_getElem? (i := 787) (by decide +kernel)
theorem wFN_X6_179 : Cond.fieldLinkNest RX6 179 RX0 "isDual" "Z" RX6 ∈ lw_tbl := List.mem_of_getElem? (i := 788) (by decide +kernel)
theorem wF_X0_30 : Cond.fieldLink RX0 30 RX0 "alertLimit" "I" ∈ lw_tbl := List.mem_of_getElem? (i := 789) (by decide +kernel)
theorem wFN_X6_184 : Cond.fieldLinkNest RX6 184 RX0 "alertLimit" "I" RX6 ∈ lw_tbl := List.mem_of_getElem? (i := 790) (by decide +kernel)
theorem wF_X0_70 : Cond.fieldLink RX0 70 RX0 "spoofed" "I" ∈ lw_tbl := List.mem_of_getElem? (i := 791) (by decide +kernel)
theorem wFN_X6_187 : Cond.fieldLinkNest RX6 187 RX0 "spoofed" "I" RX6 ∈ lw_tbl := List.mem_of_getElem? (i := 792) (by decide +kernel)
theorem wF_X0_33 : Cond.fieldLink RX0 33 RX0 "reference" "I" ∈ lw_tbl := List.mem_of_getElem? (i := 793) (by decide +kernel)
theorem wFN_X6_194 : Cond.fieldLinkNest RX6 194 RX0 "reference" "I" RX6 ∈ lw_tbl := List.mem_of_getElem? (i := 794) (by decide +kernel)
theorem wM_L_132 : Cond.methodLink RL 132 yL_go ∈ lw_tbl := List.mem_of_getElem? (i := 822) (by decide +kernel)
theorem wM_L_40 : Cond.methodLink RL 40 yX6_go ∈ lw_tbl := List.mem_of_getElem? (i := 825) (by decide +kernel)
theorem wStr_X6_143 : Cond.stringRef RX6 143 "no such receiver" ∈ lw_tbl := List.mem_of_getElem? (i := 829) (by decide +kernel)
theorem wStr_X6_145 : Cond.stringRef RX6 145 "x or y" ∈ lw_tbl := List.mem_of_getElem? (i := 830) (by decide +kernel)
theorem wM_X6_153 : Cond.methodLink RX6 153 yX6_rangeOf ∈ lw_tbl := List.mem_of_getElem? (i := 831) (by decide +kernel)
theorem wM_L_135 : Cond.methodLink RL 135 yL_hills ∈ lw_tbl := List.mem_of_getElem? (i := 832) (by decide +kernel)
theorem wM_L_43 : Cond.methodLink RL 43 yX6_hills ∈ lw_tbl := List.mem_of_getElem? (i := 835) (by decide +kernel)
theorem wStr_X6_157 : Cond.stringRef RX6 157 "left or right" ∈ lw_tbl := List.mem_of_getElem? (i := 839) (by decide +kernel)
theorem wM_L_138 : Cond.methodLink RL 138 yL_air ∈ lw_tbl := List.mem_of_getElem? (i := 840) (by decide +kernel)
theorem wM_L_46 : Cond.methodLink RL 46 yX6_air ∈ lw_tbl := List.mem_of_getElem? (i := 843) (by decide +kernel)
theorem wStr_X6_175 : Cond.stringRef RX6 175 "iono" ∈ lw_tbl := List.mem_of_getElem? (i := 847) (by decide +kernel)
theorem wM_L_142 : Cond.methodLink RL 142 yL_alert ∈ lw_tbl := List.mem_of_getElem? (i := 848) (by decide +kernel)
theorem wM_L_50 : Cond.methodLink RL 50 yX6_alert ∈ lw_tbl := List.mem_of_getElem? (i := 851) (by decide +kernel)
theorem wStr_X6_182 : Cond.stringRef RX6 182 "alert" ∈ lw_tbl := List.mem_of_getElem? (i := 855) (by decide +kernel)
theorem wM_L_145 : Cond.methodLink RL 145 yL_spoof ∈ lw_tbl := List.mem_of_getElem? (i := 856) (by decide +kernel)
theorem wM_L_53 : Cond.methodLink RL 53 yX6_spoof ∈ lw_tbl := List.mem_of_getElem? (i := 859) (by decide +kernel)
theorem wM_L_148 : Cond.methodLink RL 148 yL_refer ∈ lw_tbl := List.mem_of_getElem? (i := 863) (by decide +kernel)
theorem wM_L_56 : Cond.methodLink RL 56 yX6_refer ∈ lw_tbl := List.mem_of_getElem? (i := 866) (by decide +kernel)
theorem wStr_X6_190 : Cond.stringRef RX6 190 "no such receiver or reference" ∈ lw_tbl := List.mem_of_getElem? (i := 870) (by decide +kernel)
theorem wStr_X6_192 : Cond.stringRef RX6 192 "a receiver is no reference of itself" ∈ lw_tbl := List.mem_of_getElem? (i := 871) (by decide +kernel)
theorem wM_L_151 : Cond.methodLink RL 151 yL_pass ∈ lw_tbl := List.mem_of_getElem? (i := 872) (by decide +kernel)
theorem wM_L_59 : Cond.methodLink RL 59 yX6_pass ∈ lw_tbl := List.mem_of_getElem? (i := 875) (by decide +kernel)
theorem wStr_X6_197 : Cond.stringRef RX6 197 "epochs" ∈ lw_tbl := List.mem_of_getElem? (i := 879) (by decide +kernel)
theorem wM_X6_199 : Cond.methodLink RX6 199 yX6_passOne ∈ lw_tbl := List.mem_of_getElem? (i := 880) (by decide +kernel)
theorem wMN_X6_305 : Cond.methodLinkNest RX6 305 yX3_passOne RX6 ∈ lw_tbl := List.mem_of_getElem? (i := 884) (by decide +kernel)
theorem wM_X3_41 : Cond.methodLink RX3 41 yJ9_floorMod_7cf53 ∈ lw_tbl := List.mem_of_getElem? (i := 888) (by decide +kernel)
theorem wM_X3_46 : Cond.methodLink RX3 46 yX3_moveClock ∈ lw_tbl := List.mem_of_getElem? (i := 889) (by decide +kernel)
theorem wM_L_155 : Cond.methodLink RL 155 yL_observe ∈ lw_tbl := List.mem_of_getElem? (i := 890) (by decide +kernel)
theorem wM_L_63 : Cond.methodLink RL 63 yX6_observe ∈ lw_tbl := List.mem_of_getElem? (i := 893) (by decide +kernel)
theorem wMN_X6_206 : Cond.methodLinkNest RX6 206 yX5_hasObservedIn RX6 ∈ lw_tbl := List.mem_of_getElem? (i := 897) (by decide +kernel)
theorem wStr_X6_211 : Cond.stringRef RX6 211 "it observed in this epoch" ∈ lw_tbl := List.mem_of_getElem? (i := 898) (by decide +kernel)
theorem wM_X6_213 : Cond.methodLink RX6 213 yX6_measure ∈ lw_tbl := List.mem_of_getElem? (i := 899) (by decide +kernel)
theorem wMN_X6_316 : Cond.methodLinkNest RX6 316 yX1_take RX6 ∈ lw_tbl := List.mem_of_getElem? (i := 903) (by decide +kernel)
theorem wM_X1_15 : Cond.methodLink RX1 15 yX1_forget ∈ lw_tbl := List.mem_of_getElem? (i := 907) (by decide +kernel)
theorem wM_X1_25 : Cond.methodLink RX1 25 yJ9_floorDiv_7cf53 ∈ lw_tbl := List.mem_of_getElem? (i := 911) (by decide +kernel)
theorem wMN_X1_40 : Cond.methodLinkNest RX1 40 yX6_isOutside RX6 ∈ lw_tbl := List.mem_of_getElem? (i := 912) (by decide +kernel)
theorem wMN_X6_320 : Cond.methodLinkNest RX6 320 yX1_lose RX6 ∈ lw_tbl := List.mem_of_getElem? (i := 913) (by decide +kernel)
theorem wM_X6_217 : Cond.methodLink RX6 217 yX6_gatherMeasured ∈ lw_tbl := List.mem_of_getElem? (i := 917) (by decide +kernel)
theorem wMN_X6_347 : Cond.methodLinkNest RX6 347 yX1_measured RX6 ∈ lw_tbl := List.mem_of_getElem? (i := 921) (by decide +kernel)
theorem wM_X6_220 : Cond.methodLink RX6 220 yX6_offerCorrections ∈ lw_tbl := List.mem_of_getElem? (i := 925) (by decide +kernel)
theorem wM_X6_375 : Cond.methodLink RX6 375 yX6_tooFar ∈ lw_tbl := List.mem_of_getElem? (i := 929) (by decide +kernel)
theorem wM_X6_379 : Cond.methodLink RX6 379 yJ9_floorDiv_7cf53 ∈ lw_tbl := List.mem_of_getElem? (i := 933) (by decide +kernel)
theorem wMN_X6_230 : Cond.methodLinkNest RX6 230 yX5_keepAll RX6 ∈ lw_tbl := List.mem_of_getElem? (i := 934) (by decide +kernel)
theorem wMN_X5_48 : Cond.methodLinkNest RX5 48 yX2_hasSolution RX6 ∈ lw_tbl := List.mem_of_getElem? (i := 938) (by decide +kernel)
theorem wM_X5_52 : Cond.methodLink RX5 52 yX5_keepSolution ∈ lw_tbl := List.mem_of_getElem? (i := 939) (by decide +kernel)
theorem wM_X5_71 : Cond.methodLink RX5 71 yX5_errorAt ∈ lw_tbl := List.mem_of_getElem? (i := 943) (by decide +kernel)
theorem wM_L_158 : Cond.methodLink RL 158 yL_ofStar ∈ lw_tbl := List.mem_of_getElem? (i := 944) (by decide +kernel)
theorem wM_L_66 : Cond.methodLink RL 66 yX6_ofStar ∈ lw_tbl := List.mem_of_getElem? (i := 947) (by decide +kernel)
theorem wStr_X6_237 : Cond.stringRef RX6 237 "what" ∈ lw_tbl := List.mem_of_getElem? (i := 951) (by decide +kernel)
theorem wM_L_161 : Cond.methodLink RL 161 yL_message ∈ lw_tbl := List.mem_of_getElem? (i := 952) (by decide +kernel)
theorem wM_L_69 : Cond.methodLink RL 69 yX6_message ∈ lw_tbl := List.mem_of_getElem? (i := 955) (by decide +kernel)
theorem wM_L_164 : Cond.methodLink RL 164 yL_seen ∈ lw_tbl := List.mem_of_getElem? (i := 959) (by decide +kernel)
theorem wM_L_72 : Cond.methodLink RL 72 yX6_seen ∈ lw_tbl := List.mem_of_getElem? (i := 962) (by decide +kernel)
theorem wStr_X6_245 : Cond.stringRef RX6 245 "no such receiver or star" ∈ lw_tbl := List.mem_of_getElem? (i := 966) (by decide +kernel)
theorem wM_L_167 : Cond.methodLink RL 167 yL_ofReceiver ∈ lw_tbl := List.mem_of_getElem? (i := 967) (by decide +kernel)
theorem wM_L_75 : Cond.methodLink RL 75 yX6_ofReceiver ∈ lw_tbl := List.mem_of_getElem? (i := 970) (by decide +kernel)
theorem wM_L_170 : Cond.methodLink RL 170 yL_many ∈ lw_tbl := List.mem_of_getElem? (i := 974) (by decide +kernel)
theorem wM_L_78 : Cond.methodLink RL 78 yX6_many ∈ lw_tbl := List.mem_of_getElem? (i := 977) (by decide +kernel)
theorem wM_L_173 : Cond.methodLink RL 173 yL_meanError ∈ lw_tbl := List.mem_of_getElem? (i := 981) (by decide +kernel)
theorem wM_L_81 : Cond.methodLink RL 81 yX6_meanError ∈ lw_tbl := List.mem_of_getElem? (i := 984) (by decide +kernel)
theorem wMN_X6_260 : Cond.methodLinkNest RX6 260 yX5_meanOfErrors RX6 ∈ lw_tbl := List.mem_of_getElem? (i := 988) (by decide +kernel)
theorem wM_L_177 : Cond.methodLink RL 177 yL_wouldSee ∈ lw_tbl := List.mem_of_getElem? (i := 992) (by decide +kernel)
theorem wM_L_85 : Cond.methodLink RL 85 yX6_wouldSee ∈ lw_tbl := List.mem_of_getElem? (i := 995) (by decide +kernel)
theorem wM_L_180 : Cond.methodLink RL 180 yL_heardIn ∈ lw_tbl := List.mem_of_getElem? (i := 999) (by decide +kernel)
theorem wM_L_88 : Cond.methodLink RL 88 yX6_heardIn ∈ lw_tbl := List.mem_of_getElem? (i := 1002) (by decide +kernel)
theorem wStr_X6_264 : Cond.stringRef RX6 264 "no such star or station" ∈ lw_tbl := List.mem_of_getElem? (i := 1006) (by decide +kernel)
theorem wM_L_183 : Cond.methodLink RL 183 yL_without ∈ lw_tbl := List.mem_of_getElem? (i := 1007) (by decide +kernel)
theorem wM_L_91 : Cond.methodLink RL 91 yX6_without ∈ lw_tbl := List.mem_of_getElem? (i := 1010) (by decide +kernel)
theorem wMN_X6_274 : Cond.methodLinkNest RX6 274 yX2_hasSolution RX6 ∈ lw_tbl := List.mem_of_getElem? (i := 1014) (by decide +kernel)
theorem wM_L_186 : Cond.methodLink RL 186 yL_wouldAlarm ∈ lw_tbl := List.mem_of_getElem? (i := 1015) (by decide +kernel)
theorem wM_L_94 : Cond.methodLink RL 94 yX6_wouldAlarm ∈ lw_tbl := List.mem_of_getElem? (i := 1018) (by decide +kernel)
theorem wC_L_98 : Cond.classLink RL 98 RX7 ∈ lw_tbl := List.mem_of_getElem? (i := 1022) (by decide +kernel)
theorem wI_X7 : Cond.instantiable RX7 20 ∈ lw_tbl := List.mem_of_getElem? (i := 1023) (by decide +kernel)
theorem wM_L_100 : Cond.methodLink RL 100 yX7_init ∈ lw_tbl := List.mem_of_getElem? (i := 1024) (by decide +kernel)
theorem wM_X7_1 : Cond.methodLink RX7 1 objectInit ∈ lw_tbl := List.mem_of_getElem? (i := 1027) (by decide +kernel)
theorem wC_X7_9 : Cond.classLink RX7 9 "[[I" ∈ lw_tbl := List.mem_of_getElem? (i := 1028) (by decide +kernel)
theorem wAO__array_int_ : Cond.arrayOver (.array .int) ∈ lw_tbl := List.mem_of_getElem? (i := 1029) (by decide +kernel)
theorem wC_X7_23 : Cond.classLink RX7 23 "[[[I" ∈ lw_tbl := List.mem_of_getElem? (i := 1030) (by decide +kernel)
theorem wAO__array_array_int_ : Cond.arrayOver (.array (.array .int)) ∈ lw_tbl := List.mem_of_getElem? (i := 1031) (by decide +kernel)
theorem wF_X7_41 : Cond.fieldLink RX7 41 RX7 "thrown" "I" ∈ lw_tbl := List.mem_of_getElem? (i := 1032) (by decide +kernel)
theorem wF_X7_64 : Cond.fieldLink RX7 64 RX7 "epoch" "I" ∈ lw_tbl := List.mem_of_getElem? (i := 1033) (by decide +kernel)
theorem wF_X7_192 : Cond.fieldLink RX7 192 RX7 "observations" "I" ∈ lw_tbl := List.mem_of_getElem? (i := 1034) (by decide +kernel)
theorem wF_X7_11 : Cond.fieldLink RX7 11 RX7 "stars" "[[I" ∈ lw_tbl := List.mem_of_getElem? (i := 1035) (by decide +kernel)
theorem wF_X7_14 : Cond.fieldLink RX7 14 RX7 "messages" "[[I" ∈ lw_tbl := List.mem_of_getElem? (i := 1036) (by decide +kernel)
theorem wF_X7_17 : Cond.fieldLink RX7 17 RX7 "stations" "[[I" ∈ lw_tbl := List.mem_of_getElem? (i := 1037) (by decide +kernel)
theorem wF_X7_20 : Cond.fieldLink RX7 20 RX7 "receivers" "[[I" ∈ lw_tbl := List.mem_of_getElem? (i := 1038) (by decide +kernel)
theorem wF_X7_25 : Cond.fieldLink RX7 25 RX7 "rows" "[[[I" ∈ lw_tbl := List.mem_of_getElem? (i := 1039) (by decide +kernel)
theorem wF_X7_79 : Cond.fieldLink RX7 79 RX7 "manyStars" "I" ∈ lw_tbl := List.mem_of_getElem? (i := 1040) (by decide +kernel)
theorem wF_X7_89 : Cond.fieldLink RX7 89 RX7 "manyStations" "I" ∈ lw_tbl := List.mem_of_getElem? (i := 1041) (by decide +kernel)
theorem wF_X7_92 : Cond.fieldLink RX7 92 RX7 "manyReceivers" "I" ∈ lw_tbl := List.mem_of_getElem? (i := 1042) (by decide +kernel)
theorem wF_X7_28 : Cond.fieldLink RX7 28 RX7 "sx" "[I" ∈ lw_tbl := List.mem_of_getElem? (i := 1043) (by decide +kernel)
theorem wF_X7_32 : Cond.fieldLink RX7 32 RX7 "sy" "[I" ∈ lw_tbl := List.mem_of_getElem? (i := 1044) (by decide +kernel)
theorem wF_X7_35 : Cond.fieldLink RX7 35 RX7 "pseudo" "[I" ∈ lw_tbl := List.mem_of_getElem? (i := 1045) (by decide +kernel)
theorem wF_X7_38 : Cond.fieldLink RX7 38 RX7 "weights" "[I" ∈ lw_tbl := List.mem_of_getElem? (i := 1046) (by decide +kernel)
theorem wF_X7_155 : Cond.fieldLink RX7 155 RX7 "bestX" "I" ∈ lw_tbl := List.mem_of_getElem? (i := 1047) (by decide +kernel)
theorem wF_X7_158 : Cond.fieldLink RX7 158 RX7 "bestY" "I" ∈ lw_tbl := List.mem_of_getElem? (i := 1048) (by decide +kernel)
theorem wF_X7_161 : Cond.fieldLink RX7 161 RX7 "bestTime" "I" ∈ lw_tbl := List.mem_of_getElem? (i := 1049) (by decide +kernel)
theorem wF_X7_144 : Cond.fieldLink RX7 144 RX7 "bestCost" "J" ∈ lw_tbl := List.mem_of_getElem? (i := 1050) (by decide +kernel)
theorem wF_X7_226 : Cond.fieldLink RX7 226 RX7 "sum" "J" ∈ lw_tbl := List.mem_of_getElem? (i := 1051) (by decide +kernel)
theorem wM_L_107 : Cond.methodLink RL 107 yX7_thrown ∈ lw_tbl := List.mem_of_getElem? (i := 1093) (by decide +kernel)
theorem wM_L_106 : Cond.methodLink RL 106 yX7_star ∈ lw_tbl := List.mem_of_getElem? (i := 1097) (by decide +kernel)
theorem wM_X7_86 : Cond.methodLink RX7 86 yX7_is ∈ lw_tbl := List.mem_of_getElem? (i := 1101) (by decide +kernel)
theorem wM_X7_95 : Cond.methodLink RX7 95 yX7_refuse ∈ lw_tbl := List.mem_of_getElem? (i := 1104) (by decide +kernel)
theorem wM_L_114 : Cond.methodLink RL 114 yX7_push ∈ lw_tbl := List.mem_of_getElem? (i := 1108) (by decide +kernel)
theorem wM_X7_98 : Cond.methodLink RX7 98 yX7_isStar ∈ lw_tbl := List.mem_of_getElem? (i := 1112) (by decide +kernel)
theorem wM_X7_54 : Cond.methodLink RX7 54 yJ9_floorMod_7cf53 ∈ lw_tbl := List.mem_of_getElem? (i := 1116) (by decide +kernel)
theorem wM_L_118 : Cond.methodLink RL 118 yX7_jump ∈ lw_tbl := List.mem_of_getElem? (i := 1117) (by decide +kernel)
theorem wM_X7_102 : Cond.methodLink RX7 102 yX7_held ∈ lw_tbl := List.mem_of_getElem? (i := 1121) (by decide +kernel)
theorem wM_X7_45 : Cond.methodLink RX7 45 Lib.Math.min.name ∈ lw_tbl := List.mem_of_getElem? (i := 1124) (by decide +kernel)
theorem wM_X7_51 : Cond.methodLink RX7 51 Lib.Math.max.name ∈ lw_tbl := List.mem_of_getElem? (i := 1125) (by decide +kernel)
theorem wM_L_122 : Cond.methodLink RL 122 yX7_health ∈ lw_tbl := List.mem_of_getElem? (i := 1126) (by decide +kernel)
theorem wM_L_125 : Cond.methodLink RL 125 yX7_station ∈ lw_tbl := List.mem_of_getElem? (i := 1130) (by decide +kernel)
theorem wM_L_128 : Cond.methodLink RL 128 yX7_listen ∈ lw_tbl := List.mem_of_getElem? (i := 1134) (by decide +kernel)
theorem wM_X7_105 : Cond.methodLink RX7 105 yX7_isStation ∈ lw_tbl := List.mem_of_getElem? (i := 1138) (by decide +kernel)
theorem wM_X7_108 : Cond.methodLink RX7 108 yX7_isHeard ∈ lw_tbl := List.mem_of_getElem? (i := 1142) (by decide +kernel)
theorem wM_X7_70 : Cond.methodLink RX7 70 yX7_phaseIn ∈ lw_tbl := List.mem_of_getElem? (i := 1146) (by decide +kernel)
theorem wM_X7_73 : Cond.methodLink RX7 73 yX7_yAt ∈ lw_tbl := List.mem_of_getElem? (i := 1150) (by decide +kernel)
theorem wM_X7_57 : Cond.methodLink RX7 57 yX7_tOf ∈ lw_tbl := List.mem_of_getElem? (i := 1154) (by decide +kernel)
theorem wM_X7_76 : Cond.methodLink RX7 76 yX7_xAt ∈ lw_tbl := List.mem_of_getElem? (i := 1157) (by decide +kernel)
theorem wM_X7_61 : Cond.methodLink RX7 61 Lib.Math.abs.name ∈ lw_tbl := List.mem_of_getElem? (i := 1161) (by decide +kernel)
theorem wM_X7_67 : Cond.methodLink RX7 67 yX7_since ∈ lw_tbl := List.mem_of_getElem? (i := 1162) (by decide +kernel)
theorem wM_L_131 : Cond.methodLink RL 131 yX7_receiver ∈ lw_tbl := List.mem_of_getElem? (i := 1166) (by decide +kernel)
theorem wM_X7_111 : Cond.methodLink RX7 111 yX7_isPlace ∈ lw_tbl := List.mem_of_getElem? (i := 1170) (by decide +kernel)
theorem wM_L_134 : Cond.methodLink RL 134 yX7_go ∈ lw_tbl := List.mem_of_getElem? (i := 1173) (by decide +kernel)
theorem wM_X7_115 : Cond.methodLink RX7 115 yX7_isReceiver ∈ lw_tbl := List.mem_of_getElem? (i := 1177) (by decide +kernel)
theorem wM_X7_118 : Cond.methodLink RX7 118 yX7_range ∈ lw_tbl := List.mem_of_getElem? (i := 1181) (by decide +kernel)
theorem wM_L_137 : Cond.methodLink RL 137 yX7_hills ∈ lw_tbl := List.mem_of_getElem? (i := 1184) (by decide +kernel)
theorem wM_X7_122 : Cond.methodLink RX7 122 yX7_setSeen ∈ lw_tbl := List.mem_of_getElem? (i := 1188) (by decide +kernel)
theorem wM_X7_82 : Cond.methodLink RX7 82 yX7_sees ∈ lw_tbl := List.mem_of_getElem? (i := 1192) (by decide +kernel)
theorem wM_X7_125 : Cond.methodLink RX7 125 yJ6_bitCount_0f7a4 ∈ lw_tbl := List.mem_of_getElem? (i := 1196) (by decide +kernel)
theorem wM_L_141 : Cond.methodLink RL 141 yX7_air ∈ lw_tbl := List.mem_of_getElem? (i := 1197) (by decide +kernel)
theorem wM_X7_130 : Cond.methodLink RX7 130 yX7_change ∈ lw_tbl := List.mem_of_getElem? (i := 1201) (by decide +kernel)
theorem wM_L_144 : Cond.methodLink RL 144 yX7_alert ∈ lw_tbl := List.mem_of_getElem? (i := 1205) (by decide +kernel)
theorem wM_L_147 : Cond.methodLink RL 147 yX7_spoof ∈ lw_tbl := List.mem_of_getElem? (i := 1209) (by decide +kernel)
theorem wM_L_150 : Cond.methodLink RL 150 yX7_refer ∈ lw_tbl := List.mem_of_getElem? (i := 1213) (by decide +kernel)
theorem wM_L_154 : Cond.methodLink RL 154 yX7_pass ∈ lw_tbl := List.mem_of_getElem? (i := 1217) (by decide +kernel)
theorem wM_L_157 : Cond.methodLink RL 157 yX7_observe ∈ lw_tbl := List.mem_of_getElem? (i := 1221) (by decide +kernel)
theorem wM_X7_184 : Cond.methodLink RX7 184 yX7_see ∈ lw_tbl := List.mem_of_getElem? (i := 1225) (by decide +kernel)
theorem wM_X7_170 : Cond.methodLink RX7 170 yX7_codeOf ∈ lw_tbl := List.mem_of_getElem? (i := 1229) (by decide +kernel)
theorem wM_X7_134 : Cond.methodLink RX7 134 yX7_trueOf ∈ lw_tbl := List.mem_of_getElem? (i := 1233) (by decide +kernel)
theorem wM_X7_137 : Cond.methodLink RX7 137 yJ9_floorDiv_7cf53 ∈ lw_tbl := List.mem_of_getElem? (i := 1237) (by decide +kernel)
theorem wM_X7_188 : Cond.methodLink RX7 188 yX7_lay ∈ lw_tbl := List.mem_of_getElem? (i := 1238) (by decide +kernel)
theorem wM_X7_164 : Cond.methodLink RX7 164 yX7_holds ∈ lw_tbl := List.mem_of_getElem? (i := 1242) (by decide +kernel)
theorem wM_X7_167 : Cond.methodLink RX7 167 yX7_toldPhase ∈ lw_tbl := List.mem_of_getElem? (i := 1246) (by decide +kernel)
theorem wM_X7_173 : Cond.methodLink RX7 173 yX7_toldOffset ∈ lw_tbl := List.mem_of_getElem? (i := 1250) (by decide +kernel)
theorem wM_X7_176 : Cond.methodLink RX7 176 yX7_correction ∈ lw_tbl := List.mem_of_getElem? (i := 1254) (by decide +kernel)
theorem wM_X7_195 : Cond.methodLink RX7 195 yX7_place ∈ lw_tbl := List.mem_of_getElem? (i := 1258) (by decide +kernel)
theorem wM_X7_179 : Cond.methodLink RX7 179 yX7_solve ∈ lw_tbl := List.mem_of_getElem? (i := 1262) (by decide +kernel)
theorem wK_X7_142 : Cond.constantLong RX7 142 (9223372036854775807 : Int64) ∈ lw_tbl := List.mem_of_getElem? (i := 1266) (by decide +kernel)
theorem wM_X7_148 : Cond.methodLink RX7 148 yX7_look ∈ lw_tbl := List.mem_of_getElem? (i := 1267) (by decide +kernel)
theorem wM_X7_152 : Cond.methodLink RX7 152 yX7_over ∈ lw_tbl := List.mem_of_getElem? (i := 1271) (by decide +kernel)
theorem wM_X7_199 : Cond.methodLink RX7 199 yX7_level ∈ lw_tbl := List.mem_of_getElem? (i := 1275) (by decide +kernel)
theorem wM_X7_202 : Cond.methodLink RX7 202 yX7_alarm ∈ lw_tbl := List.mem_of_getElem? (i := 1279) (by decide +kernel)
theorem wK_X7_182 : Cond.constantLong RX7 182 (40 : Int64) ∈ lw_tbl := List.mem_of_getElem? (i := 1283) (by decide +kernel)
theorem wM_L_160 : Cond.methodLink RL 160 yX7_ofStar ∈ lw_tbl := List.mem_of_getElem? (i := 1284) (by decide +kernel)
theorem wM_X7_205 : Cond.methodLink RX7 205 yX7_ofStarNow ∈ lw_tbl := List.mem_of_getElem? (i := 1288) (by decide +kernel)
theorem wM_L_163 : Cond.methodLink RL 163 yX7_message ∈ lw_tbl := List.mem_of_getElem? (i := 1292) (by decide +kernel)
theorem wM_X7_208 : Cond.methodLink RX7 208 yX7_messageNow ∈ lw_tbl := List.mem_of_getElem? (i := 1296) (by decide +kernel)
theorem wM_L_166 : Cond.methodLink RL 166 yX7_seen ∈ lw_tbl := List.mem_of_getElem? (i := 1300) (by decide +kernel)
theorem wM_X7_211 : Cond.methodLink RX7 211 yX7_seenNow ∈ lw_tbl := List.mem_of_getElem? (i := 1304) (by decide +kernel)
theorem wM_L_169 : Cond.methodLink RL 169 yX7_ofReceiver ∈ lw_tbl := List.mem_of_getElem? (i := 1308) (by decide +kernel)
theorem wM_X7_214 : Cond.methodLink RX7 214 yX7_ofReceiverNow ∈ lw_tbl := List.mem_of_getElem? (i := 1312) (by decide +kernel)
theorem wM_L_172 : Cond.methodLink RL 172 yX7_many ∈ lw_tbl := List.mem_of_getElem? (i := 1316) (by decide +kernel)
theorem wM_X7_217 : Cond.methodLink RX7 217 yX7_manyNow ∈ lw_tbl := List.mem_of_getElem? (i := 1320) (by decide +kernel)
theorem wM_L_176 : Cond.methodLink RL 176 yX7_meanError ∈ lw_tbl := List.mem_of_getElem? (i := 1324) (by decide +kernel)
theorem wM_L_179 : Cond.methodLink RL 179 yX7_wouldSee ∈ lw_tbl := List.mem_of_getElem? (i := 1328) (by decide +kernel)
theorem wM_L_182 : Cond.methodLink RL 182 yX7_heardIn ∈ lw_tbl := List.mem_of_getElem? (i := 1332) (by decide +kernel)
theorem wM_X7_220 : Cond.methodLink RX7 220 yX7_heardNow ∈ lw_tbl := List.mem_of_getElem? (i := 1336) (by decide +kernel)
theorem wM_L_185 : Cond.methodLink RL 185 yX7_without ∈ lw_tbl := List.mem_of_getElem? (i := 1340) (by decide +kernel)
theorem wM_L_188 : Cond.methodLink RL 188 yX7_wouldAlarm ∈ lw_tbl := List.mem_of_getElem? (i := 1344) (by decide +kernel)
theorem wM_X7_223 : Cond.methodLink RX7 223 yX7_alarmNow ∈ lw_tbl := List.mem_of_getElem? (i := 1348) (by decide +kernel)
theorem wM_L_193 : Cond.methodLink RL 193 yX7_digest ∈ lw_tbl := List.mem_of_getElem? (i := 1352) (by decide +kernel)
theorem wK_X7_231 : Cond.constantLong RX7 231 (58189 : Int64) ∈ lw_tbl := List.mem_of_getElem? (i := 1356) (by decide +kernel)
theorem wM_X7_233 : Cond.methodLink RX7 233 yX7_add ∈ lw_tbl := List.mem_of_getElem? (i := 1357) (by decide +kernel)
theorem wK_X7_229 : Cond.constantLong RX7 229 (31 : Int64) ∈ lw_tbl := List.mem_of_getElem? (i := 1361) (by decide +kernel)
theorem wAC_long : Cond.arrayClass .long ∈ lw_tbl := List.mem_of_getElem? (i := 1362) (by decide +kernel)
theorem wAC_double : Cond.arrayClass .double ∈ lw_tbl := List.mem_of_getElem? (i := 1363) (by decide +kernel)
theorem cm_X6_init : CFm yX6_init cX6_init 1 none 0 := ⟨List.mem_of_getElem? (i := 113) (by decide +kernel), List.mem_of_getElem? (i := 93) (by decide +kernel), by decide +kernel⟩
theorem cf_X6_init : CFc yX6_init cX6_init 1 0 := ⟨cm_X6_init, rfl, List.mem_of_getElem? (i := 112) (by decide +kernel)⟩
theorem cm_X2_init : CFm yX2_init cX2_init 1 none 0 := ⟨List.mem_of_getElem? (i := 127) (by decide +kernel), List.mem_of_getElem? (i := 94) (by decide +kernel), by decide +kernel⟩
theorem cf_X2_init : CFc yX2_init cX2_init 1 0 := ⟨cm_X2_init, rfl, List.mem_of_getElem? (i := 126) (by decide +kernel)⟩
theorem cm_X6_digest : CFm yX6_digest cX6_digest 4 (some .long) 0 := ⟨List.mem_of_getElem? (i := 215) (by decide +kernel), List.mem_of_getElem? (i := 93) (by decide +kernel), by decide +kernel⟩
theorem cf_X6_digest : CFi yX6_digest cX6_digest 4 (some .long) 0 := ⟨cm_X6_digest, List.mem_of_getElem? (i := 213) (by decide +kernel), List.mem_of_getElem? (i := 214) (by decide +kernel)⟩
theorem cm_X6_countOf : CFm yX6_countOf cX6_countOf 2 (some .int) 1 := ⟨List.mem_of_getElem? (i := 221) (by decide +kernel), List.mem_of_getElem? (i := 93) (by decide +kernel), by decide +kernel⟩
theorem cf_X6_countOf : CFi yX6_countOf cX6_countOf 2 (some .int) 1 := ⟨cm_X6_countOf, List.mem_of_getElem? (i := 220) (by decide +kernel), List.mem_of_getElem? (i := 0) (by decide +kernel)⟩
theorem cm_X6_sumOfStars : CFm yX6_sumOfStars cX6_sumOfStars 4 (some .int) 1 := ⟨List.mem_of_getElem? (i := 225) (by decide +kernel), List.mem_of_getElem? (i := 93) (by decide +kernel), by decide +kernel⟩
theorem cf_X6_sumOfStars : CFi yX6_sumOfStars cX6_sumOfStars 4 (some .int) 1 := ⟨cm_X6_sumOfStars, List.mem_of_getElem? (i := 224) (by decide +kernel), List.mem_of_getElem? (i := 1) (by decide +kernel)⟩
theorem cm_X3_messageHolds : CFm yX3_messageHolds cX3_messageHolds 2 (some .boolean) 1 := ⟨List.mem_of_getElem? (i := 230) (by decide +kernel), List.mem_of_getElem? (i := 101) (by decide +kernel), by decide +kernel⟩
theorem cf_X3_messageHolds : CFi yX3_messageHolds cX3_messageHolds 2 (some .boolean) 1 := ⟨cm_X3_messageHolds, List.mem_of_getElem? (i := 228) (by decide +kernel), List.mem_of_getElem? (i := 2) (by decide +kernel)⟩
theorem cm_X6_isOutside : CFm yX6_isOutside cX6_isOutside 3 (some .boolean) 3 := ⟨List.mem_of_getElem? (i := 233) (by decide +kernel), List.mem_of_getElem? (i := 93) (by decide +kernel), by decide +kernel⟩
theorem cf_X6_isOutside : CFs yX6_isOutside cX6_isOutside 3 (some .boolean) 3 := ⟨cm_X6_isOutside, List.mem_of_getElem? (i := 232) (by decide +kernel)⟩
theorem cm_X6_sumOfReceivers : CFm yX6_sumOfReceivers cX6_sumOfReceivers 4 (some .int) 1 := ⟨List.mem_of_getElem? (i := 237) (by decide +kernel), List.mem_of_getElem? (i := 93) (by decide +kernel), by decide +kernel⟩
theorem cf_X6_sumOfReceivers : CFi yX6_sumOfReceivers cX6_sumOfReceivers 4 (some .int) 1 := ⟨cm_X6_sumOfReceivers, List.mem_of_getElem? (i := 236) (by decide +kernel), List.mem_of_getElem? (i := 3) (by decide +kernel)⟩
theorem cm_X6_digestStar : CFm yX6_digestStar cX6_digestStar 7 (some .long) 2 := ⟨List.mem_of_getElem? (i := 241) (by decide +kernel), List.mem_of_getElem? (i := 93) (by decide +kernel), by decide +kernel⟩
theorem cf_X6_digestStar : CFi yX6_digestStar cX6_digestStar 7 (some .long) 2 := ⟨cm_X6_digestStar, List.mem_of_getElem? (i := 240) (by decide +kernel), List.mem_of_getElem? (i := 4) (by decide +kernel)⟩
theorem cm_X3_tell : CFm yX3_tell cX3_tell 2 (some .int) 1 := ⟨List.mem_of_getElem? (i := 245) (by decide +kernel), List.mem_of_getElem? (i := 101) (by decide +kernel), by decide +kernel⟩
theorem cf_X3_tell : CFi yX3_tell cX3_tell 2 (some .int) 1 := ⟨cm_X3_tell, List.mem_of_getElem? (i := 244) (by decide +kernel), List.mem_of_getElem? (i := 5) (by decide +kernel)⟩
theorem cm_X3_xIn : CFm yX3_xIn cX3_xIn 2 (some .int) 1 := ⟨List.mem_of_getElem? (i := 249) (by decide +kernel), List.mem_of_getElem? (i := 101) (by decide +kernel), by decide +kernel⟩
theorem cf_X3_xIn : CFi yX3_xIn cX3_xIn 2 (some .int) 1 := ⟨cm_X3_xIn, List.mem_of_getElem? (i := 248) (by decide +kernel), List.mem_of_getElem? (i := 6) (by decide +kernel)⟩
theorem cm_X6_swing : CFm yX6_swing cX6_swing 2 (some .int) 1 := ⟨List.mem_of_getElem? (i := 252) (by decide +kernel), List.mem_of_getElem? (i := 93) (by decide +kernel), by decide +kernel⟩
theorem cf_X6_swing : CFs yX6_swing cX6_swing 2 (some .int) 1 := ⟨cm_X6_swing, List.mem_of_getElem? (i := 251) (by decide +kernel)⟩
theorem cm_X3_yIn : CFm yX3_yIn cX3_yIn 2 (some .int) 1 := ⟨List.mem_of_getElem? (i := 256) (by decide +kernel), List.mem_of_getElem? (i := 101) (by decide +kernel), by decide +kernel⟩
theorem cf_X3_yIn : CFi yX3_yIn cX3_yIn 2 (some .int) 1 := ⟨cm_X3_yIn, List.mem_of_getElem? (i := 255) (by decide +kernel), List.mem_of_getElem? (i := 7) (by decide +kernel)⟩
theorem cm_X3_tellMessage : CFm yX3_tellMessage cX3_tellMessage 3 (some .int) 2 := ⟨List.mem_of_getElem? (i := 260) (by decide +kernel), List.mem_of_getElem? (i := 101) (by decide +kernel), by decide +kernel⟩
theorem cf_X3_tellMessage : CFi yX3_tellMessage cX3_tellMessage 3 (some .int) 2 := ⟨cm_X3_tellMessage, List.mem_of_getElem? (i := 259) (by decide +kernel), List.mem_of_getElem? (i := 8) (by decide +kernel)⟩
theorem cm_X3_toldClock : CFm yX3_toldClock cX3_toldClock 2 (some .int) 1 := ⟨List.mem_of_getElem? (i := 265) (by decide +kernel), List.mem_of_getElem? (i := 101) (by decide +kernel), by decide +kernel⟩
theorem cf_X3_toldClock : CFi yX3_toldClock cX3_toldClock 2 (some .int) 1 := ⟨cm_X3_toldClock, List.mem_of_getElem? (i := 264) (by decide +kernel), List.mem_of_getElem? (i := 9) (by decide +kernel)⟩
theorem cm_J9_abs_0f7a4 : CFm yJ9_abs_0f7a4 cJ9_abs_0f7a4 1 (some .int) 1 := ⟨List.mem_of_getElem? (i := 268) (by decide +kernel), List.mem_of_getElem? (i := 103) (by decide +kernel), by decide +kernel⟩
theorem cf_J9_abs_0f7a4 : CFs yJ9_abs_0f7a4 cJ9_abs_0f7a4 1 (some .int) 1 := ⟨cm_J9_abs_0f7a4, List.mem_of_getElem? (i := 267) (by decide +kernel)⟩
theorem cm_X3_toldX : CFm yX3_toldX cX3_toldX 2 (some .int) 1 := ⟨List.mem_of_getElem? (i := 272) (by decide +kernel), List.mem_of_getElem? (i := 101) (by decide +kernel), by decide +kernel⟩
theorem cf_X3_toldX : CFi yX3_toldX cX3_toldX 2 (some .int) 1 := ⟨cm_X3_toldX, List.mem_of_getElem? (i := 271) (by decide +kernel), List.mem_of_getElem? (i := 10) (by decide +kernel)⟩
theorem cm_X3_toldY : CFm yX3_toldY cX3_toldY 2 (some .int) 1 := ⟨List.mem_of_getElem? (i := 276) (by decide +kernel), List.mem_of_getElem? (i := 101) (by decide +kernel), by decide +kernel⟩
theorem cf_X3_toldY : CFi yX3_toldY cX3_toldY 2 (some .int) 1 := ⟨cm_X3_toldY, List.mem_of_getElem? (i := 275) (by decide +kernel), List.mem_of_getElem? (i := 11) (by decide +kernel)⟩
theorem cm_X6_rangeOf : CFm yX6_rangeOf cX6_rangeOf 4 (some .int) 4 := ⟨List.mem_of_getElem? (i := 279) (by decide +kernel), List.mem_of_getElem? (i := 93) (by decide +kernel), by decide +kernel⟩
theorem cf_X6_rangeOf : CFs yX6_rangeOf cX6_rangeOf 4 (some .int) 4 := ⟨cm_X6_rangeOf, List.mem_of_getElem? (i := 278) (by decide +kernel)⟩
theorem cm_J9_max_7cf53 : CFm yJ9_max_7cf53 cJ9_max_7cf53 2 (some .int) 2 := ⟨List.mem_of_getElem? (i := 283) (by decide +kernel), List.mem_of_getElem? (i := 103) (by decide +kernel), by decide +kernel⟩
theorem cf_J9_max_7cf53 : CFs yJ9_max_7cf53 cJ9_max_7cf53 2 (some .int) 2 := ⟨cm_J9_max_7cf53, List.mem_of_getElem? (i := 282) (by decide +kernel)⟩
theorem cm_X6_firstHeard : CFm yX6_firstHeard cX6_firstHeard 3 (some .int) 2 := ⟨List.mem_of_getElem? (i := 286) (by decide +kernel), List.mem_of_getElem? (i := 93) (by decide +kernel), by decide +kernel⟩
theorem cf_X6_firstHeard : CFs yX6_firstHeard cX6_firstHeard 3 (some .int) 2 := ⟨cm_X6_firstHeard, List.mem_of_getElem? (i := 285) (by decide +kernel)⟩
theorem cm_X4_canHear : CFm yX4_canHear cX4_canHear 4 (some .boolean) 2 := ⟨List.mem_of_getElem? (i := 291) (by decide +kernel), List.mem_of_getElem? (i := 104) (by decide +kernel), by decide +kernel⟩
theorem cf_X4_canHear : CFi yX4_canHear cX4_canHear 4 (some .boolean) 2 := ⟨cm_X4_canHear, List.mem_of_getElem? (i := 289) (by decide +kernel), List.mem_of_getElem? (i := 12) (by decide +kernel)⟩
theorem cm_X6_digestReceiver : CFm yX6_digestReceiver cX6_digestReceiver 8 (some .long) 2 := ⟨List.mem_of_getElem? (i := 298) (by decide +kernel), List.mem_of_getElem? (i := 93) (by decide +kernel), by decide +kernel⟩
theorem cf_X6_digestReceiver : CFi yX6_digestReceiver cX6_digestReceiver 8 (some .long) 2 := ⟨cm_X6_digestReceiver, List.mem_of_getElem? (i := 297) (by decide +kernel), List.mem_of_getElem? (i := 13) (by decide +kernel)⟩
theorem cm_X6_tellReceiver : CFm yX6_tellReceiver cX6_tellReceiver 3 (some .int) 2 := ⟨List.mem_of_getElem? (i := 302) (by decide +kernel), List.mem_of_getElem? (i := 93) (by decide +kernel), by decide +kernel⟩
theorem cf_X6_tellReceiver : CFi yX6_tellReceiver cX6_tellReceiver 3 (some .int) 2 := ⟨cm_X6_tellReceiver, List.mem_of_getElem? (i := 301) (by decide +kernel), List.mem_of_getElem? (i := 14) (by decide +kernel)⟩
theorem cm_X6_setSeen : CFm yX6_setSeen cX6_setSeen 5 (some .int) 2 := ⟨List.mem_of_getElem? (i := 306) (by decide +kernel), List.mem_of_getElem? (i := 93) (by decide +kernel), by decide +kernel⟩
theorem cf_X6_setSeen : CFi yX6_setSeen cX6_setSeen 5 (some .int) 2 := ⟨cm_X6_setSeen, List.mem_of_getElem? (i := 305) (by decide +kernel), List.mem_of_getElem? (i := 15) (by decide +kernel)⟩
theorem cm_X0_canSee : CFm yX0_canSee cX0_canSee 4 (some .boolean) 2 := ⟨List.mem_of_getElem? (i := 311) (by decide +kernel), List.mem_of_getElem? (i := 105) (by decide +kernel), by decide +kernel⟩
theorem cf_X0_canSee : CFi yX0_canSee cX0_canSee 4 (some .boolean) 2 := ⟨cm_X0_canSee, List.mem_of_getElem? (i := 309) (by decide +kernel), List.mem_of_getElem? (i := 16) (by decide +kernel)⟩
theorem cm_J6_bitCount_0f7a4 : CFm yJ6_bitCount_0f7a4 cJ6_bitCount_0f7a4 1 (some .int) 1 := ⟨List.mem_of_getElem? (i := 316) (by decide +kernel), List.mem_of_getElem? (i := 108) (by decide +kernel), by decide +kernel⟩
theorem cf_J6_bitCount_0f7a4 : CFs yJ6_bitCount_0f7a4 cJ6_bitCount_0f7a4 1 (some .int) 1 := ⟨cm_J6_bitCount_0f7a4, List.mem_of_getElem? (i := 315) (by decide +kernel)⟩
theorem cm_X5_errorAt : CFm yX5_errorAt cX5_errorAt 3 (some .int) 2 := ⟨List.mem_of_getElem? (i := 324) (by decide +kernel), List.mem_of_getElem? (i := 106) (by decide +kernel), by decide +kernel⟩
theorem cf_X5_errorAt : CFi yX5_errorAt cX5_errorAt 3 (some .int) 2 := ⟨cm_X5_errorAt, List.mem_of_getElem? (i := 322) (by decide +kernel), List.mem_of_getElem? (i := 17) (by decide +kernel)⟩
theorem cm_X5_tell : CFm yX5_tell cX5_tell 2 (some .int) 1 := ⟨List.mem_of_getElem? (i := 329) (by decide +kernel), List.mem_of_getElem? (i := 106) (by decide +kernel), by decide +kernel⟩
theorem cf_X5_tell : CFi yX5_tell cX5_tell 2 (some .int) 1 := ⟨cm_X5_tell, List.mem_of_getElem? (i := 328) (by decide +kernel), List.mem_of_getElem? (i := 18) (by decide +kernel)⟩
theorem cm_X1_tell : CFm yX1_tell cX1_tell 2 (some .int) 1 := ⟨List.mem_of_getElem? (i := 334) (by decide +kernel), List.mem_of_getElem? (i := 107) (by decide +kernel), by decide +kernel⟩
theorem cf_X1_tell : CFi yX1_tell cX1_tell 2 (some .int) 1 := ⟨cm_X1_tell, List.mem_of_getElem? (i := 332) (by decide +kernel), List.mem_of_getElem? (i := 19) (by decide +kernel)⟩
theorem cm_X1_tellSeen : CFm yX1_tellSeen cX1_tellSeen 2 (some .int) 1 := ⟨List.mem_of_getElem? (i := 338) (by decide +kernel), List.mem_of_getElem? (i := 107) (by decide +kernel), by decide +kernel⟩
theorem cf_X1_tellSeen : CFi yX1_tellSeen cX1_tellSeen 2 (some .int) 1 := ⟨cm_X1_tellSeen, List.mem_of_getElem? (i := 337) (by decide +kernel), List.mem_of_getElem? (i := 20) (by decide +kernel)⟩
theorem cm_X6_supposedAlarm : CFm yX6_supposedAlarm cX6_supposedAlarm 2 (some .int) 1 := ⟨List.mem_of_getElem? (i := 342) (by decide +kernel), List.mem_of_getElem? (i := 93) (by decide +kernel), by decide +kernel⟩
theorem cf_X6_supposedAlarm : CFi yX6_supposedAlarm cX6_supposedAlarm 2 (some .int) 1 := ⟨cm_X6_supposedAlarm, List.mem_of_getElem? (i := 341) (by decide +kernel), List.mem_of_getElem? (i := 21) (by decide +kernel)⟩
theorem cm_X6_gatherSupposed : CFm yX6_gatherSupposed cX6_gatherSupposed 4 none 2 := ⟨List.mem_of_getElem? (i := 346) (by decide +kernel), List.mem_of_getElem? (i := 93) (by decide +kernel), by decide +kernel⟩
theorem cf_X6_gatherSupposed : CFi yX6_gatherSupposed cX6_gatherSupposed 4 none 2 := ⟨cm_X6_gatherSupposed, List.mem_of_getElem? (i := 345) (by decide +kernel), List.mem_of_getElem? (i := 22) (by decide +kernel)⟩
theorem cm_X2_clear : CFm yX2_clear cX2_clear 1 none 0 := ⟨List.mem_of_getElem? (i := 350) (by decide +kernel), List.mem_of_getElem? (i := 94) (by decide +kernel), by decide +kernel⟩
theorem cf_X2_clear : CFi yX2_clear cX2_clear 1 none 0 := ⟨cm_X2_clear, List.mem_of_getElem? (i := 349) (by decide +kernel), List.mem_of_getElem? (i := 23) (by decide +kernel)⟩
theorem cm_X6_codeOf : CFm yX6_codeOf cX6_codeOf 4 (some .int) 2 := ⟨List.mem_of_getElem? (i := 354) (by decide +kernel), List.mem_of_getElem? (i := 93) (by decide +kernel), by decide +kernel⟩
theorem cf_X6_codeOf : CFi yX6_codeOf cX6_codeOf 4 (some .int) 2 := ⟨cm_X6_codeOf, List.mem_of_getElem? (i := 353) (by decide +kernel), List.mem_of_getElem? (i := 24) (by decide +kernel)⟩
theorem cm_J9_floorMod_7cf53 : CFm yJ9_floorMod_7cf53 cJ9_floorMod_7cf53 3 (some .int) 2 := ⟨List.mem_of_getElem? (i := 357) (by decide +kernel), List.mem_of_getElem? (i := 103) (by decide +kernel), by decide +kernel⟩
theorem cf_J9_floorMod_7cf53 : CFs yJ9_floorMod_7cf53 cJ9_floorMod_7cf53 3 (some .int) 2 := ⟨cm_J9_floorMod_7cf53, List.mem_of_getElem? (i := 356) (by decide +kernel)⟩
theorem cm_X0_trueCount : CFm yX0_trueCount cX0_trueCount 4 (some .int) 1 := ⟨List.mem_of_getElem? (i := 361) (by decide +kernel), List.mem_of_getElem? (i := 105) (by decide +kernel), by decide +kernel⟩
theorem cf_X0_trueCount : CFi yX0_trueCount cX0_trueCount 4 (some .int) 1 := ⟨cm_X0_trueCount, List.mem_of_getElem? (i := 360) (by decide +kernel), List.mem_of_getElem? (i := 25) (by decide +kernel)⟩
theorem cm_X0_airDelay : CFm yX0_airDelay cX0_airDelay 3 (some .int) 1 := ⟨List.mem_of_getElem? (i := 366) (by decide +kernel), List.mem_of_getElem? (i := 105) (by decide +kernel), by decide +kernel⟩
theorem cf_X0_airDelay : CFi yX0_airDelay cX0_airDelay 3 (some .int) 1 := ⟨cm_X0_airDelay, List.mem_of_getElem? (i := 365) (by decide +kernel), List.mem_of_getElem? (i := 26) (by decide +kernel)⟩
theorem cm_X6_correctionOf : CFm yX6_correctionOf cX6_correctionOf 4 (some .int) 2 := ⟨List.mem_of_getElem? (i := 371) (by decide +kernel), List.mem_of_getElem? (i := 93) (by decide +kernel), by decide +kernel⟩
theorem cf_X6_correctionOf : CFi yX6_correctionOf cX6_correctionOf 4 (some .int) 2 := ⟨cm_X6_correctionOf, List.mem_of_getElem? (i := 370) (by decide +kernel), List.mem_of_getElem? (i := 27) (by decide +kernel)⟩
theorem cm_X6_isNoReceiver : CFm yX6_isNoReceiver cX6_isNoReceiver 2 (some .boolean) 1 := ⟨List.mem_of_getElem? (i := 375) (by decide +kernel), List.mem_of_getElem? (i := 93) (by decide +kernel), by decide +kernel⟩
theorem cf_X6_isNoReceiver : CFi yX6_isNoReceiver cX6_isNoReceiver 2 (some .boolean) 1 := ⟨cm_X6_isNoReceiver, List.mem_of_getElem? (i := 374) (by decide +kernel), List.mem_of_getElem? (i := 28) (by decide +kernel)⟩
theorem cm_X5_hasObservedSince : CFm yX5_hasObservedSince cX5_hasObservedSince 2 (some .boolean) 1 := ⟨List.mem_of_getElem? (i := 380) (by decide +kernel), List.mem_of_getElem? (i := 106) (by decide +kernel), by decide +kernel⟩
theorem cf_X5_hasObservedSince : CFi yX5_hasObservedSince cX5_hasObservedSince 2 (some .boolean) 1 := ⟨cm_X5_hasObservedSince, List.mem_of_getElem? (i := 379) (by decide +kernel), List.mem_of_getElem? (i := 29) (by decide +kernel)⟩
theorem cm_X6_use : CFm yX6_use cX6_use 7 none 3 := ⟨List.mem_of_getElem? (i := 384) (by decide +kernel), List.mem_of_getElem? (i := 93) (by decide +kernel), by decide +kernel⟩
theorem cf_X6_use : CFi yX6_use cX6_use 7 none 3 := ⟨cm_X6_use, List.mem_of_getElem? (i := 383) (by decide +kernel), List.mem_of_getElem? (i := 30) (by decide +kernel)⟩
theorem cm_X2_use : CFm yX2_use cX2_use 5 none 4 := ⟨List.mem_of_getElem? (i := 391) (by decide +kernel), List.mem_of_getElem? (i := 94) (by decide +kernel), by decide +kernel⟩
theorem cf_X2_use : CFi yX2_use cX2_use 5 none 4 := ⟨cm_X2_use, List.mem_of_getElem? (i := 390) (by decide +kernel), List.mem_of_getElem? (i := 31) (by decide +kernel)⟩
theorem cm_X2_solve : CFm yX2_solve cX2_solve 3 none 0 := ⟨List.mem_of_getElem? (i := 395) (by decide +kernel), List.mem_of_getElem? (i := 94) (by decide +kernel), by decide +kernel⟩
theorem cf_X2_solve : CFi yX2_solve cX2_solve 3 none 0 := ⟨cm_X2_solve, List.mem_of_getElem? (i := 394) (by decide +kernel), List.mem_of_getElem? (i := 32) (by decide +kernel)⟩
theorem cm_X2_hasSolution : CFm yX2_hasSolution cX2_hasSolution 1 (some .boolean) 0 := ⟨List.mem_of_getElem? (i := 399) (by decide +kernel), List.mem_of_getElem? (i := 94) (by decide +kernel), by decide +kernel⟩
theorem cf_X2_hasSolution : CFi yX2_hasSolution cX2_hasSolution 1 (some .boolean) 0 := ⟨cm_X2_hasSolution, List.mem_of_getElem? (i := 398) (by decide +kernel), List.mem_of_getElem? (i := 33) (by decide +kernel)⟩
theorem cm_X2_search : CFm yX2_search cX2_search 4 none 1 := ⟨List.mem_of_getElem? (i := 403) (by decide +kernel), List.mem_of_getElem? (i := 94) (by decide +kernel), by decide +kernel⟩
theorem cf_X2_search : CFi yX2_search cX2_search 4 none 1 := ⟨cm_X2_search, List.mem_of_getElem? (i := 402) (by decide +kernel), List.mem_of_getElem? (i := 34) (by decide +kernel)⟩
theorem cm_X2_tryPlace : CFm yX2_tryPlace cX2_tryPlace 9 none 3 := ⟨List.mem_of_getElem? (i := 408) (by decide +kernel), List.mem_of_getElem? (i := 94) (by decide +kernel), by decide +kernel⟩
theorem cf_X2_tryPlace : CFi yX2_tryPlace cX2_tryPlace 9 none 3 := ⟨cm_X2_tryPlace, List.mem_of_getElem? (i := 407) (by decide +kernel), List.mem_of_getElem? (i := 35) (by decide +kernel)⟩
theorem cm_J9_floorDiv_7cf53 : CFm yJ9_floorDiv_7cf53 cJ9_floorDiv_7cf53 3 (some .int) 2 := ⟨List.mem_of_getElem? (i := 412) (by decide +kernel), List.mem_of_getElem? (i := 103) (by decide +kernel), by decide +kernel⟩
theorem cf_J9_floorDiv_7cf53 : CFs yJ9_floorDiv_7cf53 cJ9_floorDiv_7cf53 3 (some .int) 2 := ⟨cm_J9_floorDiv_7cf53, List.mem_of_getElem? (i := 411) (by decide +kernel)⟩
theorem cm_X2_costBy : CFm yX2_costBy cX2_costBy 8 (some .long) 2 := ⟨List.mem_of_getElem? (i := 416) (by decide +kernel), List.mem_of_getElem? (i := 94) (by decide +kernel), by decide +kernel⟩
theorem cf_X2_costBy : CFi yX2_costBy cX2_costBy 8 (some .long) 2 := ⟨cm_X2_costBy, List.mem_of_getElem? (i := 415) (by decide +kernel), List.mem_of_getElem? (i := 36) (by decide +kernel)⟩
theorem cm_X6_alarmOf : CFm yX6_alarmOf cX6_alarmOf 3 (some .int) 2 := ⟨List.mem_of_getElem? (i := 421) (by decide +kernel), List.mem_of_getElem? (i := 93) (by decide +kernel), by decide +kernel⟩
theorem cf_X6_alarmOf : CFi yX6_alarmOf cX6_alarmOf 3 (some .int) 2 := ⟨cm_X6_alarmOf, List.mem_of_getElem? (i := 420) (by decide +kernel), List.mem_of_getElem? (i := 37) (by decide +kernel)⟩
theorem cm_X5_leapsTo : CFm yX5_leapsTo cX5_leapsTo 4 (some .boolean) 3 := ⟨List.mem_of_getElem? (i := 425) (by decide +kernel), List.mem_of_getElem? (i := 106) (by decide +kernel), by decide +kernel⟩
theorem cf_X5_leapsTo : CFi yX5_leapsTo cX5_leapsTo 4 (some .boolean) 3 := ⟨cm_X5_leapsTo, List.mem_of_getElem? (i := 424) (by decide +kernel), List.mem_of_getElem? (i := 38) (by decide +kernel)⟩
theorem cm_X5_hasObservedIn : CFm yX5_hasObservedIn cX5_hasObservedIn 2 (some .boolean) 1 := ⟨List.mem_of_getElem? (i := 429) (by decide +kernel), List.mem_of_getElem? (i := 106) (by decide +kernel), by decide +kernel⟩
theorem cf_X5_hasObservedIn : CFi yX5_hasObservedIn cX5_hasObservedIn 2 (some .boolean) 1 := ⟨cm_X5_hasObservedIn, List.mem_of_getElem? (i := 428) (by decide +kernel), List.mem_of_getElem? (i := 39) (by decide +kernel)⟩
theorem cm_X6_star : CFm yX6_star cX6_star 6 (some .int) 5 := ⟨List.mem_of_getElem? (i := 438) (by decide +kernel), List.mem_of_getElem? (i := 93) (by decide +kernel), by decide +kernel⟩
theorem cf_X6_star : CFi yX6_star cX6_star 6 (some .int) 5 := ⟨cm_X6_star, List.mem_of_getElem? (i := 436) (by decide +kernel), List.mem_of_getElem? (i := 437) (by decide +kernel)⟩
theorem cm_X3_init : CFm yX3_init cX3_init 6 none 5 := ⟨List.mem_of_getElem? (i := 526) (by decide +kernel), List.mem_of_getElem? (i := 101) (by decide +kernel), by decide +kernel⟩
theorem cf_X3_init : CFc yX3_init cX3_init 6 5 := ⟨cm_X3_init, rfl, List.mem_of_getElem? (i := 525) (by decide +kernel)⟩
theorem cm_X6_push : CFm yX6_push cX6_push 4 (some .int) 2 := ⟨List.mem_of_getElem? (i := 577) (by decide +kernel), List.mem_of_getElem? (i := 93) (by decide +kernel), by decide +kernel⟩
theorem cf_X6_push : CFi yX6_push cX6_push 4 (some .int) 2 := ⟨cm_X6_push, List.mem_of_getElem? (i := 575) (by decide +kernel), List.mem_of_getElem? (i := 576) (by decide +kernel)⟩
theorem cm_X6_isNoStar : CFm yX6_isNoStar cX6_isNoStar 2 (some .boolean) 1 := ⟨List.mem_of_getElem? (i := 581) (by decide +kernel), List.mem_of_getElem? (i := 93) (by decide +kernel), by decide +kernel⟩
theorem cf_X6_isNoStar : CFi yX6_isNoStar cX6_isNoStar 2 (some .boolean) 1 := ⟨cm_X6_isNoStar, List.mem_of_getElem? (i := 580) (by decide +kernel), List.mem_of_getElem? (i := 41) (by decide +kernel)⟩
theorem cm_X6_jump : CFm yX6_jump cX6_jump 5 (some .int) 3 := ⟨List.mem_of_getElem? (i := 605) (by decide +kernel), List.mem_of_getElem? (i := 93) (by decide +kernel), by decide +kernel⟩
theorem cf_X6_jump : CFi yX6_jump cX6_jump 5 (some .int) 3 := ⟨cm_X6_jump, List.mem_of_getElem? (i := 603) (by decide +kernel), List.mem_of_getElem? (i := 604) (by decide +kernel)⟩
theorem cm_X3_moveClock : CFm yX3_moveClock cX3_moveClock 2 none 1 := ⟨List.mem_of_getElem? (i := 609) (by decide +kernel), List.mem_of_getElem? (i := 101) (by decide +kernel), by decide +kernel⟩
theorem cf_X3_moveClock : CFi yX3_moveClock cX3_moveClock 2 none 1 := ⟨cm_X3_moveClock, List.mem_of_getElem? (i := 608) (by decide +kernel), List.mem_of_getElem? (i := 42) (by decide +kernel)⟩
theorem cm_X6_held : CFm yX6_held cX6_held 2 (some .int) 2 := ⟨List.mem_of_getElem? (i := 612) (by decide +kernel), List.mem_of_getElem? (i := 93) (by decide +kernel), by decide +kernel⟩
theorem cf_X6_held : CFs yX6_held cX6_held 2 (some .int) 2 := ⟨cm_X6_held, List.mem_of_getElem? (i := 611) (by decide +kernel)⟩
theorem cm_J9_min_7cf53 : CFm yJ9_min_7cf53 cJ9_min_7cf53 2 (some .int) 2 := ⟨List.mem_of_getElem? (i := 615) (by decide +kernel), List.mem_of_getElem? (i := 103) (by decide +kernel), by decide +kernel⟩
theorem cf_J9_min_7cf53 : CFs yJ9_min_7cf53 cJ9_min_7cf53 2 (some .int) 2 := ⟨cm_J9_min_7cf53, List.mem_of_getElem? (i := 614) (by decide +kernel)⟩
theorem cm_X6_health : CFm yX6_health cX6_health 4 (some .boolean) 2 := ⟨List.mem_of_getElem? (i := 622) (by decide +kernel), List.mem_of_getElem? (i := 93) (by decide +kernel), by decide +kernel⟩
theorem cf_X6_health : CFi yX6_health cX6_health 4 (some .boolean) 2 := ⟨cm_X6_health, List.mem_of_getElem? (i := 620) (by decide +kernel), List.mem_of_getElem? (i := 621) (by decide +kernel)⟩
theorem cm_X6_station : CFm yX6_station cX6_station 3 (some .int) 2 := ⟨List.mem_of_getElem? (i := 629) (by decide +kernel), List.mem_of_getElem? (i := 93) (by decide +kernel), by decide +kernel⟩
theorem cf_X6_station : CFi yX6_station cX6_station 3 (some .int) 2 := ⟨cm_X6_station, List.mem_of_getElem? (i := 627) (by decide +kernel), List.mem_of_getElem? (i := 628) (by decide +kernel)⟩
theorem cm_X4_init : CFm yX4_init cX4_init 3 none 2 := ⟨List.mem_of_getElem? (i := 634) (by decide +kernel), List.mem_of_getElem? (i := 104) (by decide +kernel), by decide +kernel⟩
theorem cf_X4_init : CFc yX4_init cX4_init 3 2 := ⟨cm_X4_init, rfl, List.mem_of_getElem? (i := 633) (by decide +kernel)⟩
theorem cm_X6_listen : CFm yX6_listen cX6_listen 5 (some .int) 2 := ⟨List.mem_of_getElem? (i := 650) (by decide +kernel), List.mem_of_getElem? (i := 93) (by decide +kernel), by decide +kernel⟩
theorem cf_X6_listen : CFi yX6_listen cX6_listen 5 (some .int) 2 := ⟨cm_X6_listen, List.mem_of_getElem? (i := 648) (by decide +kernel), List.mem_of_getElem? (i := 649) (by decide +kernel)⟩
theorem cm_X6_isNoStation : CFm yX6_isNoStation cX6_isNoStation 2 (some .boolean) 1 := ⟨List.mem_of_getElem? (i := 654) (by decide +kernel), List.mem_of_getElem? (i := 93) (by decide +kernel), by decide +kernel⟩
theorem cf_X6_isNoStation : CFi yX6_isNoStation cX6_isNoStation 2 (some .boolean) 1 := ⟨cm_X6_isNoStation, List.mem_of_getElem? (i := 653) (by decide +kernel), List.mem_of_getElem? (i := 43) (by decide +kernel)⟩
theorem cm_X3_takeMessage : CFm yX3_takeMessage cX3_takeMessage 5 none 2 := ⟨List.mem_of_getElem? (i := 660) (by decide +kernel), List.mem_of_getElem? (i := 101) (by decide +kernel), by decide +kernel⟩
theorem cf_X3_takeMessage : CFi yX3_takeMessage cX3_takeMessage 5 none 2 := ⟨cm_X3_takeMessage, List.mem_of_getElem? (i := 659) (by decide +kernel), List.mem_of_getElem? (i := 44) (by decide +kernel)⟩
theorem cm_X6_receiver : CFm yX6_receiver cX6_receiver 4 (some .int) 3 := ⟨List.mem_of_getElem? (i := 667) (by decide +kernel), List.mem_of_getElem? (i := 93) (by decide +kernel), by decide +kernel⟩
theorem cf_X6_receiver : CFi yX6_receiver cX6_receiver 4 (some .int) 3 := ⟨cm_X6_receiver, List.mem_of_getElem? (i := 665) (by decide +kernel), List.mem_of_getElem? (i := 666) (by decide +kernel)⟩
theorem cm_X6_isNoPlace : CFm yX6_isNoPlace cX6_isNoPlace 2 (some .boolean) 2 := ⟨List.mem_of_getElem? (i := 670) (by decide +kernel), List.mem_of_getElem? (i := 93) (by decide +kernel), by decide +kernel⟩
theorem cf_X6_isNoPlace : CFs yX6_isNoPlace cX6_isNoPlace 2 (some .boolean) 2 := ⟨cm_X6_isNoPlace, List.mem_of_getElem? (i := 669) (by decide +kernel)⟩
theorem cm_X0_init : CFm yX0_init cX0_init 6 none 4 := ⟨List.mem_of_getElem? (i := 675) (by decide +kernel), List.mem_of_getElem? (i := 105) (by decide +kernel), by decide +kernel⟩
theorem cf_X0_init : CFc yX0_init cX0_init 6 4 := ⟨cm_X0_init, rfl, List.mem_of_getElem? (i := 674) (by decide +kernel)⟩
theorem cm_X5_init : CFm yX5_init cX5_init 1 none 0 := ⟨List.mem_of_getElem? (i := 680) (by decide +kernel), List.mem_of_getElem? (i := 106) (by decide +kernel), by decide +kernel⟩
theorem cf_X5_init : CFc yX5_init cX5_init 1 0 := ⟨cm_X5_init, rfl, List.mem_of_getElem? (i := 679) (by decide +kernel)⟩
theorem cm_X1_init : CFm yX1_init cX1_init 1 none 0 := ⟨List.mem_of_getElem? (i := 729) (by decide +kernel), List.mem_of_getElem? (i := 107) (by decide +kernel), by decide +kernel⟩
theorem cf_X1_init : CFc yX1_init cX1_init 1 0 := ⟨cm_X1_init, rfl, List.mem_of_getElem? (i := 728) (by decide +kernel)⟩
theorem cm_X6_go : CFm yX6_go cX6_go 6 (some .int) 3 := ⟨List.mem_of_getElem? (i := 828) (by decide +kernel), List.mem_of_getElem? (i := 93) (by decide +kernel), by decide +kernel⟩
theorem cf_X6_go : CFi yX6_go cX6_go 6 (some .int) 3 := ⟨cm_X6_go, List.mem_of_getElem? (i := 826) (by decide +kernel), List.mem_of_getElem? (i := 827) (by decide +kernel)⟩
theorem cm_X6_hills : CFm yX6_hills cX6_hills 5 (some .int) 3 := ⟨List.mem_of_getElem? (i := 838) (by decide +kernel), List.mem_of_getElem? (i := 93) (by decide +kernel), by decide +kernel⟩
theorem cf_X6_hills : CFi yX6_hills cX6_hills 5 (some .int) 3 := ⟨cm_X6_hills, List.mem_of_getElem? (i := 836) (by decide +kernel), List.mem_of_getElem? (i := 837) (by decide +kernel)⟩
theorem cm_X6_air : CFm yX6_air cX6_air 6 (some .int) 3 := ⟨List.mem_of_getElem? (i := 846) (by decide +kernel), List.mem_of_getElem? (i := 93) (by decide +kernel), by decide +kernel⟩
theorem cf_X6_air : CFi yX6_air cX6_air 6 (some .int) 3 := ⟨cm_X6_air, List.mem_of_getElem? (i := 844) (by decide +kernel), List.mem_of_getElem? (i := 845) (by decide +kernel)⟩
theorem cm_X6_alert : CFm yX6_alert cX6_alert 4 (some .int) 2 := ⟨List.mem_of_getElem? (i := 854) (by decide +kernel), List.mem_of_getElem? (i := 93) (by decide +kernel), by decide +kernel⟩
theorem cf_X6_alert : CFi yX6_alert cX6_alert 4 (some .int) 2 := ⟨cm_X6_alert, List.mem_of_getElem? (i := 852) (by decide +kernel), List.mem_of_getElem? (i := 853) (by decide +kernel)⟩
theorem cm_X6_spoof : CFm yX6_spoof cX6_spoof 4 (some .int) 2 := ⟨List.mem_of_getElem? (i := 862) (by decide +kernel), List.mem_of_getElem? (i := 93) (by decide +kernel), by decide +kernel⟩
theorem cf_X6_spoof : CFi yX6_spoof cX6_spoof 4 (some .int) 2 := ⟨cm_X6_spoof, List.mem_of_getElem? (i := 860) (by decide +kernel), List.mem_of_getElem? (i := 861) (by decide +kernel)⟩
theorem cm_X6_refer : CFm yX6_refer cX6_refer 4 (some .int) 2 := ⟨List.mem_of_getElem? (i := 869) (by decide +kernel), List.mem_of_getElem? (i := 93) (by decide +kernel), by decide +kernel⟩
theorem cf_X6_refer : CFi yX6_refer cX6_refer 4 (some .int) 2 := ⟨cm_X6_refer, List.mem_of_getElem? (i := 867) (by decide +kernel), List.mem_of_getElem? (i := 868) (by decide +kernel)⟩
theorem cm_X6_pass : CFm yX6_pass cX6_pass 3 (some .int) 1 := ⟨List.mem_of_getElem? (i := 878) (by decide +kernel), List.mem_of_getElem? (i := 93) (by decide +kernel), by decide +kernel⟩
theorem cf_X6_pass : CFi yX6_pass cX6_pass 3 (some .int) 1 := ⟨cm_X6_pass, List.mem_of_getElem? (i := 876) (by decide +kernel), List.mem_of_getElem? (i := 877) (by decide +kernel)⟩
theorem cm_X6_passOne : CFm yX6_passOne cX6_passOne 2 none 0 := ⟨List.mem_of_getElem? (i := 883) (by decide +kernel), List.mem_of_getElem? (i := 93) (by decide +kernel), by decide +kernel⟩
theorem cf_X6_passOne : CFi yX6_passOne cX6_passOne 2 none 0 := ⟨cm_X6_passOne, List.mem_of_getElem? (i := 882) (by decide +kernel), List.mem_of_getElem? (i := 45) (by decide +kernel)⟩
theorem cm_X3_passOne : CFm yX3_passOne cX3_passOne 1 none 0 := ⟨List.mem_of_getElem? (i := 887) (by decide +kernel), List.mem_of_getElem? (i := 101) (by decide +kernel), by decide +kernel⟩
theorem cf_X3_passOne : CFi yX3_passOne cX3_passOne 1 none 0 := ⟨cm_X3_passOne, List.mem_of_getElem? (i := 886) (by decide +kernel), List.mem_of_getElem? (i := 46) (by decide +kernel)⟩
theorem cm_X6_observe : CFm yX6_observe cX6_observe 4 (some .int) 1 := ⟨List.mem_of_getElem? (i := 896) (by decide +kernel), List.mem_of_getElem? (i := 93) (by decide +kernel), by decide +kernel⟩
theorem cf_X6_observe : CFi yX6_observe cX6_observe 4 (some .int) 1 := ⟨cm_X6_observe, List.mem_of_getElem? (i := 894) (by decide +kernel), List.mem_of_getElem? (i := 895) (by decide +kernel)⟩
theorem cm_X6_measure : CFm yX6_measure cX6_measure 6 none 1 := ⟨List.mem_of_getElem? (i := 902) (by decide +kernel), List.mem_of_getElem? (i := 93) (by decide +kernel), by decide +kernel⟩
theorem cf_X6_measure : CFi yX6_measure cX6_measure 6 none 1 := ⟨cm_X6_measure, List.mem_of_getElem? (i := 901) (by decide +kernel), List.mem_of_getElem? (i := 47) (by decide +kernel)⟩
theorem cm_X1_take : CFm yX1_take cX1_take 5 none 3 := ⟨List.mem_of_getElem? (i := 906) (by decide +kernel), List.mem_of_getElem? (i := 107) (by decide +kernel), by decide +kernel⟩
theorem cf_X1_take : CFi yX1_take cX1_take 5 none 3 := ⟨cm_X1_take, List.mem_of_getElem? (i := 905) (by decide +kernel), List.mem_of_getElem? (i := 48) (by decide +kernel)⟩
theorem cm_X1_forget : CFm yX1_forget cX1_forget 1 none 0 := ⟨List.mem_of_getElem? (i := 910) (by decide +kernel), List.mem_of_getElem? (i := 107) (by decide +kernel), by decide +kernel⟩
theorem cf_X1_forget : CFi yX1_forget cX1_forget 1 none 0 := ⟨cm_X1_forget, List.mem_of_getElem? (i := 909) (by decide +kernel), List.mem_of_getElem? (i := 49) (by decide +kernel)⟩
theorem cm_X1_lose : CFm yX1_lose cX1_lose 1 none 0 := ⟨List.mem_of_getElem? (i := 916) (by decide +kernel), List.mem_of_getElem? (i := 107) (by decide +kernel), by decide +kernel⟩
theorem cf_X1_lose : CFi yX1_lose cX1_lose 1 none 0 := ⟨cm_X1_lose, List.mem_of_getElem? (i := 915) (by decide +kernel), List.mem_of_getElem? (i := 50) (by decide +kernel)⟩
theorem cm_X6_gatherMeasured : CFm yX6_gatherMeasured cX6_gatherMeasured 4 none 1 := ⟨List.mem_of_getElem? (i := 920) (by decide +kernel), List.mem_of_getElem? (i := 93) (by decide +kernel), by decide +kernel⟩
theorem cf_X6_gatherMeasured : CFi yX6_gatherMeasured cX6_gatherMeasured 4 none 1 := ⟨cm_X6_gatherMeasured, List.mem_of_getElem? (i := 919) (by decide +kernel), List.mem_of_getElem? (i := 51) (by decide +kernel)⟩
theorem cm_X1_measured : CFm yX1_measured cX1_measured 1 (some .int) 0 := ⟨List.mem_of_getElem? (i := 924) (by decide +kernel), List.mem_of_getElem? (i := 107) (by decide +kernel), by decide +kernel⟩
theorem cf_X1_measured : CFi yX1_measured cX1_measured 1 (some .int) 0 := ⟨cm_X1_measured, List.mem_of_getElem? (i := 923) (by decide +kernel), List.mem_of_getElem? (i := 52) (by decide +kernel)⟩
theorem cm_X6_offerCorrections : CFm yX6_offerCorrections cX6_offerCorrections 6 none 1 := ⟨List.mem_of_getElem? (i := 928) (by decide +kernel), List.mem_of_getElem? (i := 93) (by decide +kernel), by decide +kernel⟩
theorem cf_X6_offerCorrections : CFi yX6_offerCorrections cX6_offerCorrections 6 none 1 := ⟨cm_X6_offerCorrections, List.mem_of_getElem? (i := 927) (by decide +kernel), List.mem_of_getElem? (i := 53) (by decide +kernel)⟩
theorem cm_X6_tooFar : CFm yX6_tooFar cX6_tooFar 5 (some .int) 3 := ⟨List.mem_of_getElem? (i := 932) (by decide +kernel), List.mem_of_getElem? (i := 93) (by decide +kernel), by decide +kernel⟩
theorem cf_X6_tooFar : CFi yX6_tooFar cX6_tooFar 5 (some .int) 3 := ⟨cm_X6_tooFar, List.mem_of_getElem? (i := 931) (by decide +kernel), List.mem_of_getElem? (i := 54) (by decide +kernel)⟩
theorem cm_X5_keepAll : CFm yX5_keepAll cX5_keepAll 6 none 5 := ⟨List.mem_of_getElem? (i := 937) (by decide +kernel), List.mem_of_getElem? (i := 106) (by decide +kernel), by decide +kernel⟩
theorem cf_X5_keepAll : CFi yX5_keepAll cX5_keepAll 6 none 5 := ⟨cm_X5_keepAll, List.mem_of_getElem? (i := 936) (by decide +kernel), List.mem_of_getElem? (i := 55) (by decide +kernel)⟩
theorem cm_X5_keepSolution : CFm yX5_keepSolution cX5_keepSolution 5 none 3 := ⟨List.mem_of_getElem? (i := 942) (by decide +kernel), List.mem_of_getElem? (i := 106) (by decide +kernel), by decide +kernel⟩
theorem cf_X5_keepSolution : CFi yX5_keepSolution cX5_keepSolution 5 none 3 := ⟨cm_X5_keepSolution, List.mem_of_getElem? (i := 941) (by decide +kernel), List.mem_of_getElem? (i := 56) (by decide +kernel)⟩
theorem cm_X6_ofStar : CFm yX6_ofStar cX6_ofStar 3 (some .int) 2 := ⟨List.mem_of_getElem? (i := 950) (by decide +kernel), List.mem_of_getElem? (i := 93) (by decide +kernel), by decide +kernel⟩
theorem cf_X6_ofStar : CFi yX6_ofStar cX6_ofStar 3 (some .int) 2 := ⟨cm_X6_ofStar, List.mem_of_getElem? (i := 948) (by decide +kernel), List.mem_of_getElem? (i := 949) (by decide +kernel)⟩
theorem cm_X6_message : CFm yX6_message cX6_message 3 (some .int) 2 := ⟨List.mem_of_getElem? (i := 958) (by decide +kernel), List.mem_of_getElem? (i := 93) (by decide +kernel), by decide +kernel⟩
theorem cf_X6_message : CFi yX6_message cX6_message 3 (some .int) 2 := ⟨cm_X6_message, List.mem_of_getElem? (i := 956) (by decide +kernel), List.mem_of_getElem? (i := 957) (by decide +kernel)⟩
theorem cm_X6_seen : CFm yX6_seen cX6_seen 4 (some .int) 3 := ⟨List.mem_of_getElem? (i := 965) (by decide +kernel), List.mem_of_getElem? (i := 93) (by decide +kernel), by decide +kernel⟩
theorem cf_X6_seen : CFi yX6_seen cX6_seen 4 (some .int) 3 := ⟨cm_X6_seen, List.mem_of_getElem? (i := 963) (by decide +kernel), List.mem_of_getElem? (i := 964) (by decide +kernel)⟩
theorem cm_X6_ofReceiver : CFm yX6_ofReceiver cX6_ofReceiver 3 (some .int) 2 := ⟨List.mem_of_getElem? (i := 973) (by decide +kernel), List.mem_of_getElem? (i := 93) (by decide +kernel), by decide +kernel⟩
theorem cf_X6_ofReceiver : CFi yX6_ofReceiver cX6_ofReceiver 3 (some .int) 2 := ⟨cm_X6_ofReceiver, List.mem_of_getElem? (i := 971) (by decide +kernel), List.mem_of_getElem? (i := 972) (by decide +kernel)⟩
theorem cm_X6_many : CFm yX6_many cX6_many 2 (some .int) 1 := ⟨List.mem_of_getElem? (i := 980) (by decide +kernel), List.mem_of_getElem? (i := 93) (by decide +kernel), by decide +kernel⟩
theorem cf_X6_many : CFi yX6_many cX6_many 2 (some .int) 1 := ⟨cm_X6_many, List.mem_of_getElem? (i := 978) (by decide +kernel), List.mem_of_getElem? (i := 979) (by decide +kernel)⟩
theorem cm_X6_meanError : CFm yX6_meanError cX6_meanError 2 (some .double) 1 := ⟨List.mem_of_getElem? (i := 987) (by decide +kernel), List.mem_of_getElem? (i := 93) (by decide +kernel), by decide +kernel⟩
theorem cf_X6_meanError : CFi yX6_meanError cX6_meanError 2 (some .double) 1 := ⟨cm_X6_meanError, List.mem_of_getElem? (i := 985) (by decide +kernel), List.mem_of_getElem? (i := 986) (by decide +kernel)⟩
theorem cm_X5_meanOfErrors : CFm yX5_meanOfErrors cX5_meanOfErrors 1 (some .double) 0 := ⟨List.mem_of_getElem? (i := 991) (by decide +kernel), List.mem_of_getElem? (i := 106) (by decide +kernel), by decide +kernel⟩
theorem cf_X5_meanOfErrors : CFi yX5_meanOfErrors cX5_meanOfErrors 1 (some .double) 0 := ⟨cm_X5_meanOfErrors, List.mem_of_getElem? (i := 990) (by decide +kernel), List.mem_of_getElem? (i := 57) (by decide +kernel)⟩
theorem cm_X6_wouldSee : CFm yX6_wouldSee cX6_wouldSee 3 (some .int) 2 := ⟨List.mem_of_getElem? (i := 998) (by decide +kernel), List.mem_of_getElem? (i := 93) (by decide +kernel), by decide +kernel⟩
theorem cf_X6_wouldSee : CFi yX6_wouldSee cX6_wouldSee 3 (some .int) 2 := ⟨cm_X6_wouldSee, List.mem_of_getElem? (i := 996) (by decide +kernel), List.mem_of_getElem? (i := 997) (by decide +kernel)⟩
theorem cm_X6_heardIn : CFm yX6_heardIn cX6_heardIn 3 (some .int) 2 := ⟨List.mem_of_getElem? (i := 1005) (by decide +kernel), List.mem_of_getElem? (i := 93) (by decide +kernel), by decide +kernel⟩
theorem cf_X6_heardIn : CFi yX6_heardIn cX6_heardIn 3 (some .int) 2 := ⟨cm_X6_heardIn, List.mem_of_getElem? (i := 1003) (by decide +kernel), List.mem_of_getElem? (i := 1004) (by decide +kernel)⟩
theorem cm_X6_without : CFm yX6_without cX6_without 3 (some .int) 2 := ⟨List.mem_of_getElem? (i := 1013) (by decide +kernel), List.mem_of_getElem? (i := 93) (by decide +kernel), by decide +kernel⟩
theorem cf_X6_without : CFi yX6_without cX6_without 3 (some .int) 2 := ⟨cm_X6_without, List.mem_of_getElem? (i := 1011) (by decide +kernel), List.mem_of_getElem? (i := 1012) (by decide +kernel)⟩
theorem cm_X6_wouldAlarm : CFm yX6_wouldAlarm cX6_wouldAlarm 2 (some .int) 1 := ⟨List.mem_of_getElem? (i := 1021) (by decide +kernel), List.mem_of_getElem? (i := 93) (by decide +kernel), by decide +kernel⟩
theorem cf_X6_wouldAlarm : CFi yX6_wouldAlarm cX6_wouldAlarm 2 (some .int) 1 := ⟨cm_X6_wouldAlarm, List.mem_of_getElem? (i := 1019) (by decide +kernel), List.mem_of_getElem? (i := 1020) (by decide +kernel)⟩
theorem cm_X7_init : CFm yX7_init cX7_init 1 none 0 := ⟨List.mem_of_getElem? (i := 1026) (by decide +kernel), List.mem_of_getElem? (i := 95) (by decide +kernel), by decide +kernel⟩
theorem cf_X7_init : CFc yX7_init cX7_init 1 0 := ⟨cm_X7_init, rfl, List.mem_of_getElem? (i := 1025) (by decide +kernel)⟩
theorem cm_X7_thrown : CFm yX7_thrown cX7_thrown 1 (some .int) 0 := ⟨List.mem_of_getElem? (i := 1096) (by decide +kernel), List.mem_of_getElem? (i := 95) (by decide +kernel), by decide +kernel⟩
theorem cf_X7_thrown : CFi yX7_thrown cX7_thrown 1 (some .int) 0 := ⟨cm_X7_thrown, List.mem_of_getElem? (i := 1094) (by decide +kernel), List.mem_of_getElem? (i := 1095) (by decide +kernel)⟩
theorem cm_X7_star : CFm yX7_star cX7_star 7 (some .int) 5 := ⟨List.mem_of_getElem? (i := 1100) (by decide +kernel), List.mem_of_getElem? (i := 95) (by decide +kernel), by decide +kernel⟩
theorem cf_X7_star : CFi yX7_star cX7_star 7 (some .int) 5 := ⟨cm_X7_star, List.mem_of_getElem? (i := 1098) (by decide +kernel), List.mem_of_getElem? (i := 1099) (by decide +kernel)⟩
theorem cm_X7_is : CFm yX7_is cX7_is 3 (some .boolean) 3 := ⟨List.mem_of_getElem? (i := 1103) (by decide +kernel), List.mem_of_getElem? (i := 95) (by decide +kernel), by decide +kernel⟩
theorem cf_X7_is : CFs yX7_is cX7_is 3 (some .boolean) 3 := ⟨cm_X7_is, List.mem_of_getElem? (i := 1102) (by decide +kernel)⟩
theorem cm_X7_refuse : CFm yX7_refuse cX7_refuse 2 (some .int) 1 := ⟨List.mem_of_getElem? (i := 1107) (by decide +kernel), List.mem_of_getElem? (i := 95) (by decide +kernel), by decide +kernel⟩
theorem cf_X7_refuse : CFi yX7_refuse cX7_refuse 2 (some .int) 1 := ⟨cm_X7_refuse, List.mem_of_getElem? (i := 1106) (by decide +kernel), List.mem_of_getElem? (i := 58) (by decide +kernel)⟩
theorem cm_X7_push : CFm yX7_push cX7_push 3 (some .int) 2 := ⟨List.mem_of_getElem? (i := 1111) (by decide +kernel), List.mem_of_getElem? (i := 95) (by decide +kernel), by decide +kernel⟩
theorem cf_X7_push : CFi yX7_push cX7_push 3 (some .int) 2 := ⟨cm_X7_push, List.mem_of_getElem? (i := 1109) (by decide +kernel), List.mem_of_getElem? (i := 1110) (by decide +kernel)⟩
theorem cm_X7_isStar : CFm yX7_isStar cX7_isStar 2 (some .boolean) 1 := ⟨List.mem_of_getElem? (i := 1115) (by decide +kernel), List.mem_of_getElem? (i := 95) (by decide +kernel), by decide +kernel⟩
theorem cf_X7_isStar : CFi yX7_isStar cX7_isStar 2 (some .boolean) 1 := ⟨cm_X7_isStar, List.mem_of_getElem? (i := 1114) (by decide +kernel), List.mem_of_getElem? (i := 59) (by decide +kernel)⟩
theorem cm_X7_jump : CFm yX7_jump cX7_jump 4 (some .int) 3 := ⟨List.mem_of_getElem? (i := 1120) (by decide +kernel), List.mem_of_getElem? (i := 95) (by decide +kernel), by decide +kernel⟩
theorem cf_X7_jump : CFi yX7_jump cX7_jump 4 (some .int) 3 := ⟨cm_X7_jump, List.mem_of_getElem? (i := 1118) (by decide +kernel), List.mem_of_getElem? (i := 1119) (by decide +kernel)⟩
theorem cm_X7_held : CFm yX7_held cX7_held 2 (some .int) 2 := ⟨List.mem_of_getElem? (i := 1123) (by decide +kernel), List.mem_of_getElem? (i := 95) (by decide +kernel), by decide +kernel⟩
theorem cf_X7_held : CFs yX7_held cX7_held 2 (some .int) 2 := ⟨cm_X7_held, List.mem_of_getElem? (i := 1122) (by decide +kernel)⟩
theorem cm_X7_health : CFm yX7_health cX7_health 4 (some .boolean) 2 := ⟨List.mem_of_getElem? (i := 1129) (by decide +kernel), List.mem_of_getElem? (i := 95) (by decide +kernel), by decide +kernel⟩
theorem cf_X7_health : CFi yX7_health cX7_health 4 (some .boolean) 2 := ⟨cm_X7_health, List.mem_of_getElem? (i := 1127) (by decide +kernel), List.mem_of_getElem? (i := 1128) (by decide +kernel)⟩
theorem cm_X7_station : CFm yX7_station cX7_station 3 (some .int) 2 := ⟨List.mem_of_getElem? (i := 1133) (by decide +kernel), List.mem_of_getElem? (i := 95) (by decide +kernel), by decide +kernel⟩
theorem cf_X7_station : CFi yX7_station cX7_station 3 (some .int) 2 := ⟨cm_X7_station, List.mem_of_getElem? (i := 1131) (by decide +kernel), List.mem_of_getElem? (i := 1132) (by decide +kernel)⟩
theorem cm_X7_listen : CFm yX7_listen cX7_listen 5 (some .int) 2 := ⟨List.mem_of_getElem? (i := 1137) (by decide +kernel), List.mem_of_getElem? (i := 95) (by decide +kernel), by decide +kernel⟩
theorem cf_X7_listen : CFi yX7_listen cX7_listen 5 (some .int) 2 := ⟨cm_X7_listen, List.mem_of_getElem? (i := 1135) (by decide +kernel), List.mem_of_getElem? (i := 1136) (by decide +kernel)⟩
theorem cm_X7_isStation : CFm yX7_isStation cX7_isStation 2 (some .boolean) 1 := ⟨List.mem_of_getElem? (i := 1141) (by decide +kernel), List.mem_of_getElem? (i := 95) (by decide +kernel), by decide +kernel⟩
theorem cf_X7_isStation : CFi yX7_isStation cX7_isStation 2 (some .boolean) 1 := ⟨cm_X7_isStation, List.mem_of_getElem? (i := 1140) (by decide +kernel), List.mem_of_getElem? (i := 60) (by decide +kernel)⟩
theorem cm_X7_isHeard : CFm yX7_isHeard cX7_isHeard 5 (some .boolean) 3 := ⟨List.mem_of_getElem? (i := 1145) (by decide +kernel), List.mem_of_getElem? (i := 95) (by decide +kernel), by decide +kernel⟩
theorem cf_X7_isHeard : CFi yX7_isHeard cX7_isHeard 5 (some .boolean) 3 := ⟨cm_X7_isHeard, List.mem_of_getElem? (i := 1144) (by decide +kernel), List.mem_of_getElem? (i := 61) (by decide +kernel)⟩
theorem cm_X7_phaseIn : CFm yX7_phaseIn cX7_phaseIn 3 (some .int) 2 := ⟨List.mem_of_getElem? (i := 1149) (by decide +kernel), List.mem_of_getElem? (i := 95) (by decide +kernel), by decide +kernel⟩
theorem cf_X7_phaseIn : CFi yX7_phaseIn cX7_phaseIn 3 (some .int) 2 := ⟨cm_X7_phaseIn, List.mem_of_getElem? (i := 1148) (by decide +kernel), List.mem_of_getElem? (i := 62) (by decide +kernel)⟩
theorem cm_X7_yAt : CFm yX7_yAt cX7_yAt 3 (some .int) 2 := ⟨List.mem_of_getElem? (i := 1153) (by decide +kernel), List.mem_of_getElem? (i := 95) (by decide +kernel), by decide +kernel⟩
theorem cf_X7_yAt : CFi yX7_yAt cX7_yAt 3 (some .int) 2 := ⟨cm_X7_yAt, List.mem_of_getElem? (i := 1152) (by decide +kernel), List.mem_of_getElem? (i := 63) (by decide +kernel)⟩
theorem cm_X7_tOf : CFm yX7_tOf cX7_tOf 2 (some .int) 1 := ⟨List.mem_of_getElem? (i := 1156) (by decide +kernel), List.mem_of_getElem? (i := 95) (by decide +kernel), by decide +kernel⟩
theorem cf_X7_tOf : CFs yX7_tOf cX7_tOf 2 (some .int) 1 := ⟨cm_X7_tOf, List.mem_of_getElem? (i := 1155) (by decide +kernel)⟩
theorem cm_X7_xAt : CFm yX7_xAt cX7_xAt 3 (some .int) 2 := ⟨List.mem_of_getElem? (i := 1160) (by decide +kernel), List.mem_of_getElem? (i := 95) (by decide +kernel), by decide +kernel⟩
theorem cf_X7_xAt : CFi yX7_xAt cX7_xAt 3 (some .int) 2 := ⟨cm_X7_xAt, List.mem_of_getElem? (i := 1159) (by decide +kernel), List.mem_of_getElem? (i := 64) (by decide +kernel)⟩
theorem cm_X7_since : CFm yX7_since cX7_since 2 (some .int) 1 := ⟨List.mem_of_getElem? (i := 1165) (by decide +kernel), List.mem_of_getElem? (i := 95) (by decide +kernel), by decide +kernel⟩
theorem cf_X7_since : CFi yX7_since cX7_since 2 (some .int) 1 := ⟨cm_X7_since, List.mem_of_getElem? (i := 1164) (by decide +kernel), List.mem_of_getElem? (i := 65) (by decide +kernel)⟩
theorem cm_X7_receiver : CFm yX7_receiver cX7_receiver 5 (some .int) 3 := ⟨List.mem_of_getElem? (i := 1169) (by decide +kernel), List.mem_of_getElem? (i := 95) (by decide +kernel), by decide +kernel⟩
theorem cf_X7_receiver : CFi yX7_receiver cX7_receiver 5 (some .int) 3 := ⟨cm_X7_receiver, List.mem_of_getElem? (i := 1167) (by decide +kernel), List.mem_of_getElem? (i := 1168) (by decide +kernel)⟩
theorem cm_X7_isPlace : CFm yX7_isPlace cX7_isPlace 2 (some .boolean) 2 := ⟨List.mem_of_getElem? (i := 1172) (by decide +kernel), List.mem_of_getElem? (i := 95) (by decide +kernel), by decide +kernel⟩
theorem cf_X7_isPlace : CFs yX7_isPlace cX7_isPlace 2 (some .boolean) 2 := ⟨cm_X7_isPlace, List.mem_of_getElem? (i := 1171) (by decide +kernel)⟩
theorem cm_X7_go : CFm yX7_go cX7_go 6 (some .int) 3 := ⟨List.mem_of_getElem? (i := 1176) (by decide +kernel), List.mem_of_getElem? (i := 95) (by decide +kernel), by decide +kernel⟩
theorem cf_X7_go : CFi yX7_go cX7_go 6 (some .int) 3 := ⟨cm_X7_go, List.mem_of_getElem? (i := 1174) (by decide +kernel), List.mem_of_getElem? (i := 1175) (by decide +kernel)⟩
theorem cm_X7_isReceiver : CFm yX7_isReceiver cX7_isReceiver 2 (some .boolean) 1 := ⟨List.mem_of_getElem? (i := 1180) (by decide +kernel), List.mem_of_getElem? (i := 95) (by decide +kernel), by decide +kernel⟩
theorem cf_X7_isReceiver : CFi yX7_isReceiver cX7_isReceiver 2 (some .boolean) 1 := ⟨cm_X7_isReceiver, List.mem_of_getElem? (i := 1179) (by decide +kernel), List.mem_of_getElem? (i := 66) (by decide +kernel)⟩
theorem cm_X7_range : CFm yX7_range cX7_range 4 (some .int) 4 := ⟨List.mem_of_getElem? (i := 1183) (by decide +kernel), List.mem_of_getElem? (i := 95) (by decide +kernel), by decide +kernel⟩
theorem cf_X7_range : CFs yX7_range cX7_range 4 (some .int) 4 := ⟨cm_X7_range, List.mem_of_getElem? (i := 1182) (by decide +kernel)⟩
theorem cm_X7_hills : CFm yX7_hills cX7_hills 4 (some .int) 3 := ⟨List.mem_of_getElem? (i := 1187) (by decide +kernel), List.mem_of_getElem? (i := 95) (by decide +kernel), by decide +kernel⟩
theorem cf_X7_hills : CFi yX7_hills cX7_hills 4 (some .int) 3 := ⟨cm_X7_hills, List.mem_of_getElem? (i := 1185) (by decide +kernel), List.mem_of_getElem? (i := 1186) (by decide +kernel)⟩
theorem cm_X7_setSeen : CFm yX7_setSeen cX7_setSeen 5 (some .int) 2 := ⟨List.mem_of_getElem? (i := 1191) (by decide +kernel), List.mem_of_getElem? (i := 95) (by decide +kernel), by decide +kernel⟩
theorem cf_X7_setSeen : CFi yX7_setSeen cX7_setSeen 5 (some .int) 2 := ⟨cm_X7_setSeen, List.mem_of_getElem? (i := 1190) (by decide +kernel), List.mem_of_getElem? (i := 67) (by decide +kernel)⟩
theorem cm_X7_sees : CFm yX7_sees cX7_sees 7 (some .boolean) 3 := ⟨List.mem_of_getElem? (i := 1195) (by decide +kernel), List.mem_of_getElem? (i := 95) (by decide +kernel), by decide +kernel⟩
theorem cf_X7_sees : CFi yX7_sees cX7_sees 7 (some .boolean) 3 := ⟨cm_X7_sees, List.mem_of_getElem? (i := 1194) (by decide +kernel), List.mem_of_getElem? (i := 68) (by decide +kernel)⟩
theorem cm_X7_air : CFm yX7_air cX7_air 4 (some .int) 3 := ⟨List.mem_of_getElem? (i := 1200) (by decide +kernel), List.mem_of_getElem? (i := 95) (by decide +kernel), by decide +kernel⟩
theorem cf_X7_air : CFi yX7_air cX7_air 4 (some .int) 3 := ⟨cm_X7_air, List.mem_of_getElem? (i := 1198) (by decide +kernel), List.mem_of_getElem? (i := 1199) (by decide +kernel)⟩
theorem cm_X7_change : CFm yX7_change cX7_change 5 (some .int) 3 := ⟨List.mem_of_getElem? (i := 1204) (by decide +kernel), List.mem_of_getElem? (i := 95) (by decide +kernel), by decide +kernel⟩
theorem cf_X7_change : CFi yX7_change cX7_change 5 (some .int) 3 := ⟨cm_X7_change, List.mem_of_getElem? (i := 1203) (by decide +kernel), List.mem_of_getElem? (i := 69) (by decide +kernel)⟩
theorem cm_X7_alert : CFm yX7_alert cX7_alert 3 (some .int) 2 := ⟨List.mem_of_getElem? (i := 1208) (by decide +kernel), List.mem_of_getElem? (i := 95) (by decide +kernel), by decide +kernel⟩
theorem cf_X7_alert : CFi yX7_alert cX7_alert 3 (some .int) 2 := ⟨cm_X7_alert, List.mem_of_getElem? (i := 1206) (by decide +kernel), List.mem_of_getElem? (i := 1207) (by decide +kernel)⟩
theorem cm_X7_spoof : CFm yX7_spoof cX7_spoof 3 (some .int) 2 := ⟨List.mem_of_getElem? (i := 1212) (by decide +kernel), List.mem_of_getElem? (i := 95) (by decide +kernel), by decide +kernel⟩
theorem cf_X7_spoof : CFi yX7_spoof cX7_spoof 3 (some .int) 2 := ⟨cm_X7_spoof, List.mem_of_getElem? (i := 1210) (by decide +kernel), List.mem_of_getElem? (i := 1211) (by decide +kernel)⟩
theorem cm_X7_refer : CFm yX7_refer cX7_refer 3 (some .int) 2 := ⟨List.mem_of_getElem? (i := 1216) (by decide +kernel), List.mem_of_getElem? (i := 95) (by decide +kernel), by decide +kernel⟩
theorem cf_X7_refer : CFi yX7_refer cX7_refer 3 (some .int) 2 := ⟨cm_X7_refer, List.mem_of_getElem? (i := 1214) (by decide +kernel), List.mem_of_getElem? (i := 1215) (by decide +kernel)⟩
theorem cm_X7_pass : CFm yX7_pass cX7_pass 5 (some .int) 1 := ⟨List.mem_of_getElem? (i := 1220) (by decide +kernel), List.mem_of_getElem? (i := 95) (by decide +kernel), by decide +kernel⟩
theorem cf_X7_pass : CFi yX7_pass cX7_pass 5 (some .int) 1 := ⟨cm_X7_pass, List.mem_of_getElem? (i := 1218) (by decide +kernel), List.mem_of_getElem? (i := 1219) (by decide +kernel)⟩
theorem cm_X7_observe : CFm yX7_observe cX7_observe 10 (some .int) 1 := ⟨List.mem_of_getElem? (i := 1224) (by decide +kernel), List.mem_of_getElem? (i := 95) (by decide +kernel), by decide +kernel⟩
theorem cf_X7_observe : CFi yX7_observe cX7_observe 10 (some .int) 1 := ⟨cm_X7_observe, List.mem_of_getElem? (i := 1222) (by decide +kernel), List.mem_of_getElem? (i := 1223) (by decide +kernel)⟩
theorem cm_X7_see : CFm yX7_see cX7_see 6 none 3 := ⟨List.mem_of_getElem? (i := 1228) (by decide +kernel), List.mem_of_getElem? (i := 95) (by decide +kernel), by decide +kernel⟩
theorem cf_X7_see : CFi yX7_see cX7_see 6 none 3 := ⟨cm_X7_see, List.mem_of_getElem? (i := 1227) (by decide +kernel), List.mem_of_getElem? (i := 70) (by decide +kernel)⟩
theorem cm_X7_codeOf : CFm yX7_codeOf cX7_codeOf 7 (some .int) 2 := ⟨List.mem_of_getElem? (i := 1232) (by decide +kernel), List.mem_of_getElem? (i := 95) (by decide +kernel), by decide +kernel⟩
theorem cf_X7_codeOf : CFi yX7_codeOf cX7_codeOf 7 (some .int) 2 := ⟨cm_X7_codeOf, List.mem_of_getElem? (i := 1231) (by decide +kernel), List.mem_of_getElem? (i := 71) (by decide +kernel)⟩
theorem cm_X7_trueOf : CFm yX7_trueOf cX7_trueOf 6 (some .int) 2 := ⟨List.mem_of_getElem? (i := 1236) (by decide +kernel), List.mem_of_getElem? (i := 95) (by decide +kernel), by decide +kernel⟩
theorem cf_X7_trueOf : CFi yX7_trueOf cX7_trueOf 6 (some .int) 2 := ⟨cm_X7_trueOf, List.mem_of_getElem? (i := 1235) (by decide +kernel), List.mem_of_getElem? (i := 72) (by decide +kernel)⟩
theorem cm_X7_lay : CFm yX7_lay cX7_lay 8 (some .int) 3 := ⟨List.mem_of_getElem? (i := 1241) (by decide +kernel), List.mem_of_getElem? (i := 95) (by decide +kernel), by decide +kernel⟩
theorem cf_X7_lay : CFi yX7_lay cX7_lay 8 (some .int) 3 := ⟨cm_X7_lay, List.mem_of_getElem? (i := 1240) (by decide +kernel), List.mem_of_getElem? (i := 73) (by decide +kernel)⟩
theorem cm_X7_holds : CFm yX7_holds cX7_holds 2 (some .boolean) 1 := ⟨List.mem_of_getElem? (i := 1245) (by decide +kernel), List.mem_of_getElem? (i := 95) (by decide +kernel), by decide +kernel⟩
theorem cf_X7_holds : CFi yX7_holds cX7_holds 2 (some .boolean) 1 := ⟨cm_X7_holds, List.mem_of_getElem? (i := 1244) (by decide +kernel), List.mem_of_getElem? (i := 74) (by decide +kernel)⟩
theorem cm_X7_toldPhase : CFm yX7_toldPhase cX7_toldPhase 2 (some .int) 1 := ⟨List.mem_of_getElem? (i := 1249) (by decide +kernel), List.mem_of_getElem? (i := 95) (by decide +kernel), by decide +kernel⟩
theorem cf_X7_toldPhase : CFi yX7_toldPhase cX7_toldPhase 2 (some .int) 1 := ⟨cm_X7_toldPhase, List.mem_of_getElem? (i := 1248) (by decide +kernel), List.mem_of_getElem? (i := 75) (by decide +kernel)⟩
theorem cm_X7_toldOffset : CFm yX7_toldOffset cX7_toldOffset 2 (some .int) 1 := ⟨List.mem_of_getElem? (i := 1253) (by decide +kernel), List.mem_of_getElem? (i := 95) (by decide +kernel), by decide +kernel⟩
theorem cf_X7_toldOffset : CFi yX7_toldOffset cX7_toldOffset 2 (some .int) 1 := ⟨cm_X7_toldOffset, List.mem_of_getElem? (i := 1252) (by decide +kernel), List.mem_of_getElem? (i := 76) (by decide +kernel)⟩
theorem cm_X7_correction : CFm yX7_correction cX7_correction 8 (some .int) 2 := ⟨List.mem_of_getElem? (i := 1257) (by decide +kernel), List.mem_of_getElem? (i := 95) (by decide +kernel), by decide +kernel⟩
theorem cf_X7_correction : CFi yX7_correction cX7_correction 8 (some .int) 2 := ⟨cm_X7_correction, List.mem_of_getElem? (i := 1256) (by decide +kernel), List.mem_of_getElem? (i := 77) (by decide +kernel)⟩
theorem cm_X7_place : CFm yX7_place cX7_place 8 none 5 := ⟨List.mem_of_getElem? (i := 1261) (by decide +kernel), List.mem_of_getElem? (i := 95) (by decide +kernel), by decide +kernel⟩
theorem cf_X7_place : CFi yX7_place cX7_place 8 none 5 := ⟨cm_X7_place, List.mem_of_getElem? (i := 1260) (by decide +kernel), List.mem_of_getElem? (i := 78) (by decide +kernel)⟩
theorem cm_X7_solve : CFm yX7_solve cX7_solve 3 none 0 := ⟨List.mem_of_getElem? (i := 1265) (by decide +kernel), List.mem_of_getElem? (i := 95) (by decide +kernel), by decide +kernel⟩
theorem cf_X7_solve : CFi yX7_solve cX7_solve 3 none 0 := ⟨cm_X7_solve, List.mem_of_getElem? (i := 1264) (by decide +kernel), List.mem_of_getElem? (i := 79) (by decide +kernel)⟩
theorem cm_X7_look : CFm yX7_look cX7_look 11 none 2 := ⟨List.mem_of_getElem? (i := 1270) (by decide +kernel), List.mem_of_getElem? (i := 95) (by decide +kernel), by decide +kernel⟩
theorem cf_X7_look : CFi yX7_look cX7_look 11 none 2 := ⟨cm_X7_look, List.mem_of_getElem? (i := 1269) (by decide +kernel), List.mem_of_getElem? (i := 80) (by decide +kernel)⟩
theorem cm_X7_over : CFm yX7_over cX7_over 4 (some .int) 3 := ⟨List.mem_of_getElem? (i := 1274) (by decide +kernel), List.mem_of_getElem? (i := 95) (by decide +kernel), by decide +kernel⟩
theorem cf_X7_over : CFi yX7_over cX7_over 4 (some .int) 3 := ⟨cm_X7_over, List.mem_of_getElem? (i := 1273) (by decide +kernel), List.mem_of_getElem? (i := 81) (by decide +kernel)⟩
theorem cm_X7_level : CFm yX7_level cX7_level 10 (some .int) 1 := ⟨List.mem_of_getElem? (i := 1278) (by decide +kernel), List.mem_of_getElem? (i := 95) (by decide +kernel), by decide +kernel⟩
theorem cf_X7_level : CFi yX7_level cX7_level 10 (some .int) 1 := ⟨cm_X7_level, List.mem_of_getElem? (i := 1277) (by decide +kernel), List.mem_of_getElem? (i := 82) (by decide +kernel)⟩
theorem cm_X7_alarm : CFm yX7_alarm cX7_alarm 4 (some .int) 3 := ⟨List.mem_of_getElem? (i := 1282) (by decide +kernel), List.mem_of_getElem? (i := 95) (by decide +kernel), by decide +kernel⟩
theorem cf_X7_alarm : CFi yX7_alarm cX7_alarm 4 (some .int) 3 := ⟨cm_X7_alarm, List.mem_of_getElem? (i := 1281) (by decide +kernel), List.mem_of_getElem? (i := 83) (by decide +kernel)⟩
theorem cm_X7_ofStar : CFm yX7_ofStar cX7_ofStar 3 (some .int) 2 := ⟨List.mem_of_getElem? (i := 1287) (by decide +kernel), List.mem_of_getElem? (i := 95) (by decide +kernel), by decide +kernel⟩
theorem cf_X7_ofStar : CFi yX7_ofStar cX7_ofStar 3 (some .int) 2 := ⟨cm_X7_ofStar, List.mem_of_getElem? (i := 1285) (by decide +kernel), List.mem_of_getElem? (i := 1286) (by decide +kernel)⟩
theorem cm_X7_ofStarNow : CFm yX7_ofStarNow cX7_ofStarNow 4 (some .int) 2 := ⟨List.mem_of_getElem? (i := 1291) (by decide +kernel), List.mem_of_getElem? (i := 95) (by decide +kernel), by decide +kernel⟩
theorem cf_X7_ofStarNow : CFi yX7_ofStarNow cX7_ofStarNow 4 (some .int) 2 := ⟨cm_X7_ofStarNow, List.mem_of_getElem? (i := 1290) (by decide +kernel), List.mem_of_getElem? (i := 84) (by decide +kernel)⟩
theorem cm_X7_message : CFm yX7_message cX7_message 3 (some .int) 2 := ⟨List.mem_of_getElem? (i := 1295) (by decide +kernel), List.mem_of_getElem? (i := 95) (by decide +kernel), by decide +kernel⟩
theorem cf_X7_message : CFi yX7_message cX7_message 3 (some .int) 2 := ⟨cm_X7_message, List.mem_of_getElem? (i := 1293) (by decide +kernel), List.mem_of_getElem? (i := 1294) (by decide +kernel)⟩
theorem cm_X7_messageNow : CFm yX7_messageNow cX7_messageNow 4 (some .int) 2 := ⟨List.mem_of_getElem? (i := 1299) (by decide +kernel), List.mem_of_getElem? (i := 95) (by decide +kernel), by decide +kernel⟩
theorem cf_X7_messageNow : CFi yX7_messageNow cX7_messageNow 4 (some .int) 2 := ⟨cm_X7_messageNow, List.mem_of_getElem? (i := 1298) (by decide +kernel), List.mem_of_getElem? (i := 85) (by decide +kernel)⟩
theorem cm_X7_seen : CFm yX7_seen cX7_seen 4 (some .int) 3 := ⟨List.mem_of_getElem? (i := 1303) (by decide +kernel), List.mem_of_getElem? (i := 95) (by decide +kernel), by decide +kernel⟩
theorem cf_X7_seen : CFi yX7_seen cX7_seen 4 (some .int) 3 := ⟨cm_X7_seen, List.mem_of_getElem? (i := 1301) (by decide +kernel), List.mem_of_getElem? (i := 1302) (by decide +kernel)⟩
theorem cm_X7_seenNow : CFm yX7_seenNow cX7_seenNow 5 (some .int) 3 := ⟨List.mem_of_getElem? (i := 1307) (by decide +kernel), List.mem_of_getElem? (i := 95) (by decide +kernel), by decide +kernel⟩
theorem cf_X7_seenNow : CFi yX7_seenNow cX7_seenNow 5 (some .int) 3 := ⟨cm_X7_seenNow, List.mem_of_getElem? (i := 1306) (by decide +kernel), List.mem_of_getElem? (i := 86) (by decide +kernel)⟩
theorem cm_X7_ofReceiver : CFm yX7_ofReceiver cX7_ofReceiver 3 (some .int) 2 := ⟨List.mem_of_getElem? (i := 1311) (by decide +kernel), List.mem_of_getElem? (i := 95) (by decide +kernel), by decide +kernel⟩
theorem cf_X7_ofReceiver : CFi yX7_ofReceiver cX7_ofReceiver 3 (some .int) 2 := ⟨cm_X7_ofReceiver, List.mem_of_getElem? (i := 1309) (by decide +kernel), List.mem_of_getElem? (i := 1310) (by decide +kernel)⟩
theorem cm_X7_ofReceiverNow : CFm yX7_ofReceiverNow cX7_ofReceiverNow 6 (some .int) 2 := ⟨List.mem_of_getElem? (i := 1315) (by decide +kernel), List.mem_of_getElem? (i := 95) (by decide +kernel), by decide +kernel⟩
theorem cf_X7_ofReceiverNow : CFi yX7_ofReceiverNow cX7_ofReceiverNow 6 (some .int) 2 := ⟨cm_X7_ofReceiverNow, List.mem_of_getElem? (i := 1314) (by decide +kernel), List.mem_of_getElem? (i := 87) (by decide +kernel)⟩
theorem cm_X7_many : CFm yX7_many cX7_many 2 (some .int) 1 := ⟨List.mem_of_getElem? (i := 1319) (by decide +kernel), List.mem_of_getElem? (i := 95) (by decide +kernel), by decide +kernel⟩
theorem cf_X7_many : CFi yX7_many cX7_many 2 (some .int) 1 := ⟨cm_X7_many, List.mem_of_getElem? (i := 1317) (by decide +kernel), List.mem_of_getElem? (i := 1318) (by decide +kernel)⟩
theorem cm_X7_manyNow : CFm yX7_manyNow cX7_manyNow 7 (some .int) 1 := ⟨List.mem_of_getElem? (i := 1323) (by decide +kernel), List.mem_of_getElem? (i := 95) (by decide +kernel), by decide +kernel⟩
theorem cf_X7_manyNow : CFi yX7_manyNow cX7_manyNow 7 (some .int) 1 := ⟨cm_X7_manyNow, List.mem_of_getElem? (i := 1322) (by decide +kernel), List.mem_of_getElem? (i := 88) (by decide +kernel)⟩
theorem cm_X7_meanError : CFm yX7_meanError cX7_meanError 2 (some .double) 1 := ⟨List.mem_of_getElem? (i := 1327) (by decide +kernel), List.mem_of_getElem? (i := 95) (by decide +kernel), by decide +kernel⟩
theorem cf_X7_meanError : CFi yX7_meanError cX7_meanError 2 (some .double) 1 := ⟨cm_X7_meanError, List.mem_of_getElem? (i := 1325) (by decide +kernel), List.mem_of_getElem? (i := 1326) (by decide +kernel)⟩
theorem cm_X7_wouldSee : CFm yX7_wouldSee cX7_wouldSee 3 (some .int) 2 := ⟨List.mem_of_getElem? (i := 1331) (by decide +kernel), List.mem_of_getElem? (i := 95) (by decide +kernel), by decide +kernel⟩
theorem cf_X7_wouldSee : CFi yX7_wouldSee cX7_wouldSee 3 (some .int) 2 := ⟨cm_X7_wouldSee, List.mem_of_getElem? (i := 1329) (by decide +kernel), List.mem_of_getElem? (i := 1330) (by decide +kernel)⟩
theorem cm_X7_heardIn : CFm yX7_heardIn cX7_heardIn 3 (some .int) 2 := ⟨List.mem_of_getElem? (i := 1335) (by decide +kernel), List.mem_of_getElem? (i := 95) (by decide +kernel), by decide +kernel⟩
theorem cf_X7_heardIn : CFi yX7_heardIn cX7_heardIn 3 (some .int) 2 := ⟨cm_X7_heardIn, List.mem_of_getElem? (i := 1333) (by decide +kernel), List.mem_of_getElem? (i := 1334) (by decide +kernel)⟩
theorem cm_X7_heardNow : CFm yX7_heardNow cX7_heardNow 4 (some .int) 2 := ⟨List.mem_of_getElem? (i := 1339) (by decide +kernel), List.mem_of_getElem? (i := 95) (by decide +kernel), by decide +kernel⟩
theorem cf_X7_heardNow : CFi yX7_heardNow cX7_heardNow 4 (some .int) 2 := ⟨cm_X7_heardNow, List.mem_of_getElem? (i := 1338) (by decide +kernel), List.mem_of_getElem? (i := 89) (by decide +kernel)⟩
theorem cm_X7_without : CFm yX7_without cX7_without 3 (some .int) 2 := ⟨List.mem_of_getElem? (i := 1343) (by decide +kernel), List.mem_of_getElem? (i := 95) (by decide +kernel), by decide +kernel⟩
theorem cf_X7_without : CFi yX7_without cX7_without 3 (some .int) 2 := ⟨cm_X7_without, List.mem_of_getElem? (i := 1341) (by decide +kernel), List.mem_of_getElem? (i := 1342) (by decide +kernel)⟩
theorem cm_X7_wouldAlarm : CFm yX7_wouldAlarm cX7_wouldAlarm 2 (some .int) 1 := ⟨List.mem_of_getElem? (i := 1347) (by decide +kernel), List.mem_of_getElem? (i := 95) (by decide +kernel), by decide +kernel⟩
theorem cf_X7_wouldAlarm : CFi yX7_wouldAlarm cX7_wouldAlarm 2 (some .int) 1 := ⟨cm_X7_wouldAlarm, List.mem_of_getElem? (i := 1345) (by decide +kernel), List.mem_of_getElem? (i := 1346) (by decide +kernel)⟩
theorem cm_X7_alarmNow : CFm yX7_alarmNow cX7_alarmNow 3 (some .int) 1 := ⟨List.mem_of_getElem? (i := 1351) (by decide +kernel), List.mem_of_getElem? (i := 95) (by decide +kernel), by decide +kernel⟩
theorem cf_X7_alarmNow : CFi yX7_alarmNow cX7_alarmNow 3 (some .int) 1 := ⟨cm_X7_alarmNow, List.mem_of_getElem? (i := 1350) (by decide +kernel), List.mem_of_getElem? (i := 90) (by decide +kernel)⟩
theorem cm_X7_digest : CFm yX7_digest cX7_digest 4 (some .long) 0 := ⟨List.mem_of_getElem? (i := 1355) (by decide +kernel), List.mem_of_getElem? (i := 95) (by decide +kernel), by decide +kernel⟩
theorem cf_X7_digest : CFi yX7_digest cX7_digest 4 (some .long) 0 := ⟨cm_X7_digest, List.mem_of_getElem? (i := 1353) (by decide +kernel), List.mem_of_getElem? (i := 1354) (by decide +kernel)⟩
theorem cm_X7_add : CFm yX7_add cX7_add 2 none 1 := ⟨List.mem_of_getElem? (i := 1360) (by decide +kernel), List.mem_of_getElem? (i := 95) (by decide +kernel), by decide +kernel⟩
theorem cf_X7_add : CFi yX7_add cX7_add 2 none 1 := ⟨cm_X7_add, List.mem_of_getElem? (i := 1359) (by decide +kernel), List.mem_of_getElem? (i := 91) (by decide +kernel)⟩
theorem kin_X0 : ∀ w ∈ u_ws RX0 TX0 13, w ∈ lw_tbl ∧ okw w = true := by decide +kernel
theorem kin_X1 : ∀ w ∈ u_ws RX1 TX1 11, w ∈ lw_tbl ∧ okw w = true := by decide +kernel
theorem kin_X2 : ∀ w ∈ u_ws RX2 TX2 15, w ∈ lw_tbl ∧ okw w = true := by decide +kernel
theorem kin_X3 : ∀ w ∈ u_ws RX3 TX3 11, w ∈ lw_tbl ∧ okw w = true := by decide +kernel
theorem kin_X4 : ∀ w ∈ u_ws RX4 TX4 2, w ∈ lw_tbl ∧ okw w = true := by decide +kernel
theorem kin_X5 : ∀ w ∈ u_ws RX5 TX5 13, w ∈ lw_tbl ∧ okw w = true := by decide +kernel
theorem kin_X6 : ∀ w ∈ u_ws RX6 TX6 8, w ∈ lw_tbl ∧ okw w = true := by decide +kernel
theorem kin_X7 : ∀ w ∈ u_ws RX7 TX7 20, w ∈ lw_tbl ∧ okw w = true := by decide +kernel
end
section
theorem zz_t : True := trivial
end
