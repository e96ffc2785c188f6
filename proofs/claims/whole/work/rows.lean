section
-- ===== PART A: goes FIRST, ahead of the names: the tables' words, and 'selects' of the private methods out of them =====
/-- a private method of a class that the tables say can be made, by its rows of tables_1 -/
def lw_okq (q : MethodName × Nat) : Prop := (q.1.cls ≠ "java/lang/invoke/MethodHandle" ∧ q.1.cls ≠ "java/lang/invoke/VarHandle") ∧ Cond.instantiable q.1.cls q.2 ∈ tables_1 ∧ Cond.privateMethod q.1 ∈ tables_1 ∧ Cond.instanceMethod q.1 ∈ tables_1
theorem lw_p0 : lw_okq (⟨"HotKeys", "begin", "()V"⟩, 18) := ⟨⟨by decide +kernel, by decide +kernel⟩, List.mem_of_getElem? (i := 14) (by decide +kernel), List.mem_of_getElem? (i := 161) (by decide +kernel), List.mem_of_getElem? (i := 162) (by decide +kernel)⟩
theorem lw_p1 : lw_okq (⟨"HotKeys", "setShape", "(IIIII)V"⟩, 18) := ⟨⟨by decide +kernel, by decide +kernel⟩, List.mem_of_getElem? (i := 14) (by decide +kernel), List.mem_of_getElem? (i := 165) (by decide +kernel), List.mem_of_getElem? (i := 166) (by decide +kernel)⟩
theorem lw_p2 : lw_okq (⟨"HotKeys$KeyStates", "forgetAll", "()V"⟩, 6) := ⟨⟨by decide +kernel, by decide +kernel⟩, List.mem_of_getElem? (i := 42) (by decide +kernel), List.mem_of_getElem? (i := 169) (by decide +kernel), List.mem_of_getElem? (i := 170) (by decide +kernel)⟩
theorem lw_p3 : lw_okq (⟨"HotKeys$KeyStates", "makeAllOne", "()V"⟩, 6) := ⟨⟨by decide +kernel, by decide +kernel⟩, List.mem_of_getElem? (i := 42) (by decide +kernel), List.mem_of_getElem? (i := 173) (by decide +kernel), List.mem_of_getElem? (i := 174) (by decide +kernel)⟩
theorem lw_p4 : lw_okq (⟨"HotKeys$Smalls", "forgetAll", "()V"⟩, 5) := ⟨⟨by decide +kernel, by decide +kernel⟩, List.mem_of_getElem? (i := 93) (by decide +kernel), List.mem_of_getElem? (i := 184) (by decide +kernel), List.mem_of_getElem? (i := 185) (by decide +kernel)⟩
theorem lw_p5 : lw_okq (⟨"HotKeys$Timers", "forgetAll", "()V"⟩, 4) := ⟨⟨by decide +kernel, by decide +kernel⟩, List.mem_of_getElem? (i := 119) (by decide +kernel), List.mem_of_getElem? (i := 188) (by decide +kernel), List.mem_of_getElem? (i := 189) (by decide +kernel)⟩
theorem lw_p6 : lw_okq (⟨"HotKeys", "beginWork", "()V"⟩, 18) := ⟨⟨by decide +kernel, by decide +kernel⟩, List.mem_of_getElem? (i := 14) (by decide +kernel), List.mem_of_getElem? (i := 192) (by decide +kernel), List.mem_of_getElem? (i := 193) (by decide +kernel)⟩
theorem lw_p7 : lw_okq (⟨"HotKeys$KeyStates", "splitKeys", "()I"⟩, 6) := ⟨⟨by decide +kernel, by decide +kernel⟩, List.mem_of_getElem? (i := 42) (by decide +kernel), List.mem_of_getElem? (i := 264) (by decide +kernel), List.mem_of_getElem? (i := 265) (by decide +kernel)⟩
theorem lw_p8 : lw_okq (⟨"HotKeys$KeyStates", "isSplit", "(I)Z"⟩, 6) := ⟨⟨by decide +kernel, by decide +kernel⟩, List.mem_of_getElem? (i := 42) (by decide +kernel), List.mem_of_getElem? (i := 268) (by decide +kernel), List.mem_of_getElem? (i := 269) (by decide +kernel)⟩
theorem lw_p9 : lw_okq (⟨"HotKeys$Folds", "add", "(IZ)I"⟩, 3) := ⟨⟨by decide +kernel, by decide +kernel⟩, List.mem_of_getElem? (i := 22) (by decide +kernel), List.mem_of_getElem? (i := 272) (by decide +kernel), List.mem_of_getElem? (i := 273) (by decide +kernel)⟩
theorem lw_p10 : lw_okq (⟨"HotKeys$KeyStates", "startFold", "(I)V"⟩, 6) := ⟨⟨by decide +kernel, by decide +kernel⟩, List.mem_of_getElem? (i := 42) (by decide +kernel), List.mem_of_getElem? (i := 276) (by decide +kernel), List.mem_of_getElem? (i := 277) (by decide +kernel)⟩
theorem lw_p11 : lw_okq (⟨"HotKeys$Folds", "emptyState", "(I)J"⟩, 3) := ⟨⟨by decide +kernel, by decide +kernel⟩, List.mem_of_getElem? (i := 22) (by decide +kernel), List.mem_of_getElem? (i := 283) (by decide +kernel), List.mem_of_getElem? (i := 284) (by decide +kernel)⟩
theorem lw_p12 : lw_okq (⟨"HotKeys$KeyStates", "partCount", "(I)I"⟩, 6) := ⟨⟨by decide +kernel, by decide +kernel⟩, List.mem_of_getElem? (i := 42) (by decide +kernel), List.mem_of_getElem? (i := 296) (by decide +kernel), List.mem_of_getElem? (i := 297) (by decide +kernel)⟩
theorem lw_p13 : lw_okq (⟨"HotKeys", "placeOfPart", "(II)I"⟩, 18) := ⟨⟨by decide +kernel, by decide +kernel⟩, List.mem_of_getElem? (i := 14) (by decide +kernel), List.mem_of_getElem? (i := 307) (by decide +kernel), List.mem_of_getElem? (i := 308) (by decide +kernel)⟩
theorem lw_p14 : lw_okq (⟨"HotKeys$KeyStates", "take", "(IIII)V"⟩, 6) := ⟨⟨by decide +kernel, by decide +kernel⟩, List.mem_of_getElem? (i := 42) (by decide +kernel), List.mem_of_getElem? (i := 311) (by decide +kernel), List.mem_of_getElem? (i := 312) (by decide +kernel)⟩
theorem lw_p15 : lw_okq (⟨"HotKeys$Folds", "folded", "(IJIJ)J"⟩, 3) := ⟨⟨by decide +kernel, by decide +kernel⟩, List.mem_of_getElem? (i := 22) (by decide +kernel), List.mem_of_getElem? (i := 315) (by decide +kernel), List.mem_of_getElem? (i := 316) (by decide +kernel)⟩
def lw_privs_1 : List (MethodName × Nat) := [(⟨"HotKeys", "begin", "()V"⟩, 18), (⟨"HotKeys", "setShape", "(IIIII)V"⟩, 18), (⟨"HotKeys$KeyStates", "forgetAll", "()V"⟩, 6), (⟨"HotKeys$KeyStates", "makeAllOne", "()V"⟩, 6), (⟨"HotKeys$Smalls", "forgetAll", "()V"⟩, 5), (⟨"HotKeys$Timers", "forgetAll", "()V"⟩, 4), (⟨"HotKeys", "beginWork", "()V"⟩, 18), (⟨"HotKeys$KeyStates", "splitKeys", "()I"⟩, 6), (⟨"HotKeys$KeyStates", "isSplit", "(I)Z"⟩, 6), (⟨"HotKeys$Folds", "add", "(IZ)I"⟩, 3), (⟨"HotKeys$KeyStates", "startFold", "(I)V"⟩, 6), (⟨"HotKeys$Folds", "emptyState", "(I)J"⟩, 3), (⟨"HotKeys$KeyStates", "partCount", "(I)I"⟩, 6), (⟨"HotKeys", "placeOfPart", "(II)I"⟩, 18), (⟨"HotKeys$KeyStates", "take", "(IIII)V"⟩, 6), (⟨"HotKeys$Folds", "folded", "(IJIJ)J"⟩, 3)]
theorem lw_r1 : ∀ q ∈ lw_privs_1, lw_okq q := List.forall_mem_cons.mpr ⟨lw_p0, List.forall_mem_cons.mpr ⟨lw_p1, List.forall_mem_cons.mpr ⟨lw_p2, List.forall_mem_cons.mpr ⟨lw_p3, List.forall_mem_cons.mpr ⟨lw_p4, List.forall_mem_cons.mpr ⟨lw_p5, List.forall_mem_cons.mpr ⟨lw_p6, List.forall_mem_cons.mpr ⟨lw_p7, List.forall_mem_cons.mpr ⟨lw_p8, List.forall_mem_cons.mpr ⟨lw_p9, List.forall_mem_cons.mpr ⟨lw_p10, List.forall_mem_cons.mpr ⟨lw_p11, List.forall_mem_cons.mpr ⟨lw_p12, List.forall_mem_cons.mpr ⟨lw_p13, List.forall_mem_cons.mpr ⟨lw_p14, List.forall_mem_cons.mpr ⟨lw_p15, fun _ h => absurd h List.not_mem_nil⟩⟩⟩⟩⟩⟩⟩⟩⟩⟩⟩⟩⟩⟩⟩⟩
theorem lw_p16 : lw_okq (⟨"HotKeys$Smalls", "meet", "(II)V"⟩, 5) := ⟨⟨by decide +kernel, by decide +kernel⟩, List.mem_of_getElem? (i := 93) (by decide +kernel), List.mem_of_getElem? (i := 328) (by decide +kernel), List.mem_of_getElem? (i := 329) (by decide +kernel)⟩
theorem lw_p17 : lw_okq (⟨"HotKeys$Counters", "take", "(I)V"⟩, 5) := ⟨⟨by decide +kernel, by decide +kernel⟩, List.mem_of_getElem? (i := 69) (by decide +kernel), List.mem_of_getElem? (i := 332) (by decide +kernel), List.mem_of_getElem? (i := 333) (by decide +kernel)⟩
theorem lw_p18 : lw_okq (⟨"HotKeys$Counters", "find", "(I)I"⟩, 5) := ⟨⟨by decide +kernel, by decide +kernel⟩, List.mem_of_getElem? (i := 69) (by decide +kernel), List.mem_of_getElem? (i := 336) (by decide +kernel), List.mem_of_getElem? (i := 337) (by decide +kernel)⟩
theorem lw_p19 : lw_okq (⟨"HotKeys$Counters", "put", "(III)V"⟩, 5) := ⟨⟨by decide +kernel, by decide +kernel⟩, List.mem_of_getElem? (i := 69) (by decide +kernel), List.mem_of_getElem? (i := 340) (by decide +kernel), List.mem_of_getElem? (i := 341) (by decide +kernel)⟩
theorem lw_p20 : lw_okq (⟨"HotKeys$Counters", "leastAt", "()I"⟩, 5) := ⟨⟨by decide +kernel, by decide +kernel⟩, List.mem_of_getElem? (i := 69) (by decide +kernel), List.mem_of_getElem? (i := 344) (by decide +kernel), List.mem_of_getElem? (i := 345) (by decide +kernel)⟩
theorem lw_p21 : lw_okq (⟨"HotKeys", "endRound", "()V"⟩, 18) := ⟨⟨by decide +kernel, by decide +kernel⟩, List.mem_of_getElem? (i := 14) (by decide +kernel), List.mem_of_getElem? (i := 348) (by decide +kernel), List.mem_of_getElem? (i := 349) (by decide +kernel)⟩
theorem lw_p22 : lw_okq (⟨"HotKeys", "splitHotKeys", "()V"⟩, 18) := ⟨⟨by decide +kernel, by decide +kernel⟩, List.mem_of_getElem? (i := 14) (by decide +kernel), List.mem_of_getElem? (i := 352) (by decide +kernel), List.mem_of_getElem? (i := 353) (by decide +kernel)⟩
theorem lw_p23 : lw_okq (⟨"HotKeys$Counters", "keyAt", "(I)I"⟩, 5) := ⟨⟨by decide +kernel, by decide +kernel⟩, List.mem_of_getElem? (i := 69) (by decide +kernel), List.mem_of_getElem? (i := 356) (by decide +kernel), List.mem_of_getElem? (i := 357) (by decide +kernel)⟩
theorem lw_p24 : lw_okq (⟨"HotKeys$Counters", "surelyAt", "(I)I"⟩, 5) := ⟨⟨by decide +kernel, by decide +kernel⟩, List.mem_of_getElem? (i := 69) (by decide +kernel), List.mem_of_getElem? (i := 360) (by decide +kernel), List.mem_of_getElem? (i := 361) (by decide +kernel)⟩
theorem lw_p25 : lw_okq (⟨"HotKeys$Counters", "countAt", "(I)I"⟩, 5) := ⟨⟨by decide +kernel, by decide +kernel⟩, List.mem_of_getElem? (i := 69) (by decide +kernel), List.mem_of_getElem? (i := 364) (by decide +kernel), List.mem_of_getElem? (i := 365) (by decide +kernel)⟩
theorem lw_p26 : lw_okq (⟨"HotKeys$Counters", "errorAt", "(I)I"⟩, 5) := ⟨⟨by decide +kernel, by decide +kernel⟩, List.mem_of_getElem? (i := 69) (by decide +kernel), List.mem_of_getElem? (i := 368) (by decide +kernel), List.mem_of_getElem? (i := 369) (by decide +kernel)⟩
theorem lw_p27 : lw_okq (⟨"HotKeys$Folds", "allCanBeJoined", "()Z"⟩, 3) := ⟨⟨by decide +kernel, by decide +kernel⟩, List.mem_of_getElem? (i := 22) (by decide +kernel), List.mem_of_getElem? (i := 373) (by decide +kernel), List.mem_of_getElem? (i := 374) (by decide +kernel)⟩
theorem lw_p28 : lw_okq (⟨"HotKeys$KeyStates", "breakUp", "(II)V"⟩, 6) := ⟨⟨by decide +kernel, by decide +kernel⟩, List.mem_of_getElem? (i := 42) (by decide +kernel), List.mem_of_getElem? (i := 384) (by decide +kernel), List.mem_of_getElem? (i := 385) (by decide +kernel)⟩
theorem lw_p29 : lw_okq (⟨"HotKeys$KeyStates", "emptyPart", "(II)V"⟩, 6) := ⟨⟨by decide +kernel, by decide +kernel⟩, List.mem_of_getElem? (i := 42) (by decide +kernel), List.mem_of_getElem? (i := 388) (by decide +kernel), List.mem_of_getElem? (i := 389) (by decide +kernel)⟩
theorem lw_p30 : lw_okq (⟨"HotKeys", "joinCoolKeys", "()V"⟩, 18) := ⟨⟨by decide +kernel, by decide +kernel⟩, List.mem_of_getElem? (i := 14) (by decide +kernel), List.mem_of_getElem? (i := 392) (by decide +kernel), List.mem_of_getElem? (i := 393) (by decide +kernel)⟩
theorem lw_p31 : lw_okq (⟨"HotKeys$Counters", "atMost", "(I)I"⟩, 5) := ⟨⟨by decide +kernel, by decide +kernel⟩, List.mem_of_getElem? (i := 69) (by decide +kernel), List.mem_of_getElem? (i := 396) (by decide +kernel), List.mem_of_getElem? (i := 397) (by decide +kernel)⟩
def lw_privs_2 : List (MethodName × Nat) := [(⟨"HotKeys$Smalls", "meet", "(II)V"⟩, 5), (⟨"HotKeys$Counters", "take", "(I)V"⟩, 5), (⟨"HotKeys$Counters", "find", "(I)I"⟩, 5), (⟨"HotKeys$Counters", "put", "(III)V"⟩, 5), (⟨"HotKeys$Counters", "leastAt", "()I"⟩, 5), (⟨"HotKeys", "endRound", "()V"⟩, 18), (⟨"HotKeys", "splitHotKeys", "()V"⟩, 18), (⟨"HotKeys$Counters", "keyAt", "(I)I"⟩, 5), (⟨"HotKeys$Counters", "surelyAt", "(I)I"⟩, 5), (⟨"HotKeys$Counters", "countAt", "(I)I"⟩, 5), (⟨"HotKeys$Counters", "errorAt", "(I)I"⟩, 5), (⟨"HotKeys$Folds", "allCanBeJoined", "()Z"⟩, 3), (⟨"HotKeys$KeyStates", "breakUp", "(II)V"⟩, 6), (⟨"HotKeys$KeyStates", "emptyPart", "(II)V"⟩, 6), (⟨"HotKeys", "joinCoolKeys", "()V"⟩, 18), (⟨"HotKeys$Counters", "atMost", "(I)I"⟩, 5)]
theorem lw_r2 : ∀ q ∈ lw_privs_2, lw_okq q := List.forall_mem_cons.mpr ⟨lw_p16, List.forall_mem_cons.mpr ⟨lw_p17, List.forall_mem_cons.mpr ⟨lw_p18, List.forall_mem_cons.mpr ⟨lw_p19, List.forall_mem_cons.mpr ⟨lw_p20, List.forall_mem_cons.mpr ⟨lw_p21, List.forall_mem_cons.mpr ⟨lw_p22, List.forall_mem_cons.mpr ⟨lw_p23, List.forall_mem_cons.mpr ⟨lw_p24, List.forall_mem_cons.mpr ⟨lw_p25, List.forall_mem_cons.mpr ⟨lw_p26, List.forall_mem_cons.mpr ⟨lw_p27, List.forall_mem_cons.mpr ⟨lw_p28, List.forall_mem_cons.mpr ⟨lw_p29, List.forall_mem_cons.mpr ⟨lw_p30, List.forall_mem_cons.mpr ⟨lw_p31, fun _ h => absurd h List.not_mem_nil⟩⟩⟩⟩⟩⟩⟩⟩⟩⟩⟩⟩⟩⟩⟩⟩
theorem lw_p32 : lw_okq (⟨"HotKeys$KeyStates", "bringBack", "(I)I"⟩, 6) := ⟨⟨by decide +kernel, by decide +kernel⟩, List.mem_of_getElem? (i := 42) (by decide +kernel), List.mem_of_getElem? (i := 400) (by decide +kernel), List.mem_of_getElem? (i := 401) (by decide +kernel)⟩
theorem lw_p33 : lw_okq (⟨"HotKeys$KeyStates", "joinedState", "(II)J"⟩, 6) := ⟨⟨by decide +kernel, by decide +kernel⟩, List.mem_of_getElem? (i := 42) (by decide +kernel), List.mem_of_getElem? (i := 404) (by decide +kernel), List.mem_of_getElem? (i := 405) (by decide +kernel)⟩
theorem lw_p34 : lw_okq (⟨"HotKeys$Folds", "joined", "(IJJZ)J"⟩, 3) := ⟨⟨by decide +kernel, by decide +kernel⟩, List.mem_of_getElem? (i := 22) (by decide +kernel), List.mem_of_getElem? (i := 408) (by decide +kernel), List.mem_of_getElem? (i := 409) (by decide +kernel)⟩
theorem lw_p35 : lw_okq (⟨"HotKeys$KeyStates", "joinedLatestRow", "(I)I"⟩, 6) := ⟨⟨by decide +kernel, by decide +kernel⟩, List.mem_of_getElem? (i := 42) (by decide +kernel), List.mem_of_getElem? (i := 415) (by decide +kernel), List.mem_of_getElem? (i := 416) (by decide +kernel)⟩
theorem lw_p36 : lw_okq (⟨"HotKeys", "isFold", "(I)Z"⟩, 18) := ⟨⟨by decide +kernel, by decide +kernel⟩, List.mem_of_getElem? (i := 14) (by decide +kernel), List.mem_of_getElem? (i := 423) (by decide +kernel), List.mem_of_getElem? (i := 424) (by decide +kernel)⟩
theorem lw_p37 : lw_okq (⟨"HotKeys$KeyStates", "hasPart", "(II)Z"⟩, 6) := ⟨⟨by decide +kernel, by decide +kernel⟩, List.mem_of_getElem? (i := 42) (by decide +kernel), List.mem_of_getElem? (i := 433) (by decide +kernel), List.mem_of_getElem? (i := 434) (by decide +kernel)⟩
theorem lw_p38 : lw_okq (⟨"HotKeys$KeyStates", "partState", "(III)J"⟩, 6) := ⟨⟨by decide +kernel, by decide +kernel⟩, List.mem_of_getElem? (i := 42) (by decide +kernel), List.mem_of_getElem? (i := 438) (by decide +kernel), List.mem_of_getElem? (i := 439) (by decide +kernel)⟩
theorem lw_p39 : lw_okq (⟨"HotKeys$Counters", "atLeast", "(I)I"⟩, 5) := ⟨⟨by decide +kernel, by decide +kernel⟩, List.mem_of_getElem? (i := 69) (by decide +kernel), List.mem_of_getElem? (i := 474) (by decide +kernel), List.mem_of_getElem? (i := 475) (by decide +kernel)⟩
theorem lw_p40 : lw_okq (⟨"HotKeys", "isPlace", "(I)Z"⟩, 18) := ⟨⟨by decide +kernel, by decide +kernel⟩, List.mem_of_getElem? (i := 14) (by decide +kernel), List.mem_of_getElem? (i := 487) (by decide +kernel), List.mem_of_getElem? (i := 488) (by decide +kernel)⟩
theorem lw_p41 : lw_okq (⟨"HotKeys$Smalls", "add", "(II)V"⟩, 5) := ⟨⟨by decide +kernel, by decide +kernel⟩, List.mem_of_getElem? (i := 93) (by decide +kernel), List.mem_of_getElem? (i := 495) (by decide +kernel), List.mem_of_getElem? (i := 496) (by decide +kernel)⟩
theorem lw_p42 : lw_okq (⟨"HotKeys", "hasPartAt", "(II)Z"⟩, 18) := ⟨⟨by decide +kernel, by decide +kernel⟩, List.mem_of_getElem? (i := 14) (by decide +kernel), List.mem_of_getElem? (i := 503) (by decide +kernel), List.mem_of_getElem? (i := 504) (by decide +kernel)⟩
theorem lw_p43 : lw_okq (⟨"HotKeys$Timers", "add", "(II)V"⟩, 4) := ⟨⟨by decide +kernel, by decide +kernel⟩, List.mem_of_getElem? (i := 119) (by decide +kernel), List.mem_of_getElem? (i := 516) (by decide +kernel), List.mem_of_getElem? (i := 517) (by decide +kernel)⟩
theorem lw_p44 : lw_okq (⟨"HotKeys$Timers", "dueAt", "(I)I"⟩, 4) := ⟨⟨by decide +kernel, by decide +kernel⟩, List.mem_of_getElem? (i := 119) (by decide +kernel), List.mem_of_getElem? (i := 520) (by decide +kernel), List.mem_of_getElem? (i := 521) (by decide +kernel)⟩
theorem lw_p45 : lw_okq (⟨"HotKeys", "ring", "(II)V"⟩, 18) := ⟨⟨by decide +kernel, by decide +kernel⟩, List.mem_of_getElem? (i := 14) (by decide +kernel), List.mem_of_getElem? (i := 532) (by decide +kernel), List.mem_of_getElem? (i := 533) (by decide +kernel)⟩
theorem lw_p46 : lw_okq (⟨"HotKeys$Log", "open", "(II)I"⟩, 3) := ⟨⟨by decide +kernel, by decide +kernel⟩, List.mem_of_getElem? (i := 142) (by decide +kernel), List.mem_of_getElem? (i := 536) (by decide +kernel), List.mem_of_getElem? (i := 537) (by decide +kernel)⟩
theorem lw_p47 : lw_okq (⟨"HotKeys$Log", "write", "(IIJ)V"⟩, 3) := ⟨⟨by decide +kernel, by decide +kernel⟩, List.mem_of_getElem? (i := 142) (by decide +kernel), List.mem_of_getElem? (i := 548) (by decide +kernel), List.mem_of_getElem? (i := 549) (by decide +kernel)⟩
def lw_privs_3 : List (MethodName × Nat) := [(⟨"HotKeys$KeyStates", "bringBack", "(I)I"⟩, 6), (⟨"HotKeys$KeyStates", "joinedState", "(II)J"⟩, 6), (⟨"HotKeys$Folds", "joined", "(IJJZ)J"⟩, 3), (⟨"HotKeys$KeyStates", "joinedLatestRow", "(I)I"⟩, 6), (⟨"HotKeys", "isFold", "(I)Z"⟩, 18), (⟨"HotKeys$KeyStates", "hasPart", "(II)Z"⟩, 6), (⟨"HotKeys$KeyStates", "partState", "(III)J"⟩, 6), (⟨"HotKeys$Counters", "atLeast", "(I)I"⟩, 5), (⟨"HotKeys", "isPlace", "(I)Z"⟩, 18), (⟨"HotKeys$Smalls", "add", "(II)V"⟩, 5), (⟨"HotKeys", "hasPartAt", "(II)Z"⟩, 18), (⟨"HotKeys$Timers", "add", "(II)V"⟩, 4), (⟨"HotKeys$Timers", "dueAt", "(I)I"⟩, 4), (⟨"HotKeys", "ring", "(II)V"⟩, 18), (⟨"HotKeys$Log", "open", "(II)I"⟩, 3), (⟨"HotKeys$Log", "write", "(IIJ)V"⟩, 3)]
theorem lw_r3 : ∀ q ∈ lw_privs_3, lw_okq q := List.forall_mem_cons.mpr ⟨lw_p32, List.forall_mem_cons.mpr ⟨lw_p33, List.forall_mem_cons.mpr ⟨lw_p34, List.forall_mem_cons.mpr ⟨lw_p35, List.forall_mem_cons.mpr ⟨lw_p36, List.forall_mem_cons.mpr ⟨lw_p37, List.forall_mem_cons.mpr ⟨lw_p38, List.forall_mem_cons.mpr ⟨lw_p39, List.forall_mem_cons.mpr ⟨lw_p40, List.forall_mem_cons.mpr ⟨lw_p41, List.forall_mem_cons.mpr ⟨lw_p42, List.forall_mem_cons.mpr ⟨lw_p43, List.forall_mem_cons.mpr ⟨lw_p44, List.forall_mem_cons.mpr ⟨lw_p45, List.forall_mem_cons.mpr ⟨lw_p46, List.forall_mem_cons.mpr ⟨lw_p47, fun _ h => absurd h List.not_mem_nil⟩⟩⟩⟩⟩⟩⟩⟩⟩⟩⟩⟩⟩⟩⟩⟩
theorem lw_p48 : lw_okq (⟨"HotKeys$KeyStates", "emptyKey", "(I)V"⟩, 6) := ⟨⟨by decide +kernel, by decide +kernel⟩, List.mem_of_getElem? (i := 42) (by decide +kernel), List.mem_of_getElem? (i := 552) (by decide +kernel), List.mem_of_getElem? (i := 553) (by decide +kernel)⟩
theorem lw_p49 : lw_okq (⟨"HotKeys$Timers", "dropFirst", "(I)V"⟩, 4) := ⟨⟨by decide +kernel, by decide +kernel⟩, List.mem_of_getElem? (i := 119) (by decide +kernel), List.mem_of_getElem? (i := 556) (by decide +kernel), List.mem_of_getElem? (i := 557) (by decide +kernel)⟩
theorem lw_p50 : lw_okq (⟨"HotKeys$Log", "read", "(II)J"⟩, 3) := ⟨⟨by decide +kernel, by decide +kernel⟩, List.mem_of_getElem? (i := 142) (by decide +kernel), List.mem_of_getElem? (i := 564) (by decide +kernel), List.mem_of_getElem? (i := 565) (by decide +kernel)⟩
theorem lw_p51 : lw_okq (⟨"HotKeys$Smalls", "copyFrom", "(LHotKeys$Smalls;)V"⟩, 5) := ⟨⟨by decide +kernel, by decide +kernel⟩, List.mem_of_getElem? (i := 93) (by decide +kernel), List.mem_of_getElem? (i := 608) (by decide +kernel), List.mem_of_getElem? (i := 609) (by decide +kernel)⟩
theorem lw_p52 : lw_okq (⟨"HotKeys$Timers", "copyFrom", "(LHotKeys$Timers;)V"⟩, 4) := ⟨⟨by decide +kernel, by decide +kernel⟩, List.mem_of_getElem? (i := 119) (by decide +kernel), List.mem_of_getElem? (i := 613) (by decide +kernel), List.mem_of_getElem? (i := 614) (by decide +kernel)⟩
theorem lw_p53 : lw_okq (⟨"HotKeys$KeyStates", "holdIn", "(LHotKeys$Mark;)V"⟩, 6) := ⟨⟨by decide +kernel, by decide +kernel⟩, List.mem_of_getElem? (i := 42) (by decide +kernel), List.mem_of_getElem? (i := 617) (by decide +kernel), List.mem_of_getElem? (i := 618) (by decide +kernel)⟩
theorem lw_p54 : lw_okq (⟨"HotKeys$KeyStates", "takeFrom", "(LHotKeys$Mark;)V"⟩, 6) := ⟨⟨by decide +kernel, by decide +kernel⟩, List.mem_of_getElem? (i := 42) (by decide +kernel), List.mem_of_getElem? (i := 625) (by decide +kernel), List.mem_of_getElem? (i := 626) (by decide +kernel)⟩
theorem lw_p55 : lw_okq (⟨"HotKeysModel", "begin", "()V"⟩, 52) := ⟨⟨by decide +kernel, by decide +kernel⟩, List.mem_of_getElem? (i := 637) (by decide +kernel), List.mem_of_getElem? (i := 643) (by decide +kernel), List.mem_of_getElem? (i := 644) (by decide +kernel)⟩
theorem lw_p56 : lw_okq (⟨"HotKeysModel", "empty", "(II)V"⟩, 52) := ⟨⟨by decide +kernel, by decide +kernel⟩, List.mem_of_getElem? (i := 637) (by decide +kernel), List.mem_of_getElem? (i := 647) (by decide +kernel), List.mem_of_getElem? (i := 648) (by decide +kernel)⟩
theorem lw_p57 : lw_okq (⟨"HotKeysModel", "slot", "(II)I"⟩, 52) := ⟨⟨by decide +kernel, by decide +kernel⟩, List.mem_of_getElem? (i := 637) (by decide +kernel), List.mem_of_getElem? (i := 651) (by decide +kernel), List.mem_of_getElem? (i := 652) (by decide +kernel)⟩
theorem lw_p58 : lw_okq (⟨"HotKeysModel", "emptyOf", "(I)J"⟩, 52) := ⟨⟨by decide +kernel, by decide +kernel⟩, List.mem_of_getElem? (i := 637) (by decide +kernel), List.mem_of_getElem? (i := 655) (by decide +kernel), List.mem_of_getElem? (i := 656) (by decide +kernel)⟩
theorem lw_p59 : lw_okq (⟨"HotKeysModel", "freshRun", "()V"⟩, 52) := ⟨⟨by decide +kernel, by decide +kernel⟩, List.mem_of_getElem? (i := 637) (by decide +kernel), List.mem_of_getElem? (i := 661) (by decide +kernel), List.mem_of_getElem? (i := 662) (by decide +kernel)⟩
theorem lw_p60 : lw_okq (⟨"HotKeysModel", "freshRound", "()V"⟩, 52) := ⟨⟨by decide +kernel, by decide +kernel⟩, List.mem_of_getElem? (i := 637) (by decide +kernel), List.mem_of_getElem? (i := 665) (by decide +kernel), List.mem_of_getElem? (i := 666) (by decide +kernel)⟩
theorem lw_p61 : lw_okq (⟨"HotKeysModel", "splitKeys", "()I"⟩, 52) := ⟨⟨by decide +kernel, by decide +kernel⟩, List.mem_of_getElem? (i := 637) (by decide +kernel), List.mem_of_getElem? (i := 841) (by decide +kernel), List.mem_of_getElem? (i := 842) (by decide +kernel)⟩
theorem lw_p62 : lw_okq (⟨"HotKeysModel", "noKey", "(I)Z"⟩, 52) := ⟨⟨by decide +kernel, by decide +kernel⟩, List.mem_of_getElem? (i := 637) (by decide +kernel), List.mem_of_getElem? (i := 849) (by decide +kernel), List.mem_of_getElem? (i := 850) (by decide +kernel)⟩
theorem lw_p63 : lw_okq (⟨"HotKeysModel", "partOfRow", "(II)I"⟩, 52) := ⟨⟨by decide +kernel, by decide +kernel⟩, List.mem_of_getElem? (i := 637) (by decide +kernel), List.mem_of_getElem? (i := 856) (by decide +kernel), List.mem_of_getElem? (i := 857) (by decide +kernel)⟩
def lw_privs_4 : List (MethodName × Nat) := [(⟨"HotKeys$KeyStates", "emptyKey", "(I)V"⟩, 6), (⟨"HotKeys$Timers", "dropFirst", "(I)V"⟩, 4), (⟨"HotKeys$Log", "read", "(II)J"⟩, 3), (⟨"HotKeys$Smalls", "copyFrom", "(LHotKeys$Smalls;)V"⟩, 5), (⟨"HotKeys$Timers", "copyFrom", "(LHotKeys$Timers;)V"⟩, 4), (⟨"HotKeys$KeyStates", "holdIn", "(LHotKeys$Mark;)V"⟩, 6), (⟨"HotKeys$KeyStates", "takeFrom", "(LHotKeys$Mark;)V"⟩, 6), (⟨"HotKeysModel", "begin", "()V"⟩, 52), (⟨"HotKeysModel", "empty", "(II)V"⟩, 52), (⟨"HotKeysModel", "slot", "(II)I"⟩, 52), (⟨"HotKeysModel", "emptyOf", "(I)J"⟩, 52), (⟨"HotKeysModel", "freshRun", "()V"⟩, 52), (⟨"HotKeysModel", "freshRound", "()V"⟩, 52), (⟨"HotKeysModel", "splitKeys", "()I"⟩, 52), (⟨"HotKeysModel", "noKey", "(I)Z"⟩, 52), (⟨"HotKeysModel", "partOfRow", "(II)I"⟩, 52)]
theorem lw_r4 : ∀ q ∈ lw_privs_4, lw_okq q := List.forall_mem_cons.mpr ⟨lw_p48, List.forall_mem_cons.mpr ⟨lw_p49, List.forall_mem_cons.mpr ⟨lw_p50, List.forall_mem_cons.mpr ⟨lw_p51, List.forall_mem_cons.mpr ⟨lw_p52, List.forall_mem_cons.mpr ⟨lw_p53, List.forall_mem_cons.mpr ⟨lw_p54, List.forall_mem_cons.mpr ⟨lw_p55, List.forall_mem_cons.mpr ⟨lw_p56, List.forall_mem_cons.mpr ⟨lw_p57, List.forall_mem_cons.mpr ⟨lw_p58, List.forall_mem_cons.mpr ⟨lw_p59, List.forall_mem_cons.mpr ⟨lw_p60, List.forall_mem_cons.mpr ⟨lw_p61, List.forall_mem_cons.mpr ⟨lw_p62, List.forall_mem_cons.mpr ⟨lw_p63, fun _ h => absurd h List.not_mem_nil⟩⟩⟩⟩⟩⟩⟩⟩⟩⟩⟩⟩⟩⟩⟩⟩
theorem lw_p64 : lw_okq (⟨"HotKeysModel", "placeOf", "(II)I"⟩, 52) := ⟨⟨by decide +kernel, by decide +kernel⟩, List.mem_of_getElem? (i := 637) (by decide +kernel), List.mem_of_getElem? (i := 865) (by decide +kernel), List.mem_of_getElem? (i := 866) (by decide +kernel)⟩
theorem lw_p65 : lw_okq (⟨"HotKeysModel", "home", "(I)I"⟩, 52) := ⟨⟨by decide +kernel, by decide +kernel⟩, List.mem_of_getElem? (i := 637) (by decide +kernel), List.mem_of_getElem? (i := 869) (by decide +kernel), List.mem_of_getElem? (i := 870) (by decide +kernel)⟩
theorem lw_p66 : lw_okq (⟨"HotKeysModel", "countKey", "(I)V"⟩, 52) := ⟨⟨by decide +kernel, by decide +kernel⟩, List.mem_of_getElem? (i := 637) (by decide +kernel), List.mem_of_getElem? (i := 873) (by decide +kernel), List.mem_of_getElem? (i := 874) (by decide +kernel)⟩
theorem lw_p67 : lw_okq (⟨"HotKeysModel", "counterOf", "(I)I"⟩, 52) := ⟨⟨by decide +kernel, by decide +kernel⟩, List.mem_of_getElem? (i := 637) (by decide +kernel), List.mem_of_getElem? (i := 877) (by decide +kernel), List.mem_of_getElem? (i := 878) (by decide +kernel)⟩
theorem lw_p68 : lw_okq (⟨"HotKeysModel", "weakest", "()I"⟩, 52) := ⟨⟨by decide +kernel, by decide +kernel⟩, List.mem_of_getElem? (i := 637) (by decide +kernel), List.mem_of_getElem? (i := 881) (by decide +kernel), List.mem_of_getElem? (i := 882) (by decide +kernel)⟩
theorem lw_p69 : lw_okq (⟨"HotKeysModel", "endRound", "()V"⟩, 52) := ⟨⟨by decide +kernel, by decide +kernel⟩, List.mem_of_getElem? (i := 637) (by decide +kernel), List.mem_of_getElem? (i := 885) (by decide +kernel), List.mem_of_getElem? (i := 886) (by decide +kernel)⟩
theorem lw_p70 : lw_okq (⟨"HotKeysModel", "canSplit", "()Z"⟩, 52) := ⟨⟨by decide +kernel, by decide +kernel⟩, List.mem_of_getElem? (i := 637) (by decide +kernel), List.mem_of_getElem? (i := 889) (by decide +kernel), List.mem_of_getElem? (i := 890) (by decide +kernel)⟩
theorem lw_p71 : lw_okq (⟨"HotKeysModel", "makeParts", "(II)V"⟩, 52) := ⟨⟨by decide +kernel, by decide +kernel⟩, List.mem_of_getElem? (i := 637) (by decide +kernel), List.mem_of_getElem? (i := 893) (by decide +kernel), List.mem_of_getElem? (i := 894) (by decide +kernel)⟩
theorem lw_p72 : lw_okq (⟨"HotKeysModel", "mostOf", "(I)I"⟩, 52) := ⟨⟨by decide +kernel, by decide +kernel⟩, List.mem_of_getElem? (i := 637) (by decide +kernel), List.mem_of_getElem? (i := 897) (by decide +kernel), List.mem_of_getElem? (i := 898) (by decide +kernel)⟩
theorem lw_p73 : lw_okq (⟨"HotKeysModel", "joinBack", "(I)I"⟩, 52) := ⟨⟨by decide +kernel, by decide +kernel⟩, List.mem_of_getElem? (i := 637) (by decide +kernel), List.mem_of_getElem? (i := 901) (by decide +kernel), List.mem_of_getElem? (i := 902) (by decide +kernel)⟩
theorem lw_p74 : lw_okq (⟨"HotKeysModel", "come", "(II)J"⟩, 52) := ⟨⟨by decide +kernel, by decide +kernel⟩, List.mem_of_getElem? (i := 637) (by decide +kernel), List.mem_of_getElem? (i := 905) (by decide +kernel), List.mem_of_getElem? (i := 906) (by decide +kernel)⟩
theorem lw_p75 : lw_okq (⟨"HotKeysModel", "due", "(I)I"⟩, 52) := ⟨⟨by decide +kernel, by decide +kernel⟩, List.mem_of_getElem? (i := 637) (by decide +kernel), List.mem_of_getElem? (i := 977) (by decide +kernel), List.mem_of_getElem? (i := 978) (by decide +kernel)⟩
theorem lw_p76 : lw_okq (⟨"HotKeysModel", "ring", "(I)V"⟩, 52) := ⟨⟨by decide +kernel, by decide +kernel⟩, List.mem_of_getElem? (i := 637) (by decide +kernel), List.mem_of_getElem? (i := 981) (by decide +kernel), List.mem_of_getElem? (i := 982) (by decide +kernel)⟩
theorem lw_p77 : lw_okq (⟨"HotKeysModel", "keptLogs", "()I"⟩, 52) := ⟨⟨by decide +kernel, by decide +kernel⟩, List.mem_of_getElem? (i := 637) (by decide +kernel), List.mem_of_getElem? (i := 989) (by decide +kernel), List.mem_of_getElem? (i := 990) (by decide +kernel)⟩
def lw_privs_5 : List (MethodName × Nat) := [(⟨"HotKeysModel", "placeOf", "(II)I"⟩, 52), (⟨"HotKeysModel", "home", "(I)I"⟩, 52), (⟨"HotKeysModel", "countKey", "(I)V"⟩, 52), (⟨"HotKeysModel", "counterOf", "(I)I"⟩, 52), (⟨"HotKeysModel", "weakest", "()I"⟩, 52), (⟨"HotKeysModel", "endRound", "()V"⟩, 52), (⟨"HotKeysModel", "canSplit", "()Z"⟩, 52), (⟨"HotKeysModel", "makeParts", "(II)V"⟩, 52), (⟨"HotKeysModel", "mostOf", "(I)I"⟩, 52), (⟨"HotKeysModel", "joinBack", "(I)I"⟩, 52), (⟨"HotKeysModel", "come", "(II)J"⟩, 52), (⟨"HotKeysModel", "due", "(I)I"⟩, 52), (⟨"HotKeysModel", "ring", "(I)V"⟩, 52), (⟨"HotKeysModel", "keptLogs", "()I"⟩, 52)]
theorem lw_r5 : ∀ q ∈ lw_privs_5, lw_okq q := List.forall_mem_cons.mpr ⟨lw_p64, List.forall_mem_cons.mpr ⟨lw_p65, List.forall_mem_cons.mpr ⟨lw_p66, List.forall_mem_cons.mpr ⟨lw_p67, List.forall_mem_cons.mpr ⟨lw_p68, List.forall_mem_cons.mpr ⟨lw_p69, List.forall_mem_cons.mpr ⟨lw_p70, List.forall_mem_cons.mpr ⟨lw_p71, List.forall_mem_cons.mpr ⟨lw_p72, List.forall_mem_cons.mpr ⟨lw_p73, List.forall_mem_cons.mpr ⟨lw_p74, List.forall_mem_cons.mpr ⟨lw_p75, List.forall_mem_cons.mpr ⟨lw_p76, List.forall_mem_cons.mpr ⟨lw_p77, fun _ h => absurd h List.not_mem_nil⟩⟩⟩⟩⟩⟩⟩⟩⟩⟩⟩⟩⟩⟩
def lw_privs : List (MethodName × Nat) := lw_privs_1 ++ (lw_privs_2 ++ (lw_privs_3 ++ (lw_privs_4 ++ (lw_privs_5))))
def lw_tbl : List Cond := k2_sels lw_privs ++ tables_1
theorem lw_privs_ok : ∀ q ∈ lw_privs, lw_okq q := by
  show ∀ q ∈ lw_privs_1 ++ (lw_privs_2 ++ (lw_privs_3 ++ (lw_privs_4 ++ (lw_privs_5)))), lw_okq q
  exact List.forall_mem_append.mpr ⟨lw_r1, List.forall_mem_append.mpr ⟨lw_r2, List.forall_mem_append.mpr ⟨lw_r3, List.forall_mem_append.mpr ⟨lw_r4, lw_r5⟩⟩⟩⟩
end
section
def RX0 : String := "HotKeys$Counters"
def TX0 : u_T := fun k => match k with
  | 0 => ("HotKeys$Counters", "keys", "[I", true)
  | 1 => ("HotKeys$Counters", "counts", "[I", true)
  | 2 => ("HotKeys$Counters", "errors", "[I", true)
  | 3 => ("HotKeys$Counters", "limit", "I", false)
  | _ => ("HotKeys$Counters", "used", "I", false)
def tyX0 : Nat → FieldType := fun k => match k with
  | 0 => .array .int
  | 1 => .array .int
  | 2 => .array .int
  | 3 => .int
  | _ => .int
abbrev wsX00 : List Cond := u_ws RX0 TX0 5
theorem nmX0 : ∀ a, a < 5 → ∀ b, b < 5 → a ≠ b → (TX0 a).2.1 ≠ (TX0 b).2.1 := by decide +kernel
theorem tyX0_ok : ∀ k, k < 5 → parseFieldDescriptor (TX0 k).2.2.1 = some (tyX0 k) := by decide +kernel
abbrev cX0_init : ByteArray := prog_2_method_1_code
def yX0_init : MethodName := ⟨RX0, "<init>", "()V"⟩
abbrev cX0_take : ByteArray := prog_2_method_2_code
def yX0_take : MethodName := ⟨RX0, "take", "(I)V"⟩
abbrev cX0_put : ByteArray := prog_2_method_3_code
def yX0_put : MethodName := ⟨RX0, "put", "(III)V"⟩
abbrev cX0_find : ByteArray := prog_2_method_4_code
def yX0_find : MethodName := ⟨RX0, "find", "(I)I"⟩
abbrev cX0_leastAt : ByteArray := prog_2_method_5_code
def yX0_leastAt : MethodName := ⟨RX0, "leastAt", "()I"⟩
abbrev cX0_keyAt : ByteArray := prog_2_method_6_code
def yX0_keyAt : MethodName := ⟨RX0, "keyAt", "(I)I"⟩
abbrev cX0_countAt : ByteArray := prog_2_method_7_code
def yX0_countAt : MethodName := ⟨RX0, "countAt", "(I)I"⟩
abbrev cX0_errorAt : ByteArray := prog_2_method_8_code
def yX0_errorAt : MethodName := ⟨RX0, "errorAt", "(I)I"⟩
abbrev cX0_surelyAt : ByteArray := prog_2_method_9_code
def yX0_surelyAt : MethodName := ⟨RX0, "surelyAt", "(I)I"⟩
abbrev cX0_atLeast : ByteArray := prog_2_method_10_code
def yX0_atLeast : MethodName := ⟨RX0, "atLeast", "(I)I"⟩
abbrev cX0_atMost : ByteArray := prog_2_method_11_code
def yX0_atMost : MethodName := ⟨RX0, "atMost", "(I)I"⟩
def RX1 : String := "HotKeys$Folds"
def TX1 : u_T := fun k => match k with
  | 0 => ("HotKeys$Folds", "kinds", "[I", true)
  | 1 => ("HotKeys$Folds", "declared", "[Z", true)
  | _ => ("HotKeys$Folds", "count", "I", false)
def tyX1 : Nat → FieldType := fun k => match k with
  | 0 => .array .int
  | 1 => .array .boolean
  | _ => .int
abbrev wsX10 : List Cond := u_ws RX1 TX1 3
theorem nmX1 : ∀ a, a < 3 → ∀ b, b < 3 → a ≠ b → (TX1 a).2.1 ≠ (TX1 b).2.1 := by decide +kernel
theorem tyX1_ok : ∀ k, k < 3 → parseFieldDescriptor (TX1 k).2.2.1 = some (tyX1 k) := by decide +kernel
abbrev cX1_init : ByteArray := prog_3_method_1_code
def yX1_init : MethodName := ⟨RX1, "<init>", "()V"⟩
abbrev cX1_add : ByteArray := prog_3_method_2_code
def yX1_add : MethodName := ⟨RX1, "add", "(IZ)I"⟩
abbrev cX1_allCanBeJoined : ByteArray := prog_3_method_3_code
def yX1_allCanBeJoined : MethodName := ⟨RX1, "allCanBeJoined", "()Z"⟩
abbrev cX1_emptyState : ByteArray := prog_3_method_4_code
def yX1_emptyState : MethodName := ⟨RX1, "emptyState", "(I)J"⟩
abbrev cX1_folded : ByteArray := prog_3_method_5_code
def yX1_folded : MethodName := ⟨RX1, "folded", "(IJIJ)J"⟩
abbrev cX1_joined : ByteArray := prog_3_method_6_code
def yX1_joined : MethodName := ⟨RX1, "joined", "(IJJZ)J"⟩
def RX2 : String := "HotKeys$KeyStates"
def TX2 : u_T := fun k => match k with
  | 0 => ("HotKeys$KeyStates", "folds", "LHotKeys$Folds;", true)
  | 1 => ("HotKeys$KeyStates", "partCounts", "[I", true)
  | 2 => ("HotKeys$KeyStates", "states", "[J", true)
  | 3 => ("HotKeys$KeyStates", "latestRows", "[I", true)
  | 4 => ("HotKeys$KeyStates", "latestValues", "[J", true)
  | _ => ("HotKeys$KeyStates", "moved", "I", false)
def tyX2 : Nat → FieldType := fun k => match k with
  | 0 => .object "HotKeys$Folds"
  | 1 => .array .int
  | 2 => .array .long
  | 3 => .array .int
  | 4 => .array .long
  | _ => .int
abbrev wsX20 : List Cond := u_ws RX2 TX2 6
theorem nmX2 : ∀ a, a < 6 → ∀ b, b < 6 → a ≠ b → (TX2 a).2.1 ≠ (TX2 b).2.1 := by decide +kernel
theorem tyX2_ok : ∀ k, k < 6 → parseFieldDescriptor (TX2 k).2.2.1 = some (tyX2 k) := by decide +kernel
abbrev cX2_init : ByteArray := prog_4_method_1_code
def yX2_init : MethodName := ⟨RX2, "<init>", "(LHotKeys$Folds;)V"⟩
abbrev cX2_forgetAll : ByteArray := prog_4_method_2_code
def yX2_forgetAll : MethodName := ⟨RX2, "forgetAll", "()V"⟩
abbrev cX2_makeAllOne : ByteArray := prog_4_method_3_code
def yX2_makeAllOne : MethodName := ⟨RX2, "makeAllOne", "()V"⟩
abbrev cX2_startFold : ByteArray := prog_4_method_4_code
def yX2_startFold : MethodName := ⟨RX2, "startFold", "(I)V"⟩
abbrev cX2_slot : ByteArray := prog_4_method_5_code
def yX2_slot : MethodName := ⟨RX2, "slot", "(II)I"⟩
abbrev cX2_cell : ByteArray := prog_4_method_6_code
def yX2_cell : MethodName := ⟨RX2, "cell", "(III)I"⟩
abbrev cX2_partCount : ByteArray := prog_4_method_7_code
def yX2_partCount : MethodName := ⟨RX2, "partCount", "(I)I"⟩
abbrev cX2_hasPart : ByteArray := prog_4_method_8_code
def yX2_hasPart : MethodName := ⟨RX2, "hasPart", "(II)Z"⟩
abbrev cX2_isSplit : ByteArray := prog_4_method_9_code
def yX2_isSplit : MethodName := ⟨RX2, "isSplit", "(I)Z"⟩
abbrev cX2_splitKeys : ByteArray := prog_4_method_10_code
def yX2_splitKeys : MethodName := ⟨RX2, "splitKeys", "()I"⟩
abbrev cX2_partState : ByteArray := prog_4_method_11_code
def yX2_partState : MethodName := ⟨RX2, "partState", "(III)J"⟩
abbrev cX2_take : ByteArray := prog_4_method_12_code
def yX2_take : MethodName := ⟨RX2, "take", "(IIII)V"⟩
abbrev cX2_joinedState : ByteArray := prog_4_method_13_code
def yX2_joinedState : MethodName := ⟨RX2, "joinedState", "(II)J"⟩
abbrev cX2_joinedLatestRow : ByteArray := prog_4_method_14_code
def yX2_joinedLatestRow : MethodName := ⟨RX2, "joinedLatestRow", "(I)I"⟩
abbrev cX2_emptyPart : ByteArray := prog_4_method_15_code
def yX2_emptyPart : MethodName := ⟨RX2, "emptyPart", "(II)V"⟩
abbrev cX2_emptyKey : ByteArray := prog_4_method_16_code
def yX2_emptyKey : MethodName := ⟨RX2, "emptyKey", "(I)V"⟩
abbrev cX2_breakUp : ByteArray := prog_4_method_17_code
def yX2_breakUp : MethodName := ⟨RX2, "breakUp", "(II)V"⟩
abbrev cX2_bringBack : ByteArray := prog_4_method_18_code
def yX2_bringBack : MethodName := ⟨RX2, "bringBack", "(I)I"⟩
abbrev cX2_holdIn : ByteArray := prog_4_method_19_code
def yX2_holdIn : MethodName := ⟨RX2, "holdIn", "(LHotKeys$Mark;)V"⟩
abbrev cX2_takeFrom : ByteArray := prog_4_method_20_code
def yX2_takeFrom : MethodName := ⟨RX2, "takeFrom", "(LHotKeys$Mark;)V"⟩
def RX3 : String := "HotKeys$Log"
def TX3 : u_T := fun k => match k with
  | 0 => ("HotKeys$Log", "cells", "[J", true)
  | 1 => ("HotKeys$Log", "newest", "I", false)
  | _ => ("HotKeys$Log", "kept", "I", false)
def tyX3 : Nat → FieldType := fun k => match k with
  | 0 => .array .long
  | 1 => .int
  | _ => .int
abbrev wsX30 : List Cond := u_ws RX3 TX3 3
theorem nmX3 : ∀ a, a < 3 → ∀ b, b < 3 → a ≠ b → (TX3 a).2.1 ≠ (TX3 b).2.1 := by decide +kernel
theorem tyX3_ok : ∀ k, k < 3 → parseFieldDescriptor (TX3 k).2.2.1 = some (tyX3 k) := by decide +kernel
abbrev cX3_init : ByteArray := prog_5_method_1_code
def yX3_init : MethodName := ⟨RX3, "<init>", "()V"⟩
abbrev cX3_open : ByteArray := prog_5_method_2_code
def yX3_open : MethodName := ⟨RX3, "open", "(II)I"⟩
abbrev cX3_write : ByteArray := prog_5_method_3_code
def yX3_write : MethodName := ⟨RX3, "write", "(IIJ)V"⟩
abbrev cX3_read : ByteArray := prog_5_method_4_code
def yX3_read : MethodName := ⟨RX3, "read", "(II)J"⟩
def RX4 : String := "HotKeys$Mark"
def TX4 : u_T := fun k => match k with
  | 0 => ("HotKeys$Mark", "states", "[J", true)
  | 1 => ("HotKeys$Mark", "latestRows", "[I", true)
  | 2 => ("HotKeys$Mark", "latestValues", "[J", true)
  | 3 => ("HotKeys$Mark", "smalls", "LHotKeys$Smalls;", true)
  | 4 => ("HotKeys$Mark", "timers", "LHotKeys$Timers;", true)
  | _ => ("HotKeys$Mark", "rows", "I", false)
def tyX4 : Nat → FieldType := fun k => match k with
  | 0 => .array .long
  | 1 => .array .int
  | 2 => .array .long
  | 3 => .object "HotKeys$Smalls"
  | 4 => .object "HotKeys$Timers"
  | _ => .int
abbrev wsX40 : List Cond := u_ws RX4 TX4 6
theorem nmX4 : ∀ a, a < 6 → ∀ b, b < 6 → a ≠ b → (TX4 a).2.1 ≠ (TX4 b).2.1 := by decide +kernel
theorem tyX4_ok : ∀ k, k < 6 → parseFieldDescriptor (TX4 k).2.2.1 = some (tyX4 k) := by decide +kernel
abbrev cX4_init : ByteArray := prog_6_method_1_code
def yX4_init : MethodName := ⟨RX4, "<init>", "()V"⟩
def RX5 : String := "HotKeys$Smalls"
def TX5 : u_T := fun k => match k with
  | 0 => ("HotKeys$Smalls", "keys", "[I", true)
  | 1 => ("HotKeys$Smalls", "weights", "[I", true)
  | 2 => ("HotKeys$Smalls", "count", "I", false)
  | 3 => ("HotKeys$Smalls", "matches", "I", false)
  | _ => ("HotKeys$Smalls", "out", "J", false)
def tyX5 : Nat → FieldType := fun k => match k with
  | 0 => .array .int
  | 1 => .array .int
  | 2 => .int
  | 3 => .int
  | _ => .long
abbrev wsX50 : List Cond := u_ws RX5 TX5 5
theorem nmX5 : ∀ a, a < 5 → ∀ b, b < 5 → a ≠ b → (TX5 a).2.1 ≠ (TX5 b).2.1 := by decide +kernel
theorem tyX5_ok : ∀ k, k < 5 → parseFieldDescriptor (TX5 k).2.2.1 = some (tyX5 k) := by decide +kernel
abbrev cX5_init : ByteArray := prog_7_method_1_code
def yX5_init : MethodName := ⟨RX5, "<init>", "()V"⟩
abbrev cX5_forgetAll : ByteArray := prog_7_method_2_code
def yX5_forgetAll : MethodName := ⟨RX5, "forgetAll", "()V"⟩
abbrev cX5_add : ByteArray := prog_7_method_3_code
def yX5_add : MethodName := ⟨RX5, "add", "(II)V"⟩
abbrev cX5_meet : ByteArray := prog_7_method_4_code
def yX5_meet : MethodName := ⟨RX5, "meet", "(II)V"⟩
abbrev cX5_copyFrom : ByteArray := prog_7_method_5_code
def yX5_copyFrom : MethodName := ⟨RX5, "copyFrom", "(LHotKeys$Smalls;)V"⟩
def RX6 : String := "HotKeys$Timers"
def TX6 : u_T := fun k => match k with
  | 0 => ("HotKeys$Timers", "keys", "[I", true)
  | 1 => ("HotKeys$Timers", "times", "[I", true)
  | 2 => ("HotKeys$Timers", "count", "I", false)
  | _ => ("HotKeys$Timers", "now", "I", false)
def tyX6 : Nat → FieldType := fun k => match k with
  | 0 => .array .int
  | 1 => .array .int
  | 2 => .int
  | _ => .int
abbrev wsX60 : List Cond := u_ws RX6 TX6 4
theorem nmX6 : ∀ a, a < 4 → ∀ b, b < 4 → a ≠ b → (TX6 a).2.1 ≠ (TX6 b).2.1 := by decide +kernel
theorem tyX6_ok : ∀ k, k < 4 → parseFieldDescriptor (TX6 k).2.2.1 = some (tyX6 k) := by decide +kernel
abbrev cX6_init : ByteArray := prog_8_method_1_code
def yX6_init : MethodName := ⟨RX6, "<init>", "()V"⟩
abbrev cX6_forgetAll : ByteArray := prog_8_method_2_code
def yX6_forgetAll : MethodName := ⟨RX6, "forgetAll", "()V"⟩
abbrev cX6_dueAt : ByteArray := prog_8_method_3_code
def yX6_dueAt : MethodName := ⟨RX6, "dueAt", "(I)I"⟩
abbrev cX6_add : ByteArray := prog_8_method_4_code
def yX6_add : MethodName := ⟨RX6, "add", "(II)V"⟩
abbrev cX6_dropFirst : ByteArray := prog_8_method_5_code
def yX6_dropFirst : MethodName := ⟨RX6, "dropFirst", "(I)V"⟩
abbrev cX6_copyFrom : ByteArray := prog_8_method_6_code
def yX6_copyFrom : MethodName := ⟨RX6, "copyFrom", "(LHotKeys$Timers;)V"⟩
def RX7 : String := "HotKeys"
def TX7 : u_T := fun k => match k with
  | 0 => ("HotKeys", "places", "I", false)
  | 1 => ("HotKeys", "round", "I", false)
  | 2 => ("HotKeys", "threshold", "I", false)
  | 3 => ("HotKeys", "slack", "I", false)
  | 4 => ("HotKeys", "folds", "LHotKeys$Folds;", true)
  | 5 => ("HotKeys", "keyStates", "LHotKeys$KeyStates;", true)
  | 6 => ("HotKeys", "counters", "LHotKeys$Counters;", true)
  | 7 => ("HotKeys", "smalls", "LHotKeys$Smalls;", true)
  | 8 => ("HotKeys", "timers", "LHotKeys$Timers;", true)
  | 9 => ("HotKeys", "log", "LHotKeys$Log;", true)
  | 10 => ("HotKeys", "marks", "[LHotKeys$Mark;", true)
  | 11 => ("HotKeys", "loads", "[I", true)
  | 12 => ("HotKeys", "markCount", "I", false)
  | 13 => ("HotKeys", "rows", "I", false)
  | 14 => ("HotKeys", "roundRows", "I", false)
  | 15 => ("HotKeys", "rounds", "I", false)
  | 16 => ("HotKeys", "flips", "I", false)
  | _ => ("HotKeys", "passedOver", "I", false)
def tyX7 : Nat → FieldType := fun k => match k with
  | 0 => .int
  | 1 => .int
  | 2 => .int
  | 3 => .int
  | 4 => .object "HotKeys$Folds"
  | 5 => .object "HotKeys$KeyStates"
  | 6 => .object "HotKeys$Counters"
  | 7 => .object "HotKeys$Smalls"
  | 8 => .object "HotKeys$Timers"
  | 9 => .object "HotKeys$Log"
  | 10 => .array (.object "HotKeys$Mark")
  | 11 => .array .int
  | 12 => .int
  | 13 => .int
  | 14 => .int
  | 15 => .int
  | 16 => .int
  | _ => .int
abbrev wsX70 : List Cond := u_ws RX7 TX7 18
theorem nmX7 : ∀ a, a < 18 → ∀ b, b < 18 → a ≠ b → (TX7 a).2.1 ≠ (TX7 b).2.1 := by decide +kernel
theorem tyX7_ok : ∀ k, k < 18 → parseFieldDescriptor (TX7 k).2.2.1 = some (tyX7 k) := by decide +kernel
abbrev cX7_init : ByteArray := prog_1_method_1_code
def yX7_init : MethodName := ⟨RX7, "<init>", "()V"⟩
abbrev cX7_shape : ByteArray := prog_1_method_2_code
def yX7_shape : MethodName := ⟨RX7, "shape", "(IIIII)I"⟩
abbrev cX7_fold : ByteArray := prog_1_method_3_code
def yX7_fold : MethodName := ⟨RX7, "fold", "(IZ)I"⟩
abbrev cX7_row : ByteArray := prog_1_method_4_code
def yX7_row : MethodName := ⟨RX7, "row", "(II)I"⟩
abbrev cX7_state : ByteArray := prog_1_method_5_code
def yX7_state : MethodName := ⟨RX7, "state", "(II)J"⟩
abbrev cX7_part : ByteArray := prog_1_method_6_code
def yX7_part : MethodName := ⟨RX7, "part", "(III)J"⟩
abbrev cX7_parts : ByteArray := prog_1_method_7_code
def yX7_parts : MethodName := ⟨RX7, "parts", "(I)I"⟩
abbrev cX7_place : ByteArray := prog_1_method_8_code
def yX7_place : MethodName := ⟨RX7, "place", "(II)I"⟩
abbrev cX7_split : ByteArray := prog_1_method_9_code
def yX7_split : MethodName := ⟨RX7, "split", "(II)I"⟩
abbrev cX7_back : ByteArray := prog_1_method_10_code
def yX7_back : MethodName := ⟨RX7, "back", "(I)I"⟩
abbrev cX7_tree : ByteArray := prog_1_method_11_code
def yX7_tree : MethodName := ⟨RX7, "tree", "(II)I"⟩
abbrev cX7_counter : ByteArray := prog_1_method_12_code
def yX7_counter : MethodName := ⟨RX7, "counter", "(II)I"⟩
abbrev cX7_hot : ByteArray := prog_1_method_13_code
def yX7_hot : MethodName := ⟨RX7, "hot", "(I)I"⟩
abbrev cX7_splitKey : ByteArray := prog_1_method_14_code
def yX7_splitKey : MethodName := ⟨RX7, "splitKey", "(I)I"⟩
abbrev cX7_load : ByteArray := prog_1_method_15_code
def yX7_load : MethodName := ⟨RX7, "load", "(I)I"⟩
abbrev cX7_small : ByteArray := prog_1_method_16_code
def yX7_small : MethodName := ⟨RX7, "small", "(II)I"⟩
abbrev cX7_copies : ByteArray := prog_1_method_17_code
def yX7_copies : MethodName := ⟨RX7, "copies", "(I)I"⟩
abbrev cX7_out : ByteArray := prog_1_method_18_code
def yX7_out : MethodName := ⟨RX7, "out", "()J"⟩
abbrev cX7_timer : ByteArray := prog_1_method_19_code
def yX7_timer : MethodName := ⟨RX7, "timer", "(II)I"⟩
abbrev cX7_tick : ByteArray := prog_1_method_20_code
def yX7_tick : MethodName := ⟨RX7, "tick", "(I)I"⟩
abbrev cX7_log : ByteArray := prog_1_method_21_code
def yX7_log : MethodName := ⟨RX7, "log", "(II)J"⟩
abbrev cX7_mark : ByteArray := prog_1_method_22_code
def yX7_mark : MethodName := ⟨RX7, "mark", "()I"⟩
abbrev cX7_restore : ByteArray := prog_1_method_23_code
def yX7_restore : MethodName := ⟨RX7, "restore", "(I)I"⟩
abbrev cX7_told : ByteArray := prog_1_method_24_code
def yX7_told : MethodName := ⟨RX7, "told", "(I)I"⟩
abbrev cX7_clear : ByteArray := prog_1_method_25_code
def yX7_clear : MethodName := ⟨RX7, "clear", "()I"⟩
abbrev cX7_begin : ByteArray := prog_1_method_26_code
def yX7_begin : MethodName := ⟨RX7, "begin", "()V"⟩
abbrev cX7_beginWork : ByteArray := prog_1_method_27_code
def yX7_beginWork : MethodName := ⟨RX7, "beginWork", "()V"⟩
abbrev cX7_setShape : ByteArray := prog_1_method_28_code
def yX7_setShape : MethodName := ⟨RX7, "setShape", "(IIIII)V"⟩
abbrev cX7_isWithin : ByteArray := prog_1_method_29_code
def yX7_isWithin : MethodName := ⟨RX7, "isWithin", "(III)Z"⟩
abbrev cX7_isKey : ByteArray := prog_1_method_30_code
def yX7_isKey : MethodName := ⟨RX7, "isKey", "(I)Z"⟩
abbrev cX7_isFold : ByteArray := prog_1_method_31_code
def yX7_isFold : MethodName := ⟨RX7, "isFold", "(I)Z"⟩
abbrev cX7_isPlace : ByteArray := prog_1_method_32_code
def yX7_isPlace : MethodName := ⟨RX7, "isPlace", "(I)Z"⟩
abbrev cX7_remainder : ByteArray := prog_1_method_33_code
def yX7_remainder : MethodName := ⟨RX7, "remainder", "(II)I"⟩
abbrev cX7_quotient : ByteArray := prog_1_method_34_code
def yX7_quotient : MethodName := ⟨RX7, "quotient", "(II)I"⟩
abbrev cX7_partOfRow : ByteArray := prog_1_method_35_code
def yX7_partOfRow : MethodName := ⟨RX7, "partOfRow", "(II)I"⟩
abbrev cX7_placeOfPart : ByteArray := prog_1_method_36_code
def yX7_placeOfPart : MethodName := ⟨RX7, "placeOfPart", "(II)I"⟩
abbrev cX7_hasPartAt : ByteArray := prog_1_method_37_code
def yX7_hasPartAt : MethodName := ⟨RX7, "hasPartAt", "(II)Z"⟩
abbrev cX7_joinOfTree : ByteArray := prog_1_method_38_code
def yX7_joinOfTree : MethodName := ⟨RX7, "joinOfTree", "(II)I"⟩
abbrev cX7_endRound : ByteArray := prog_1_method_39_code
def yX7_endRound : MethodName := ⟨RX7, "endRound", "()V"⟩
abbrev cX7_splitHotKeys : ByteArray := prog_1_method_40_code
def yX7_splitHotKeys : MethodName := ⟨RX7, "splitHotKeys", "()V"⟩
abbrev cX7_joinCoolKeys : ByteArray := prog_1_method_41_code
def yX7_joinCoolKeys : MethodName := ⟨RX7, "joinCoolKeys", "()V"⟩
abbrev cX7_ring : ByteArray := prog_1_method_42_code
def yX7_ring : MethodName := ⟨RX7, "ring", "(II)V"⟩
def RX8 : String := "HotKeysModel"
def TX8 : u_T := fun k => match k with
  | 0 => ("HotKeysModel", "p", "I", false)
  | 1 => ("HotKeysModel", "\x72", "I", false)
  | 2 => ("HotKeysModel", "t", "I", false)
  | 3 => ("HotKeysModel", "slack", "I", false)
  | 4 => ("HotKeysModel", "m", "I", false)
  | 5 => ("HotKeysModel", "folds", "I", false)
  | 6 => ("HotKeysModel", "kinds", "[I", true)
  | 7 => ("HotKeysModel", "declared", "[Z", true)
  | 8 => ("HotKeysModel", "states", "[J", true)
  | 9 => ("HotKeysModel", "lastRow", "[I", true)
  | 10 => ("HotKeysModel", "lastValue", "[I", true)
  | 11 => ("HotKeysModel", "hasValue", "[Z", true)
  | 12 => ("HotKeysModel", "touched", "[Z", true)
  | 13 => ("HotKeysModel", "parts", "[I", true)
  | 14 => ("HotKeysModel", "rows", "I", false)
  | 15 => ("HotKeysModel", "inRound", "I", false)
  | 16 => ("HotKeysModel", "rounds", "I", false)
  | 17 => ("HotKeysModel", "flips", "I", false)
  | 18 => ("HotKeysModel", "passed", "I", false)
  | 19 => ("HotKeysModel", "matches", "I", false)
  | 20 => ("HotKeysModel", "moved", "I", false)
  | 21 => ("HotKeysModel", "time", "I", false)
  | 22 => ("HotKeysModel", "out", "J", false)
  | 23 => ("HotKeysModel", "loads", "[I", true)
  | 24 => ("HotKeysModel", "counterKey", "[I", true)
  | 25 => ("HotKeysModel", "counterCount", "[I", true)
  | 26 => ("HotKeysModel", "counterError", "[I", true)
  | 27 => ("HotKeysModel", "smalls", "I", false)
  | 28 => ("HotKeysModel", "smallKey", "[I", true)
  | 29 => ("HotKeysModel", "smallWeight", "[I", true)
  | 30 => ("HotKeysModel", "timers", "I", false)
  | 31 => ("HotKeysModel", "timerKey", "[I", true)
  | 32 => ("HotKeysModel", "timerTime", "[I", true)
  | 33 => ("HotKeysModel", "logged", "I", false)
  | 34 => ("HotKeysModel", "logKey", "[I", true)
  | 35 => ("HotKeysModel", "logTime", "[I", true)
  | 36 => ("HotKeysModel", "logState", "[J", true)
  | 37 => ("HotKeysModel", "marks", "I", false)
  | 38 => ("HotKeysModel", "markState", "[J", true)
  | 39 => ("HotKeysModel", "markValue", "[I", true)
  | 40 => ("HotKeysModel", "markHas", "[Z", true)
  | 41 => ("HotKeysModel", "markSmalls", "[I", true)
  | 42 => ("HotKeysModel", "markSmallKey", "[I", true)
  | 43 => ("HotKeysModel", "markSmallWeight", "[I", true)
  | 44 => ("HotKeysModel", "markTimers", "[I", true)
  | 45 => ("HotKeysModel", "markTimerKey", "[I", true)
  | 46 => ("HotKeysModel", "markTimerTime", "[I", true)
  | 47 => ("HotKeysModel", "markTime", "[I", true)
  | 48 => ("HotKeysModel", "markRows", "[I", true)
  | 49 => ("HotKeysModel", "markMatches", "[I", true)
  | 50 => ("HotKeysModel", "markOut", "[J", true)
  | _ => ("HotKeysModel", "comes", "[J", true)
def tyX8 : Nat → FieldType := fun k => match k with
  | 0 => .int
  | 1 => .int
  | 2 => .int
  | 3 => .int
  | 4 => .int
  | 5 => .int
  | 6 => .array .int
  | 7 => .array .boolean
  | 8 => .array .long
  | 9 => .array .int
  | 10 => .array .int
  | 11 => .array .boolean
  | 12 => .array .boolean
  | 13 => .array .int
  | 14 => .int
  | 15 => .int
  | 16 => .int
  | 17 => .int
  | 18 => .int
  | 19 => .int
  | 20 => .int
  | 21 => .int
  | 22 => .long
  | 23 => .array .int
  | 24 => .array .int
  | 25 => .array .int
  | 26 => .array .int
  | 27 => .int
  | 28 => .array .int
  | 29 => .array .int
  | 30 => .int
  | 31 => .array .int
  | 32 => .array .int
  | 33 => .int
  | 34 => .array .int
  | 35 => .array .int
  | 36 => .array .long
  | 37 => .int
  | 38 => .array .long
  | 39 => .array .int
  | 40 => .array .boolean
  | 41 => .array .int
  | 42 => .array .int
  | 43 => .array .int
  | 44 => .array .int
  | 45 => .array .int
  | 46 => .array .int
  | 47 => .array .int
  | 48 => .array .int
  | 49 => .array .int
  | 50 => .array .long
  | _ => .array .long
abbrev wsX80 : List Cond := u_ws RX8 TX8 52
theorem nmX8 : ∀ a, a < 52 → ∀ b, b < 52 → a ≠ b → (TX8 a).2.1 ≠ (TX8 b).2.1 := by decide +kernel
theorem tyX8_ok : ∀ k, k < 52 → parseFieldDescriptor (TX8 k).2.2.1 = some (tyX8 k) := by decide +kernel
abbrev cX8_init : ByteArray := prog_10_method_1_code
def yX8_init : MethodName := ⟨RX8, "<init>", "()V"⟩
abbrev cX8_in : ByteArray := prog_10_method_2_code
def yX8_in : MethodName := ⟨RX8, "in", "(JJJ)Z"⟩
abbrev cX8_begin : ByteArray := prog_10_method_3_code
def yX8_begin : MethodName := ⟨RX8, "begin", "()V"⟩
abbrev cX8_freshRun : ByteArray := prog_10_method_4_code
def yX8_freshRun : MethodName := ⟨RX8, "freshRun", "()V"⟩
abbrev cX8_freshRound : ByteArray := prog_10_method_5_code
def yX8_freshRound : MethodName := ⟨RX8, "freshRound", "()V"⟩
abbrev cX8_emptyOf : ByteArray := prog_10_method_6_code
def yX8_emptyOf : MethodName := ⟨RX8, "emptyOf", "(I)J"⟩
abbrev cX8_slot : ByteArray := prog_10_method_7_code
def yX8_slot : MethodName := ⟨RX8, "slot", "(II)I"⟩
abbrev cX8_empty : ByteArray := prog_10_method_8_code
def yX8_empty : MethodName := ⟨RX8, "empty", "(II)V"⟩
abbrev cX8_noKey : ByteArray := prog_10_method_9_code
def yX8_noKey : MethodName := ⟨RX8, "noKey", "(I)Z"⟩
abbrev cX8_home : ByteArray := prog_10_method_10_code
def yX8_home : MethodName := ⟨RX8, "home", "(I)I"⟩
abbrev cX8_placeOf : ByteArray := prog_10_method_11_code
def yX8_placeOf : MethodName := ⟨RX8, "placeOf", "(II)I"⟩
abbrev cX8_shape : ByteArray := prog_10_method_12_code
def yX8_shape : MethodName := ⟨RX8, "shape", "(IIIII)I"⟩
abbrev cX8_splitKeys : ByteArray := prog_10_method_13_code
def yX8_splitKeys : MethodName := ⟨RX8, "splitKeys", "()I"⟩
abbrev cX8_fold : ByteArray := prog_10_method_14_code
def yX8_fold : MethodName := ⟨RX8, "fold", "(IZ)I"⟩
abbrev cX8_folded : ByteArray := prog_10_method_15_code
def yX8_folded : MethodName := ⟨RX8, "folded", "(IJIZ)J"⟩
abbrev cX8_partOfRow : ByteArray := prog_10_method_16_code
def yX8_partOfRow : MethodName := ⟨RX8, "partOfRow", "(II)I"⟩
abbrev cX8_row : ByteArray := prog_10_method_17_code
def yX8_row : MethodName := ⟨RX8, "row", "(II)I"⟩
abbrev cX8_counterOf : ByteArray := prog_10_method_18_code
def yX8_counterOf : MethodName := ⟨RX8, "counterOf", "(I)I"⟩
abbrev cX8_weakest : ByteArray := prog_10_method_19_code
def yX8_weakest : MethodName := ⟨RX8, "weakest", "()I"⟩
abbrev cX8_countKey : ByteArray := prog_10_method_20_code
def yX8_countKey : MethodName := ⟨RX8, "countKey", "(I)V"⟩
abbrev cX8_canSplit : ByteArray := prog_10_method_21_code
def yX8_canSplit : MethodName := ⟨RX8, "canSplit", "()Z"⟩
abbrev cX8_makeParts : ByteArray := prog_10_method_22_code
def yX8_makeParts : MethodName := ⟨RX8, "makeParts", "(II)V"⟩
abbrev cX8_mostOf : ByteArray := prog_10_method_23_code
def yX8_mostOf : MethodName := ⟨RX8, "mostOf", "(I)I"⟩
abbrev cX8_endRound : ByteArray := prog_10_method_24_code
def yX8_endRound : MethodName := ⟨RX8, "endRound", "()V"⟩
abbrev cX8_joinedOf : ByteArray := prog_10_method_25_code
def yX8_joinedOf : MethodName := ⟨RX8, "joinedOf", "(IJJZ)J"⟩
abbrev cX8_come : ByteArray := prog_10_method_26_code
def yX8_come : MethodName := ⟨RX8, "come", "(II)J"⟩
abbrev cX8_joinBack : ByteArray := prog_10_method_27_code
def yX8_joinBack : MethodName := ⟨RX8, "joinBack", "(I)I"⟩
abbrev cX8_state : ByteArray := prog_10_method_28_code
def yX8_state : MethodName := ⟨RX8, "state", "(II)J"⟩
abbrev cX8_part : ByteArray := prog_10_method_29_code
def yX8_part : MethodName := ⟨RX8, "part", "(III)J"⟩
abbrev cX8_parts : ByteArray := prog_10_method_30_code
def yX8_parts : MethodName := ⟨RX8, "parts", "(I)I"⟩
abbrev cX8_place : ByteArray := prog_10_method_31_code
def yX8_place : MethodName := ⟨RX8, "place", "(II)I"⟩
abbrev cX8_split : ByteArray := prog_10_method_32_code
def yX8_split : MethodName := ⟨RX8, "split", "(II)I"⟩
abbrev cX8_back : ByteArray := prog_10_method_33_code
def yX8_back : MethodName := ⟨RX8, "back", "(I)I"⟩
abbrev cX8_tree : ByteArray := prog_10_method_34_code
def yX8_tree : MethodName := ⟨RX8, "tree", "(II)I"⟩
abbrev cX8_counter : ByteArray := prog_10_method_35_code
def yX8_counter : MethodName := ⟨RX8, "counter", "(II)I"⟩
abbrev cX8_hot : ByteArray := prog_10_method_36_code
def yX8_hot : MethodName := ⟨RX8, "hot", "(I)I"⟩
abbrev cX8_splitKey : ByteArray := prog_10_method_37_code
def yX8_splitKey : MethodName := ⟨RX8, "splitKey", "(I)I"⟩
abbrev cX8_load : ByteArray := prog_10_method_38_code
def yX8_load : MethodName := ⟨RX8, "load", "(I)I"⟩
abbrev cX8_small : ByteArray := prog_10_method_39_code
def yX8_small : MethodName := ⟨RX8, "small", "(II)I"⟩
abbrev cX8_copies : ByteArray := prog_10_method_40_code
def yX8_copies : MethodName := ⟨RX8, "copies", "(I)I"⟩
abbrev cX8_out : ByteArray := prog_10_method_41_code
def yX8_out : MethodName := ⟨RX8, "out", "()J"⟩
abbrev cX8_timer : ByteArray := prog_10_method_42_code
def yX8_timer : MethodName := ⟨RX8, "timer", "(II)I"⟩
abbrev cX8_due : ByteArray := prog_10_method_43_code
def yX8_due : MethodName := ⟨RX8, "due", "(I)I"⟩
abbrev cX8_ring : ByteArray := prog_10_method_44_code
def yX8_ring : MethodName := ⟨RX8, "ring", "(I)V"⟩
abbrev cX8_tick : ByteArray := prog_10_method_45_code
def yX8_tick : MethodName := ⟨RX8, "tick", "(I)I"⟩
abbrev cX8_keptLogs : ByteArray := prog_10_method_46_code
def yX8_keptLogs : MethodName := ⟨RX8, "keptLogs", "()I"⟩
abbrev cX8_log : ByteArray := prog_10_method_47_code
def yX8_log : MethodName := ⟨RX8, "log", "(II)J"⟩
abbrev cX8_mark : ByteArray := prog_10_method_48_code
def yX8_mark : MethodName := ⟨RX8, "mark", "()I"⟩
abbrev cX8_restore : ByteArray := prog_10_method_49_code
def yX8_restore : MethodName := ⟨RX8, "restore", "(I)I"⟩
abbrev cX8_told : ByteArray := prog_10_method_50_code
def yX8_told : MethodName := ⟨RX8, "told", "(I)I"⟩
abbrev cX8_clear : ByteArray := prog_10_method_51_code
def yX8_clear : MethodName := ⟨RX8, "clear", "()I"⟩
def RJ9 : String := "java/lang/Math"
def TJ9 : u_T := fun k => match k with
  | _ => ("", "", "", false)
def tyJ9 : Nat → FieldType := fun k => match k with
  | _ => .int
abbrev wsJ90 : List Cond := u_ws RJ9 TJ9 0
theorem nmJ9 : ∀ a, a < 0 → ∀ b, b < 0 → a ≠ b → (TJ9 a).2.1 ≠ (TJ9 b).2.1 := by decide +kernel
theorem tyJ9_ok : ∀ k, k < 0 → parseFieldDescriptor (TJ9 k).2.2.1 = some (tyJ9 k) := by decide +kernel
abbrev cJ9_floorMod_7cf53 : ByteArray := prog_11_method_50_code
def yJ9_floorMod_7cf53 : MethodName := ⟨RJ9, "floorMod", "(II)I"⟩
abbrev cJ9_max_7cf53 : ByteArray := prog_11_method_65_code
def yJ9_max_7cf53 : MethodName := ⟨RJ9, "max", "(II)I"⟩
abbrev cJ9_max_f86c9 : ByteArray := prog_11_method_66_code
def yJ9_max_f86c9 : MethodName := ⟨RJ9, "max", "(JJ)J"⟩
abbrev cJ9_min_7cf53 : ByteArray := prog_11_method_69_code
def yJ9_min_7cf53 : MethodName := ⟨RJ9, "min", "(II)I"⟩
abbrev cJ9_min_f86c9 : ByteArray := prog_11_method_70_code
def yJ9_min_f86c9 : MethodName := ⟨RJ9, "min", "(JJ)J"⟩
def RJ10 : String := "java/lang/System"
def TJ10 : u_T := fun k => match k with
  | _ => ("", "", "", false)
def tyJ10 : Nat → FieldType := fun k => match k with
  | _ => .int
abbrev wsJ100 : List Cond := u_ws RJ10 TJ10 0
theorem nmJ10 : ∀ a, a < 0 → ∀ b, b < 0 → a ≠ b → (TJ10 a).2.1 ≠ (TJ10 b).2.1 := by decide +kernel
theorem tyJ10_ok : ∀ k, k < 0 → parseFieldDescriptor (TJ10 k).2.2.1 = some (tyJ10 k) := by decide +kernel
def RJ7 : String := "java/util/Arrays"
def TJ7 : u_T := fun k => match k with
  | _ => ("", "", "", false)
def tyJ7 : Nat → FieldType := fun k => match k with
  | _ => .int
abbrev wsJ70 : List Cond := u_ws RJ7 TJ7 0
theorem nmJ7 : ∀ a, a < 0 → ∀ b, b < 0 → a ≠ b → (TJ7 a).2.1 ≠ (TJ7 b).2.1 := by decide +kernel
theorem tyJ7_ok : ∀ k, k < 0 → parseFieldDescriptor (TJ7 k).2.2.1 = some (tyJ7 k) := by decide +kernel
abbrev cJ7_rangeCheck_23922 : ByteArray := prog_13_method_30_code
def yJ7_rangeCheck_23922 : MethodName := ⟨RJ7, "rangeCheck", "(III)V"⟩
abbrev cJ7_fill_d0a16 : ByteArray := prog_13_method_101_code
def yJ7_fill_d0a16 : MethodName := ⟨RJ7, "fill", "([JJ)V"⟩
abbrev cJ7_fill_bad5a : ByteArray := prog_13_method_102_code
def yJ7_fill_bad5a : MethodName := ⟨RJ7, "fill", "([JIIJ)V"⟩
abbrev cJ7_fill_53178 : ByteArray := prog_13_method_103_code
def yJ7_fill_53178 : MethodName := ⟨RJ7, "fill", "([II)V"⟩
def RL : String := "HotKeysLaw"
abbrev cL_law : ByteArray := code
def yL_law : MethodName := ⟨RL, "law", "([I)Z"⟩
abbrev vwCl : List vw_C := [(RX0, TX0, 5), (RX1, TX1, 3), (RX2, TX2, 6), (RX3, TX3, 3), (RX4, TX4, 6), (RX5, TX5, 5), (RX6, TX6, 4), (RX7, TX7, 18), (RX8, TX8, 52)]
end
section
theorem dJ7_rangeCheck_23922_0 : decode cJ7_rangeCheck_23922 0 = .ok (.iload_n 1, 1) := by decide +kernel
theorem dJ7_rangeCheck_23922_1 : decode cJ7_rangeCheck_23922 1 = .ok (.iload_n 2, 1) := by decide +kernel
theorem dJ7_rangeCheck_23922_2 : decode cJ7_rangeCheck_23922 2 = .ok (.if_icmp .le 44, 3) := by decide +kernel
theorem dJ7_rangeCheck_23922_5 : decode cJ7_rangeCheck_23922 5 = .ok (.new 43, 3) := by decide +kernel
theorem dJ7_rangeCheck_23922_8 : decode cJ7_rangeCheck_23922 8 = .ok (.dup, 1) := by decide +kernel
theorem dJ7_rangeCheck_23922_9 : decode cJ7_rangeCheck_23922 9 = .ok (.new 45, 3) := by decide +kernel
theorem dJ7_rangeCheck_23922_12 : decode cJ7_rangeCheck_23922 12 = .ok (.dup, 1) := by decide +kernel
theorem dJ7_rangeCheck_23922_13 : decode cJ7_rangeCheck_23922 13 = .ok (.invokespecial 47, 3) := by decide +kernel
theorem dJ7_rangeCheck_23922_16 : decode cJ7_rangeCheck_23922 16 = .ok (.ldc 48, 2) := by decide +kernel
theorem dJ7_rangeCheck_23922_18 : decode cJ7_rangeCheck_23922 18 = .ok (.invokevirtual 50, 3) := by decide +kernel
theorem dJ7_rangeCheck_23922_21 : decode cJ7_rangeCheck_23922 21 = .ok (.iload_n 1, 1) := by decide +kernel
theorem dJ7_rangeCheck_23922_22 : decode cJ7_rangeCheck_23922 22 = .ok (.invokevirtual 54, 3) := by decide +kernel
theorem dJ7_rangeCheck_23922_25 : decode cJ7_rangeCheck_23922 25 = .ok (.ldc 57, 2) := by decide +kernel
theorem dJ7_rangeCheck_23922_27 : decode cJ7_rangeCheck_23922 27 = .ok (.invokevirtual 50, 3) := by decide +kernel
theorem dJ7_rangeCheck_23922_30 : decode cJ7_rangeCheck_23922 30 = .ok (.iload_n 2, 1) := by decide +kernel
theorem dJ7_rangeCheck_23922_31 : decode cJ7_rangeCheck_23922 31 = .ok (.invokevirtual 54, 3) := by decide +kernel
theorem dJ7_rangeCheck_23922_34 : decode cJ7_rangeCheck_23922 34 = .ok (.ldc 59, 2) := by decide +kernel
theorem dJ7_rangeCheck_23922_36 : decode cJ7_rangeCheck_23922 36 = .ok (.invokevirtual 50, 3) := by decide +kernel
theorem dJ7_rangeCheck_23922_39 : decode cJ7_rangeCheck_23922 39 = .ok (.invokevirtual 61, 3) := by decide +kernel
theorem dJ7_rangeCheck_23922_42 : decode cJ7_rangeCheck_23922 42 = .ok (.invokespecial 65, 3) := by decide +kernel
theorem dJ7_rangeCheck_23922_45 : decode cJ7_rangeCheck_23922 45 = .ok (.athrow, 1) := by decide +kernel
theorem dJ7_rangeCheck_23922_46 : decode cJ7_rangeCheck_23922 46 = .ok (.iload_n 1, 1) := by decide +kernel
theorem dJ7_rangeCheck_23922_47 : decode cJ7_rangeCheck_23922 47 = .ok (.ifCond .ge 12, 3) := by decide +kernel
theorem dJ7_rangeCheck_23922_50 : decode cJ7_rangeCheck_23922 50 = .ok (.new 68, 3) := by decide +kernel
theorem dJ7_rangeCheck_23922_53 : decode cJ7_rangeCheck_23922 53 = .ok (.dup, 1) := by decide +kernel
theorem dJ7_rangeCheck_23922_54 : decode cJ7_rangeCheck_23922 54 = .ok (.iload_n 1, 1) := by decide +kernel
theorem dJ7_rangeCheck_23922_55 : decode cJ7_rangeCheck_23922 55 = .ok (.invokespecial 70, 3) := by decide +kernel
theorem dJ7_rangeCheck_23922_58 : decode cJ7_rangeCheck_23922 58 = .ok (.athrow, 1) := by decide +kernel
theorem dJ7_rangeCheck_23922_59 : decode cJ7_rangeCheck_23922 59 = .ok (.iload_n 2, 1) := by decide +kernel
theorem dJ7_rangeCheck_23922_60 : decode cJ7_rangeCheck_23922 60 = .ok (.iload_n 0, 1) := by decide +kernel
theorem dJ7_rangeCheck_23922_61 : decode cJ7_rangeCheck_23922 61 = .ok (.if_icmp .le 12, 3) := by decide +kernel
theorem dJ7_rangeCheck_23922_64 : decode cJ7_rangeCheck_23922 64 = .ok (.new 68, 3) := by decide +kernel
theorem dJ7_rangeCheck_23922_67 : decode cJ7_rangeCheck_23922 67 = .ok (.dup, 1) := by decide +kernel
theorem dJ7_rangeCheck_23922_68 : decode cJ7_rangeCheck_23922 68 = .ok (.iload_n 2, 1) := by decide +kernel
theorem dJ7_rangeCheck_23922_69 : decode cJ7_rangeCheck_23922 69 = .ok (.invokespecial 70, 3) := by decide +kernel
theorem dJ7_rangeCheck_23922_72 : decode cJ7_rangeCheck_23922 72 = .ok (.athrow, 1) := by decide +kernel
theorem dJ7_rangeCheck_23922_73 : decode cJ7_rangeCheck_23922 73 = .ok (.return_, 1) := by decide +kernel
theorem dJ7_fill_d0a16_0 : decode cJ7_fill_d0a16 0 = .ok (.iconst 0, 1) := by decide +kernel
theorem dJ7_fill_d0a16_1 : decode cJ7_fill_d0a16 1 = .ok (.istore_n 3, 1) := by decide +kernel
theorem dJ7_fill_d0a16_2 : decode cJ7_fill_d0a16 2 = .ok (.aload_n 0, 1) := by decide +kernel
theorem dJ7_fill_d0a16_3 : decode cJ7_fill_d0a16 3 = .ok (.arraylength, 1) := by decide +kernel
theorem dJ7_fill_d0a16_4 : decode cJ7_fill_d0a16 4 = .ok (.istore 4, 2) := by decide +kernel
theorem dJ7_fill_d0a16_6 : decode cJ7_fill_d0a16 6 = .ok (.iload_n 3, 1) := by decide +kernel
theorem dJ7_fill_d0a16_7 : decode cJ7_fill_d0a16 7 = .ok (.iload 4, 2) := by decide +kernel
theorem dJ7_fill_d0a16_9 : decode cJ7_fill_d0a16 9 = .ok (.if_icmp .ge 13, 3) := by decide +kernel
theorem dJ7_fill_d0a16_12 : decode cJ7_fill_d0a16 12 = .ok (.aload_n 0, 1) := by decide +kernel
theorem dJ7_fill_d0a16_13 : decode cJ7_fill_d0a16 13 = .ok (.iload_n 3, 1) := by decide +kernel
theorem dJ7_fill_d0a16_14 : decode cJ7_fill_d0a16 14 = .ok (.lload_n 1, 1) := by decide +kernel
theorem dJ7_fill_d0a16_15 : decode cJ7_fill_d0a16 15 = .ok (.lastore, 1) := by decide +kernel
theorem dJ7_fill_d0a16_16 : decode cJ7_fill_d0a16 16 = .ok (.iinc 3 1, 3) := by decide +kernel
theorem dJ7_fill_d0a16_19 : decode cJ7_fill_d0a16 19 = .ok (.goto (-13), 3) := by decide +kernel
theorem dJ7_fill_d0a16_22 : decode cJ7_fill_d0a16 22 = .ok (.return_, 1) := by decide +kernel
theorem dJ7_fill_bad5a_0 : decode cJ7_fill_bad5a 0 = .ok (.aload_n 0, 1) := by decide +kernel
theorem dJ7_fill_bad5a_1 : decode cJ7_fill_bad5a 1 = .ok (.arraylength, 1) := by decide +kernel
theorem dJ7_fill_bad5a_2 : decode cJ7_fill_bad5a 2 = .ok (.iload_n 1, 1) := by decide +kernel
theorem dJ7_fill_bad5a_3 : decode cJ7_fill_bad5a 3 = .ok (.iload_n 2, 1) := by decide +kernel
theorem dJ7_fill_bad5a_4 : decode cJ7_fill_bad5a 4 = .ok (.invokestatic 13, 3) := by decide +kernel
theorem dJ7_fill_bad5a_7 : decode cJ7_fill_bad5a 7 = .ok (.iload_n 1, 1) := by decide +kernel
theorem dJ7_fill_bad5a_8 : decode cJ7_fill_bad5a 8 = .ok (.istore 5, 2) := by decide +kernel
theorem dJ7_fill_bad5a_10 : decode cJ7_fill_bad5a 10 = .ok (.iload 5, 2) := by decide +kernel
theorem dJ7_fill_bad5a_12 : decode cJ7_fill_bad5a 12 = .ok (.iload_n 2, 1) := by decide +kernel
theorem dJ7_fill_bad5a_13 : decode cJ7_fill_bad5a 13 = .ok (.if_icmp .ge 14, 3) := by decide +kernel
theorem dJ7_fill_bad5a_16 : decode cJ7_fill_bad5a 16 = .ok (.aload_n 0, 1) := by decide +kernel
theorem dJ7_fill_bad5a_17 : decode cJ7_fill_bad5a 17 = .ok (.iload 5, 2) := by decide +kernel
theorem dJ7_fill_bad5a_19 : decode cJ7_fill_bad5a 19 = .ok (.lload_n 3, 1) := by decide +kernel
theorem dJ7_fill_bad5a_20 : decode cJ7_fill_bad5a 20 = .ok (.lastore, 1) := by decide +kernel
theorem dJ7_fill_bad5a_21 : decode cJ7_fill_bad5a 21 = .ok (.iinc 5 1, 3) := by decide +kernel
theorem dJ7_fill_bad5a_24 : decode cJ7_fill_bad5a 24 = .ok (.goto (-14), 3) := by decide +kernel
theorem dJ7_fill_bad5a_27 : decode cJ7_fill_bad5a 27 = .ok (.return_, 1) := by decide +kernel
theorem dJ7_fill_53178_0 : decode cJ7_fill_53178 0 = .ok (.iconst 0, 1) := by decide +kernel
theorem dJ7_fill_53178_1 : decode cJ7_fill_53178 1 = .ok (.istore_n 2, 1) := by decide +kernel
theorem dJ7_fill_53178_2 : decode cJ7_fill_53178 2 = .ok (.aload_n 0, 1) := by decide +kernel
theorem dJ7_fill_53178_3 : decode cJ7_fill_53178 3 = .ok (.arraylength, 1) := by decide +kernel
theorem dJ7_fill_53178_4 : decode cJ7_fill_53178 4 = .ok (.istore_n 3, 1) := by decide +kernel
theorem dJ7_fill_53178_5 : decode cJ7_fill_53178 5 = .ok (.iload_n 2, 1) := by decide +kernel
theorem dJ7_fill_53178_6 : decode cJ7_fill_53178 6 = .ok (.iload_n 3, 1) := by decide +kernel
theorem dJ7_fill_53178_7 : decode cJ7_fill_53178 7 = .ok (.if_icmp .ge 13, 3) := by decide +kernel
theorem dJ7_fill_53178_10 : decode cJ7_fill_53178 10 = .ok (.aload_n 0, 1) := by decide +kernel
theorem dJ7_fill_53178_11 : decode cJ7_fill_53178 11 = .ok (.iload_n 2, 1) := by decide +kernel
theorem dJ7_fill_53178_12 : decode cJ7_fill_53178 12 = .ok (.iload_n 1, 1) := by decide +kernel
theorem dJ7_fill_53178_13 : decode cJ7_fill_53178 13 = .ok (.iastore, 1) := by decide +kernel
theorem dJ7_fill_53178_14 : decode cJ7_fill_53178 14 = .ok (.iinc 2 1, 3) := by decide +kernel
theorem dJ7_fill_53178_17 : decode cJ7_fill_53178 17 = .ok (.goto (-12), 3) := by decide +kernel
theorem dJ7_fill_53178_20 : decode cJ7_fill_53178 20 = .ok (.return_, 1) := by decide +kernel
end
section
theorem dJ9_floorMod_7cf53_0 : decode cJ9_floorMod_7cf53 0 = .ok (.iload_n 0, 1) := by decide +kernel
theorem dJ9_floorMod_7cf53_1 : decode cJ9_floorMod_7cf53 1 = .ok (.iload_n 1, 1) := by decide +kernel
theorem dJ9_floorMod_7cf53_2 : decode cJ9_floorMod_7cf53 2 = .ok (.irem, 1) := by decide +kernel
theorem dJ9_floorMod_7cf53_3 : decode cJ9_floorMod_7cf53 3 = .ok (.istore_n 2, 1) := by decide +kernel
theorem dJ9_floorMod_7cf53_4 : decode cJ9_floorMod_7cf53 4 = .ok (.iload_n 0, 1) := by decide +kernel
theorem dJ9_floorMod_7cf53_5 : decode cJ9_floorMod_7cf53 5 = .ok (.iload_n 1, 1) := by decide +kernel
theorem dJ9_floorMod_7cf53_6 : decode cJ9_floorMod_7cf53 6 = .ok (.ixor, 1) := by decide +kernel
theorem dJ9_floorMod_7cf53_7 : decode cJ9_floorMod_7cf53 7 = .ok (.ifCond .ge 11, 3) := by decide +kernel
theorem dJ9_floorMod_7cf53_10 : decode cJ9_floorMod_7cf53 10 = .ok (.iload_n 2, 1) := by decide +kernel
theorem dJ9_floorMod_7cf53_11 : decode cJ9_floorMod_7cf53 11 = .ok (.ifCond .eq 7, 3) := by decide +kernel
theorem dJ9_floorMod_7cf53_14 : decode cJ9_floorMod_7cf53 14 = .ok (.iload_n 2, 1) := by decide +kernel
theorem dJ9_floorMod_7cf53_15 : decode cJ9_floorMod_7cf53 15 = .ok (.iload_n 1, 1) := by decide +kernel
theorem dJ9_floorMod_7cf53_16 : decode cJ9_floorMod_7cf53 16 = .ok (.iadd, 1) := by decide +kernel
theorem dJ9_floorMod_7cf53_17 : decode cJ9_floorMod_7cf53 17 = .ok (.ireturn, 1) := by decide +kernel
theorem dJ9_floorMod_7cf53_18 : decode cJ9_floorMod_7cf53 18 = .ok (.iload_n 2, 1) := by decide +kernel
theorem dJ9_floorMod_7cf53_19 : decode cJ9_floorMod_7cf53 19 = .ok (.ireturn, 1) := by decide +kernel
theorem dJ9_max_7cf53_0 : decode cJ9_max_7cf53 0 = .ok (.iload_n 0, 1) := by decide +kernel
theorem dJ9_max_7cf53_1 : decode cJ9_max_7cf53 1 = .ok (.iload_n 1, 1) := by decide +kernel
theorem dJ9_max_7cf53_2 : decode cJ9_max_7cf53 2 = .ok (.if_icmp .lt 7, 3) := by decide +kernel
theorem dJ9_max_7cf53_5 : decode cJ9_max_7cf53 5 = .ok (.iload_n 0, 1) := by decide +kernel
theorem dJ9_max_7cf53_6 : decode cJ9_max_7cf53 6 = .ok (.goto 4, 3) := by decide +kernel
theorem dJ9_max_7cf53_9 : decode cJ9_max_7cf53 9 = .ok (.iload_n 1, 1) := by decide +kernel
theorem dJ9_max_7cf53_10 : decode cJ9_max_7cf53 10 = .ok (.ireturn, 1) := by decide +kernel
theorem dJ9_max_f86c9_0 : decode cJ9_max_f86c9 0 = .ok (.lload_n 0, 1) := by decide +kernel
theorem dJ9_max_f86c9_1 : decode cJ9_max_f86c9 1 = .ok (.lload_n 2, 1) := by decide +kernel
theorem dJ9_max_f86c9_2 : decode cJ9_max_f86c9 2 = .ok (.lcmp, 1) := by decide +kernel
theorem dJ9_max_f86c9_3 : decode cJ9_max_f86c9 3 = .ok (.ifCond .lt 7, 3) := by decide +kernel
theorem dJ9_max_f86c9_6 : decode cJ9_max_f86c9 6 = .ok (.lload_n 0, 1) := by decide +kernel
theorem dJ9_max_f86c9_7 : decode cJ9_max_f86c9 7 = .ok (.goto 4, 3) := by decide +kernel
theorem dJ9_max_f86c9_10 : decode cJ9_max_f86c9 10 = .ok (.lload_n 2, 1) := by decide +kernel
theorem dJ9_max_f86c9_11 : decode cJ9_max_f86c9 11 = .ok (.lreturn, 1) := by decide +kernel
theorem dJ9_min_7cf53_0 : decode cJ9_min_7cf53 0 = .ok (.iload_n 0, 1) := by decide +kernel
theorem dJ9_min_7cf53_1 : decode cJ9_min_7cf53 1 = .ok (.iload_n 1, 1) := by decide +kernel
theorem dJ9_min_7cf53_2 : decode cJ9_min_7cf53 2 = .ok (.if_icmp .gt 7, 3) := by decide +kernel
theorem dJ9_min_7cf53_5 : decode cJ9_min_7cf53 5 = .ok (.iload_n 0, 1) := by decide +kernel
theorem dJ9_min_7cf53_6 : decode cJ9_min_7cf53 6 = .ok (.goto 4, 3) := by decide +kernel
theorem dJ9_min_7cf53_9 : decode cJ9_min_7cf53 9 = .ok (.iload_n 1, 1) := by decide +kernel
theorem dJ9_min_7cf53_10 : decode cJ9_min_7cf53 10 = .ok (.ireturn, 1) := by decide +kernel
theorem dJ9_min_f86c9_0 : decode cJ9_min_f86c9 0 = .ok (.lload_n 0, 1) := by decide +kernel
theorem dJ9_min_f86c9_1 : decode cJ9_min_f86c9 1 = .ok (.lload_n 2, 1) := by decide +kernel
theorem dJ9_min_f86c9_2 : decode cJ9_min_f86c9 2 = .ok (.lcmp, 1) := by decide +kernel
theorem dJ9_min_f86c9_3 : decode cJ9_min_f86c9 3 = .ok (.ifCond .gt 7, 3) := by decide +kernel
theorem dJ9_min_f86c9_6 : decode cJ9_min_f86c9 6 = .ok (.lload_n 0, 1) := by decide +kernel
theorem dJ9_min_f86c9_7 : decode cJ9_min_f86c9 7 = .ok (.goto 4, 3) := by decide +kernel
theorem dJ9_min_f86c9_10 : decode cJ9_min_f86c9 10 = .ok (.lload_n 2, 1) := by decide +kernel
theorem dJ9_min_f86c9_11 : decode cJ9_min_f86c9 11 = .ok (.lreturn, 1) := by decide +kernel
end
section
theorem dL_law_0 : decode cL_law 0 = .ok (.new 7, 3) := by decide +kernel
theorem dL_law_3 : decode cL_law 3 = .ok (.dup, 1) := by decide +kernel
theorem dL_law_4 : decode cL_law 4 = .ok (.invokespecial 9, 3) := by decide +kernel
theorem dL_law_7 : decode cL_law 7 = .ok (.astore_n 1, 1) := by decide +kernel
theorem dL_law_8 : decode cL_law 8 = .ok (.new 10, 3) := by decide +kernel
theorem dL_law_11 : decode cL_law 11 = .ok (.dup, 1) := by decide +kernel
theorem dL_law_12 : decode cL_law 12 = .ok (.invokespecial 12, 3) := by decide +kernel
theorem dL_law_15 : decode cL_law 15 = .ok (.astore_n 2, 1) := by decide +kernel
theorem dL_law_16 : decode cL_law 16 = .ok (.iconst 0, 1) := by decide +kernel
theorem dL_law_17 : decode cL_law 17 = .ok (.istore_n 3, 1) := by decide +kernel
theorem dL_law_18 : decode cL_law 18 = .ok (.iload_n 3, 1) := by decide +kernel
theorem dL_law_19 : decode cL_law 19 = .ok (.aload_n 0, 1) := by decide +kernel
theorem dL_law_20 : decode cL_law 20 = .ok (.arraylength, 1) := by decide +kernel
theorem dL_law_21 : decode cL_law 21 = .ok (.bipush 6, 2) := by decide +kernel
theorem dL_law_23 : decode cL_law 23 = .ok (.isub, 1) := by decide +kernel
theorem dL_law_24 : decode cL_law 24 = .ok (.if_icmp .gt 828, 3) := by decide +kernel
theorem dL_law_27 : decode cL_law 27 = .ok (.aload_n 0, 1) := by decide +kernel
theorem dL_law_28 : decode cL_law 28 = .ok (.iload_n 3, 1) := by decide +kernel
theorem dL_law_29 : decode cL_law 29 = .ok (.iaload, 1) := by decide +kernel
theorem dL_law_30 : decode cL_law 30 = .ok (.bipush 31, 2) := by decide +kernel
theorem dL_law_32 : decode cL_law 32 = .ok (.iand, 1) := by decide +kernel
theorem dL_law_33 : decode cL_law 33 = .ok (.tableswitch 813 0 23 #[111, 174, 223, 256, 290, 334, 357, 390, 423, 446, 479, 512, 535, 558, 581, 614, 637, 651, 684, 707, 741, 754, 777, 800], 111) := by decide +kernel
theorem dL_law_144 : decode cL_law 144 = .ok (.aload_n 1, 1) := by decide +kernel
theorem dL_law_145 : decode cL_law 145 = .ok (.aload_n 0, 1) := by decide +kernel
theorem dL_law_146 : decode cL_law 146 = .ok (.iload_n 3, 1) := by decide +kernel
theorem dL_law_147 : decode cL_law 147 = .ok (.iconst 1, 1) := by decide +kernel
theorem dL_law_148 : decode cL_law 148 = .ok (.iadd, 1) := by decide +kernel
theorem dL_law_149 : decode cL_law 149 = .ok (.iaload, 1) := by decide +kernel
theorem dL_law_150 : decode cL_law 150 = .ok (.aload_n 0, 1) := by decide +kernel
theorem dL_law_151 : decode cL_law 151 = .ok (.iload_n 3, 1) := by decide +kernel
theorem dL_law_152 : decode cL_law 152 = .ok (.iconst 2, 1) := by decide +kernel
theorem dL_law_153 : decode cL_law 153 = .ok (.iadd, 1) := by decide +kernel
theorem dL_law_154 : decode cL_law 154 = .ok (.iaload, 1) := by decide +kernel
theorem dL_law_155 : decode cL_law 155 = .ok (.aload_n 0, 1) := by decide +kernel
theorem dL_law_156 : decode cL_law 156 = .ok (.iload_n 3, 1) := by decide +kernel
theorem dL_law_157 : decode cL_law 157 = .ok (.iconst 3, 1) := by decide +kernel
theorem dL_law_158 : decode cL_law 158 = .ok (.iadd, 1) := by decide +kernel
theorem dL_law_159 : decode cL_law 159 = .ok (.iaload, 1) := by decide +kernel
theorem dL_law_160 : decode cL_law 160 = .ok (.aload_n 0, 1) := by decide +kernel
theorem dL_law_161 : decode cL_law 161 = .ok (.iload_n 3, 1) := by decide +kernel
theorem dL_law_162 : decode cL_law 162 = .ok (.iconst 4, 1) := by decide +kernel
theorem dL_law_163 : decode cL_law 163 = .ok (.iadd, 1) := by decide +kernel
theorem dL_law_164 : decode cL_law 164 = .ok (.iaload, 1) := by decide +kernel
theorem dL_law_165 : decode cL_law 165 = .ok (.aload_n 0, 1) := by decide +kernel
theorem dL_law_166 : decode cL_law 166 = .ok (.iload_n 3, 1) := by decide +kernel
theorem dL_law_167 : decode cL_law 167 = .ok (.iconst 5, 1) := by decide +kernel
theorem dL_law_168 : decode cL_law 168 = .ok (.iadd, 1) := by decide +kernel
theorem dL_law_169 : decode cL_law 169 = .ok (.iaload, 1) := by decide +kernel
theorem dL_law_170 : decode cL_law 170 = .ok (.invokevirtual 13, 3) := by decide +kernel
theorem dL_law_173 : decode cL_law 173 = .ok (.aload_n 2, 1) := by decide +kernel
theorem dL_law_174 : decode cL_law 174 = .ok (.aload_n 0, 1) := by decide +kernel
theorem dL_law_175 : decode cL_law 175 = .ok (.iload_n 3, 1) := by decide +kernel
theorem dL_law_176 : decode cL_law 176 = .ok (.iconst 1, 1) := by decide +kernel
theorem dL_law_177 : decode cL_law 177 = .ok (.iadd, 1) := by decide +kernel
theorem dL_law_178 : decode cL_law 178 = .ok (.iaload, 1) := by decide +kernel
theorem dL_law_179 : decode cL_law 179 = .ok (.aload_n 0, 1) := by decide +kernel
theorem dL_law_180 : decode cL_law 180 = .ok (.iload_n 3, 1) := by decide +kernel
theorem dL_law_181 : decode cL_law 181 = .ok (.iconst 2, 1) := by decide +kernel
theorem dL_law_182 : decode cL_law 182 = .ok (.iadd, 1) := by decide +kernel
theorem dL_law_183 : decode cL_law 183 = .ok (.iaload, 1) := by decide +kernel
theorem dL_law_184 : decode cL_law 184 = .ok (.aload_n 0, 1) := by decide +kernel
theorem dL_law_185 : decode cL_law 185 = .ok (.iload_n 3, 1) := by decide +kernel
theorem dL_law_186 : decode cL_law 186 = .ok (.iconst 3, 1) := by decide +kernel
theorem dL_law_187 : decode cL_law 187 = .ok (.iadd, 1) := by decide +kernel
theorem dL_law_188 : decode cL_law 188 = .ok (.iaload, 1) := by decide +kernel
theorem dL_law_189 : decode cL_law 189 = .ok (.aload_n 0, 1) := by decide +kernel
theorem dL_law_190 : decode cL_law 190 = .ok (.iload_n 3, 1) := by decide +kernel
theorem dL_law_191 : decode cL_law 191 = .ok (.iconst 4, 1) := by decide +kernel
theorem dL_law_192 : decode cL_law 192 = .ok (.iadd, 1) := by decide +kernel
theorem dL_law_193 : decode cL_law 193 = .ok (.iaload, 1) := by decide +kernel
theorem dL_law_194 : decode cL_law 194 = .ok (.aload_n 0, 1) := by decide +kernel
theorem dL_law_195 : decode cL_law 195 = .ok (.iload_n 3, 1) := by decide +kernel
theorem dL_law_196 : decode cL_law 196 = .ok (.iconst 5, 1) := by decide +kernel
theorem dL_law_197 : decode cL_law 197 = .ok (.iadd, 1) := by decide +kernel
theorem dL_law_198 : decode cL_law 198 = .ok (.iaload, 1) := by decide +kernel
theorem dL_law_199 : decode cL_law 199 = .ok (.invokevirtual 17, 3) := by decide +kernel
theorem dL_law_202 : decode cL_law 202 = .ok (.if_icmp .eq 644, 3) := by decide +kernel
theorem dL_law_205 : decode cL_law 205 = .ok (.iconst 0, 1) := by decide +kernel
theorem dL_law_206 : decode cL_law 206 = .ok (.ireturn, 1) := by decide +kernel
theorem dL_law_207 : decode cL_law 207 = .ok (.aload_n 1, 1) := by decide +kernel
theorem dL_law_208 : decode cL_law 208 = .ok (.aload_n 0, 1) := by decide +kernel
theorem dL_law_209 : decode cL_law 209 = .ok (.iload_n 3, 1) := by decide +kernel
theorem dL_law_210 : decode cL_law 210 = .ok (.iconst 1, 1) := by decide +kernel
theorem dL_law_211 : decode cL_law 211 = .ok (.iadd, 1) := by decide +kernel
theorem dL_law_212 : decode cL_law 212 = .ok (.iaload, 1) := by decide +kernel
theorem dL_law_213 : decode cL_law 213 = .ok (.aload_n 0, 1) := by decide +kernel
theorem dL_law_214 : decode cL_law 214 = .ok (.iload_n 3, 1) := by decide +kernel
theorem dL_law_215 : decode cL_law 215 = .ok (.iconst 2, 1) := by decide +kernel
theorem dL_law_216 : decode cL_law 216 = .ok (.iadd, 1) := by decide +kernel
theorem dL_law_217 : decode cL_law 217 = .ok (.iaload, 1) := by decide +kernel
theorem dL_law_218 : decode cL_law 218 = .ok (.ifCond .eq 7, 3) := by decide +kernel
theorem dL_law_221 : decode cL_law 221 = .ok (.iconst 1, 1) := by decide +kernel
theorem dL_law_222 : decode cL_law 222 = .ok (.goto 4, 3) := by decide +kernel
theorem dL_law_225 : decode cL_law 225 = .ok (.iconst 0, 1) := by decide +kernel
theorem dL_law_226 : decode cL_law 226 = .ok (.invokevirtual 18, 3) := by decide +kernel
theorem dL_law_229 : decode cL_law 229 = .ok (.aload_n 2, 1) := by decide +kernel
theorem dL_law_230 : decode cL_law 230 = .ok (.aload_n 0, 1) := by decide +kernel
theorem dL_law_231 : decode cL_law 231 = .ok (.iload_n 3, 1) := by decide +kernel
theorem dL_law_232 : decode cL_law 232 = .ok (.iconst 1, 1) := by decide +kernel
theorem dL_law_233 : decode cL_law 233 = .ok (.iadd, 1) := by decide +kernel
theorem dL_law_234 : decode cL_law 234 = .ok (.iaload, 1) := by decide +kernel
theorem dL_law_235 : decode cL_law 235 = .ok (.aload_n 0, 1) := by decide +kernel
theorem dL_law_236 : decode cL_law 236 = .ok (.iload_n 3, 1) := by decide +kernel
theorem dL_law_237 : decode cL_law 237 = .ok (.iconst 2, 1) := by decide +kernel
theorem dL_law_238 : decode cL_law 238 = .ok (.iadd, 1) := by decide +kernel
theorem dL_law_239 : decode cL_law 239 = .ok (.iaload, 1) := by decide +kernel
theorem dL_law_240 : decode cL_law 240 = .ok (.ifCond .eq 7, 3) := by decide +kernel
theorem dL_law_243 : decode cL_law 243 = .ok (.iconst 1, 1) := by decide +kernel
theorem dL_law_244 : decode cL_law 244 = .ok (.goto 4, 3) := by decide +kernel
theorem dL_law_247 : decode cL_law 247 = .ok (.iconst 0, 1) := by decide +kernel
theorem dL_law_248 : decode cL_law 248 = .ok (.invokevirtual 22, 3) := by decide +kernel
theorem dL_law_251 : decode cL_law 251 = .ok (.if_icmp .eq 595, 3) := by decide +kernel
theorem dL_law_254 : decode cL_law 254 = .ok (.iconst 0, 1) := by decide +kernel
theorem dL_law_255 : decode cL_law 255 = .ok (.ireturn, 1) := by decide +kernel
theorem dL_law_256 : decode cL_law 256 = .ok (.aload_n 1, 1) := by decide +kernel
theorem dL_law_257 : decode cL_law 257 = .ok (.aload_n 0, 1) := by decide +kernel
theorem dL_law_258 : decode cL_law 258 = .ok (.iload_n 3, 1) := by decide +kernel
theorem dL_law_259 : decode cL_law 259 = .ok (.iconst 1, 1) := by decide +kernel
theorem dL_law_260 : decode cL_law 260 = .ok (.iadd, 1) := by decide +kernel
theorem dL_law_261 : decode cL_law 261 = .ok (.iaload, 1) := by decide +kernel
theorem dL_law_262 : decode cL_law 262 = .ok (.aload_n 0, 1) := by decide +kernel
theorem dL_law_263 : decode cL_law 263 = .ok (.iload_n 3, 1) := by decide +kernel
theorem dL_law_264 : decode cL_law 264 = .ok (.iconst 2, 1) := by decide +kernel
theorem dL_law_265 : decode cL_law 265 = .ok (.iadd, 1) := by decide +kernel
theorem dL_law_266 : decode cL_law 266 = .ok (.iaload, 1) := by decide +kernel
theorem dL_law_267 : decode cL_law 267 = .ok (.invokevirtual 23, 3) := by decide +kernel
theorem dL_law_270 : decode cL_law 270 = .ok (.aload_n 2, 1) := by decide +kernel
theorem dL_law_271 : decode cL_law 271 = .ok (.aload_n 0, 1) := by decide +kernel
theorem dL_law_272 : decode cL_law 272 = .ok (.iload_n 3, 1) := by decide +kernel
theorem dL_law_273 : decode cL_law 273 = .ok (.iconst 1, 1) := by decide +kernel
theorem dL_law_274 : decode cL_law 274 = .ok (.iadd, 1) := by decide +kernel
theorem dL_law_275 : decode cL_law 275 = .ok (.iaload, 1) := by decide +kernel
theorem dL_law_276 : decode cL_law 276 = .ok (.aload_n 0, 1) := by decide +kernel
theorem dL_law_277 : decode cL_law 277 = .ok (.iload_n 3, 1) := by decide +kernel
theorem dL_law_278 : decode cL_law 278 = .ok (.iconst 2, 1) := by decide +kernel
theorem dL_law_279 : decode cL_law 279 = .ok (.iadd, 1) := by decide +kernel
theorem dL_law_280 : decode cL_law 280 = .ok (.iaload, 1) := by decide +kernel
theorem dL_law_281 : decode cL_law 281 = .ok (.invokevirtual 27, 3) := by decide +kernel
theorem dL_law_284 : decode cL_law 284 = .ok (.if_icmp .eq 562, 3) := by decide +kernel
theorem dL_law_287 : decode cL_law 287 = .ok (.iconst 0, 1) := by decide +kernel
theorem dL_law_288 : decode cL_law 288 = .ok (.ireturn, 1) := by decide +kernel
theorem dL_law_289 : decode cL_law 289 = .ok (.aload_n 1, 1) := by decide +kernel
theorem dL_law_290 : decode cL_law 290 = .ok (.aload_n 0, 1) := by decide +kernel
theorem dL_law_291 : decode cL_law 291 = .ok (.iload_n 3, 1) := by decide +kernel
theorem dL_law_292 : decode cL_law 292 = .ok (.iconst 1, 1) := by decide +kernel
theorem dL_law_293 : decode cL_law 293 = .ok (.iadd, 1) := by decide +kernel
theorem dL_law_294 : decode cL_law 294 = .ok (.iaload, 1) := by decide +kernel
theorem dL_law_295 : decode cL_law 295 = .ok (.aload_n 0, 1) := by decide +kernel
theorem dL_law_296 : decode cL_law 296 = .ok (.iload_n 3, 1) := by decide +kernel
theorem dL_law_297 : decode cL_law 297 = .ok (.iconst 2, 1) := by decide +kernel
theorem dL_law_298 : decode cL_law 298 = .ok (.iadd, 1) := by decide +kernel
theorem dL_law_299 : decode cL_law 299 = .ok (.iaload, 1) := by decide +kernel
theorem dL_law_300 : decode cL_law 300 = .ok (.invokevirtual 28, 3) := by decide +kernel
theorem dL_law_303 : decode cL_law 303 = .ok (.aload_n 2, 1) := by decide +kernel
theorem dL_law_304 : decode cL_law 304 = .ok (.aload_n 0, 1) := by decide +kernel
theorem dL_law_305 : decode cL_law 305 = .ok (.iload_n 3, 1) := by decide +kernel
theorem dL_law_306 : decode cL_law 306 = .ok (.iconst 1, 1) := by decide +kernel
theorem dL_law_307 : decode cL_law 307 = .ok (.iadd, 1) := by decide +kernel
theorem dL_law_308 : decode cL_law 308 = .ok (.iaload, 1) := by decide +kernel
theorem dL_law_309 : decode cL_law 309 = .ok (.aload_n 0, 1) := by decide +kernel
theorem dL_law_310 : decode cL_law 310 = .ok (.iload_n 3, 1) := by decide +kernel
theorem dL_law_311 : decode cL_law 311 = .ok (.iconst 2, 1) := by decide +kernel
theorem dL_law_312 : decode cL_law 312 = .ok (.iadd, 1) := by decide +kernel
theorem dL_law_313 : decode cL_law 313 = .ok (.iaload, 1) := by decide +kernel
theorem dL_law_314 : decode cL_law 314 = .ok (.invokevirtual 32, 3) := by decide +kernel
theorem dL_law_317 : decode cL_law 317 = .ok (.lcmp, 1) := by decide +kernel
theorem dL_law_318 : decode cL_law 318 = .ok (.ifCond .eq 528, 3) := by decide +kernel
theorem dL_law_321 : decode cL_law 321 = .ok (.iconst 0, 1) := by decide +kernel
theorem dL_law_322 : decode cL_law 322 = .ok (.ireturn, 1) := by decide +kernel
theorem dL_law_323 : decode cL_law 323 = .ok (.aload_n 1, 1) := by decide +kernel
theorem dL_law_324 : decode cL_law 324 = .ok (.aload_n 0, 1) := by decide +kernel
theorem dL_law_325 : decode cL_law 325 = .ok (.iload_n 3, 1) := by decide +kernel
theorem dL_law_326 : decode cL_law 326 = .ok (.iconst 1, 1) := by decide +kernel
theorem dL_law_327 : decode cL_law 327 = .ok (.iadd, 1) := by decide +kernel
theorem dL_law_328 : decode cL_law 328 = .ok (.iaload, 1) := by decide +kernel
theorem dL_law_329 : decode cL_law 329 = .ok (.aload_n 0, 1) := by decide +kernel
theorem dL_law_330 : decode cL_law 330 = .ok (.iload_n 3, 1) := by decide +kernel
theorem dL_law_331 : decode cL_law 331 = .ok (.iconst 2, 1) := by decide +kernel
theorem dL_law_332 : decode cL_law 332 = .ok (.iadd, 1) := by decide +kernel
theorem dL_law_333 : decode cL_law 333 = .ok (.iaload, 1) := by decide +kernel
theorem dL_law_334 : decode cL_law 334 = .ok (.aload_n 0, 1) := by decide +kernel
theorem dL_law_335 : decode cL_law 335 = .ok (.iload_n 3, 1) := by decide +kernel
theorem dL_law_336 : decode cL_law 336 = .ok (.iconst 3, 1) := by decide +kernel
theorem dL_law_337 : decode cL_law 337 = .ok (.iadd, 1) := by decide +kernel
theorem dL_law_338 : decode cL_law 338 = .ok (.iaload, 1) := by decide +kernel
theorem dL_law_339 : decode cL_law 339 = .ok (.invokevirtual 33, 3) := by decide +kernel
theorem dL_law_342 : decode cL_law 342 = .ok (.aload_n 2, 1) := by decide +kernel
theorem dL_law_343 : decode cL_law 343 = .ok (.aload_n 0, 1) := by decide +kernel
theorem dL_law_344 : decode cL_law 344 = .ok (.iload_n 3, 1) := by decide +kernel
theorem dL_law_345 : decode cL_law 345 = .ok (.iconst 1, 1) := by decide +kernel
theorem dL_law_346 : decode cL_law 346 = .ok (.iadd, 1) := by decide +kernel
theorem dL_law_347 : decode cL_law 347 = .ok (.iaload, 1) := by decide +kernel
theorem dL_law_348 : decode cL_law 348 = .ok (.aload_n 0, 1) := by decide +kernel
theorem dL_law_349 : decode cL_law 349 = .ok (.iload_n 3, 1) := by decide +kernel
theorem dL_law_350 : decode cL_law 350 = .ok (.iconst 2, 1) := by decide +kernel
theorem dL_law_351 : decode cL_law 351 = .ok (.iadd, 1) := by decide +kernel
theorem dL_law_352 : decode cL_law 352 = .ok (.iaload, 1) := by decide +kernel
theorem dL_law_353 : decode cL_law 353 = .ok (.aload_n 0, 1) := by decide +kernel
theorem dL_law_354 : decode cL_law 354 = .ok (.iload_n 3, 1) := by decide +kernel
theorem dL_law_355 : decode cL_law 355 = .ok (.iconst 3, 1) := by decide +kernel
theorem dL_law_356 : decode cL_law 356 = .ok (.iadd, 1) := by decide +kernel
theorem dL_law_357 : decode cL_law 357 = .ok (.iaload, 1) := by decide +kernel
theorem dL_law_358 : decode cL_law 358 = .ok (.invokevirtual 37, 3) := by decide +kernel
theorem dL_law_361 : decode cL_law 361 = .ok (.lcmp, 1) := by decide +kernel
theorem dL_law_362 : decode cL_law 362 = .ok (.ifCond .eq 484, 3) := by decide +kernel
theorem dL_law_365 : decode cL_law 365 = .ok (.iconst 0, 1) := by decide +kernel
theorem dL_law_366 : decode cL_law 366 = .ok (.ireturn, 1) := by decide +kernel
theorem dL_law_367 : decode cL_law 367 = .ok (.aload_n 1, 1) := by decide +kernel
theorem dL_law_368 : decode cL_law 368 = .ok (.aload_n 0, 1) := by decide +kernel
theorem dL_law_369 : decode cL_law 369 = .ok (.iload_n 3, 1) := by decide +kernel
theorem dL_law_370 : decode cL_law 370 = .ok (.iconst 1, 1) := by decide +kernel
theorem dL_law_371 : decode cL_law 371 = .ok (.iadd, 1) := by decide +kernel
theorem dL_law_372 : decode cL_law 372 = .ok (.iaload, 1) := by decide +kernel
theorem dL_law_373 : decode cL_law 373 = .ok (.invokevirtual 38, 3) := by decide +kernel
theorem dL_law_376 : decode cL_law 376 = .ok (.aload_n 2, 1) := by decide +kernel
theorem dL_law_377 : decode cL_law 377 = .ok (.aload_n 0, 1) := by decide +kernel
theorem dL_law_378 : decode cL_law 378 = .ok (.iload_n 3, 1) := by decide +kernel
theorem dL_law_379 : decode cL_law 379 = .ok (.iconst 1, 1) := by decide +kernel
theorem dL_law_380 : decode cL_law 380 = .ok (.iadd, 1) := by decide +kernel
theorem dL_law_381 : decode cL_law 381 = .ok (.iaload, 1) := by decide +kernel
theorem dL_law_382 : decode cL_law 382 = .ok (.invokevirtual 42, 3) := by decide +kernel
theorem dL_law_385 : decode cL_law 385 = .ok (.if_icmp .eq 461, 3) := by decide +kernel
theorem dL_law_388 : decode cL_law 388 = .ok (.iconst 0, 1) := by decide +kernel
theorem dL_law_389 : decode cL_law 389 = .ok (.ireturn, 1) := by decide +kernel
theorem dL_law_390 : decode cL_law 390 = .ok (.aload_n 1, 1) := by decide +kernel
theorem dL_law_391 : decode cL_law 391 = .ok (.aload_n 0, 1) := by decide +kernel
theorem dL_law_392 : decode cL_law 392 = .ok (.iload_n 3, 1) := by decide +kernel
theorem dL_law_393 : decode cL_law 393 = .ok (.iconst 1, 1) := by decide +kernel
theorem dL_law_394 : decode cL_law 394 = .ok (.iadd, 1) := by decide +kernel
theorem dL_law_395 : decode cL_law 395 = .ok (.iaload, 1) := by decide +kernel
theorem dL_law_396 : decode cL_law 396 = .ok (.aload_n 0, 1) := by decide +kernel
theorem dL_law_397 : decode cL_law 397 = .ok (.iload_n 3, 1) := by decide +kernel
theorem dL_law_398 : decode cL_law 398 = .ok (.iconst 2, 1) := by decide +kernel
theorem dL_law_399 : decode cL_law 399 = .ok (.iadd, 1) := by decide +kernel
theorem dL_law_400 : decode cL_law 400 = .ok (.iaload, 1) := by decide +kernel
theorem dL_law_401 : decode cL_law 401 = .ok (.invokevirtual 43, 3) := by decide +kernel
theorem dL_law_404 : decode cL_law 404 = .ok (.aload_n 2, 1) := by decide +kernel
theorem dL_law_405 : decode cL_law 405 = .ok (.aload_n 0, 1) := by decide +kernel
theorem dL_law_406 : decode cL_law 406 = .ok (.iload_n 3, 1) := by decide +kernel
theorem dL_law_407 : decode cL_law 407 = .ok (.iconst 1, 1) := by decide +kernel
theorem dL_law_408 : decode cL_law 408 = .ok (.iadd, 1) := by decide +kernel
theorem dL_law_409 : decode cL_law 409 = .ok (.iaload, 1) := by decide +kernel
theorem dL_law_410 : decode cL_law 410 = .ok (.aload_n 0, 1) := by decide +kernel
theorem dL_law_411 : decode cL_law 411 = .ok (.iload_n 3, 1) := by decide +kernel
theorem dL_law_412 : decode cL_law 412 = .ok (.iconst 2, 1) := by decide +kernel
theorem dL_law_413 : decode cL_law 413 = .ok (.iadd, 1) := by decide +kernel
theorem dL_law_414 : decode cL_law 414 = .ok (.iaload, 1) := by decide +kernel
theorem dL_law_415 : decode cL_law 415 = .ok (.invokevirtual 46, 3) := by decide +kernel
theorem dL_law_418 : decode cL_law 418 = .ok (.if_icmp .eq 428, 3) := by decide +kernel
theorem dL_law_421 : decode cL_law 421 = .ok (.iconst 0, 1) := by decide +kernel
theorem dL_law_422 : decode cL_law 422 = .ok (.ireturn, 1) := by decide +kernel
theorem dL_law_423 : decode cL_law 423 = .ok (.aload_n 1, 1) := by decide +kernel
theorem dL_law_424 : decode cL_law 424 = .ok (.aload_n 0, 1) := by decide +kernel
theorem dL_law_425 : decode cL_law 425 = .ok (.iload_n 3, 1) := by decide +kernel
theorem dL_law_426 : decode cL_law 426 = .ok (.iconst 1, 1) := by decide +kernel
theorem dL_law_427 : decode cL_law 427 = .ok (.iadd, 1) := by decide +kernel
theorem dL_law_428 : decode cL_law 428 = .ok (.iaload, 1) := by decide +kernel
theorem dL_law_429 : decode cL_law 429 = .ok (.aload_n 0, 1) := by decide +kernel
theorem dL_law_430 : decode cL_law 430 = .ok (.iload_n 3, 1) := by decide +kernel
theorem dL_law_431 : decode cL_law 431 = .ok (.iconst 2, 1) := by decide +kernel
theorem dL_law_432 : decode cL_law 432 = .ok (.iadd, 1) := by decide +kernel
theorem dL_law_433 : decode cL_law 433 = .ok (.iaload, 1) := by decide +kernel
theorem dL_law_434 : decode cL_law 434 = .ok (.invokevirtual 47, 3) := by decide +kernel
theorem dL_law_437 : decode cL_law 437 = .ok (.aload_n 2, 1) := by decide +kernel
theorem dL_law_438 : decode cL_law 438 = .ok (.aload_n 0, 1) := by decide +kernel
theorem dL_law_439 : decode cL_law 439 = .ok (.iload_n 3, 1) := by decide +kernel
theorem dL_law_440 : decode cL_law 440 = .ok (.iconst 1, 1) := by decide +kernel
theorem dL_law_441 : decode cL_law 441 = .ok (.iadd, 1) := by decide +kernel
theorem dL_law_442 : decode cL_law 442 = .ok (.iaload, 1) := by decide +kernel
theorem dL_law_443 : decode cL_law 443 = .ok (.aload_n 0, 1) := by decide +kernel
theorem dL_law_444 : decode cL_law 444 = .ok (.iload_n 3, 1) := by decide +kernel
theorem dL_law_445 : decode cL_law 445 = .ok (.iconst 2, 1) := by decide +kernel
theorem dL_law_446 : decode cL_law 446 = .ok (.iadd, 1) := by decide +kernel
theorem dL_law_447 : decode cL_law 447 = .ok (.iaload, 1) := by decide +kernel
theorem dL_law_448 : decode cL_law 448 = .ok (.invokevirtual 50, 3) := by decide +kernel
theorem dL_law_451 : decode cL_law 451 = .ok (.if_icmp .eq 395, 3) := by decide +kernel
theorem dL_law_454 : decode cL_law 454 = .ok (.iconst 0, 1) := by decide +kernel
theorem dL_law_455 : decode cL_law 455 = .ok (.ireturn, 1) := by decide +kernel
theorem dL_law_456 : decode cL_law 456 = .ok (.aload_n 1, 1) := by decide +kernel
theorem dL_law_457 : decode cL_law 457 = .ok (.aload_n 0, 1) := by decide +kernel
theorem dL_law_458 : decode cL_law 458 = .ok (.iload_n 3, 1) := by decide +kernel
theorem dL_law_459 : decode cL_law 459 = .ok (.iconst 1, 1) := by decide +kernel
theorem dL_law_460 : decode cL_law 460 = .ok (.iadd, 1) := by decide +kernel
theorem dL_law_461 : decode cL_law 461 = .ok (.iaload, 1) := by decide +kernel
theorem dL_law_462 : decode cL_law 462 = .ok (.invokevirtual 51, 3) := by decide +kernel
theorem dL_law_465 : decode cL_law 465 = .ok (.aload_n 2, 1) := by decide +kernel
theorem dL_law_466 : decode cL_law 466 = .ok (.aload_n 0, 1) := by decide +kernel
theorem dL_law_467 : decode cL_law 467 = .ok (.iload_n 3, 1) := by decide +kernel
theorem dL_law_468 : decode cL_law 468 = .ok (.iconst 1, 1) := by decide +kernel
theorem dL_law_469 : decode cL_law 469 = .ok (.iadd, 1) := by decide +kernel
theorem dL_law_470 : decode cL_law 470 = .ok (.iaload, 1) := by decide +kernel
theorem dL_law_471 : decode cL_law 471 = .ok (.invokevirtual 54, 3) := by decide +kernel
theorem dL_law_474 : decode cL_law 474 = .ok (.if_icmp .eq 372, 3) := by decide +kernel
theorem dL_law_477 : decode cL_law 477 = .ok (.iconst 0, 1) := by decide +kernel
theorem dL_law_478 : decode cL_law 478 = .ok (.ireturn, 1) := by decide +kernel
theorem dL_law_479 : decode cL_law 479 = .ok (.aload_n 1, 1) := by decide +kernel
theorem dL_law_480 : decode cL_law 480 = .ok (.aload_n 0, 1) := by decide +kernel
theorem dL_law_481 : decode cL_law 481 = .ok (.iload_n 3, 1) := by decide +kernel
theorem dL_law_482 : decode cL_law 482 = .ok (.iconst 1, 1) := by decide +kernel
theorem dL_law_483 : decode cL_law 483 = .ok (.iadd, 1) := by decide +kernel
theorem dL_law_484 : decode cL_law 484 = .ok (.iaload, 1) := by decide +kernel
theorem dL_law_485 : decode cL_law 485 = .ok (.aload_n 0, 1) := by decide +kernel
theorem dL_law_486 : decode cL_law 486 = .ok (.iload_n 3, 1) := by decide +kernel
theorem dL_law_487 : decode cL_law 487 = .ok (.iconst 2, 1) := by decide +kernel
theorem dL_law_488 : decode cL_law 488 = .ok (.iadd, 1) := by decide +kernel
theorem dL_law_489 : decode cL_law 489 = .ok (.iaload, 1) := by decide +kernel
theorem dL_law_490 : decode cL_law 490 = .ok (.invokevirtual 55, 3) := by decide +kernel
theorem dL_law_493 : decode cL_law 493 = .ok (.aload_n 2, 1) := by decide +kernel
theorem dL_law_494 : decode cL_law 494 = .ok (.aload_n 0, 1) := by decide +kernel
theorem dL_law_495 : decode cL_law 495 = .ok (.iload_n 3, 1) := by decide +kernel
theorem dL_law_496 : decode cL_law 496 = .ok (.iconst 1, 1) := by decide +kernel
theorem dL_law_497 : decode cL_law 497 = .ok (.iadd, 1) := by decide +kernel
theorem dL_law_498 : decode cL_law 498 = .ok (.iaload, 1) := by decide +kernel
theorem dL_law_499 : decode cL_law 499 = .ok (.aload_n 0, 1) := by decide +kernel
theorem dL_law_500 : decode cL_law 500 = .ok (.iload_n 3, 1) := by decide +kernel
theorem dL_law_501 : decode cL_law 501 = .ok (.iconst 2, 1) := by decide +kernel
theorem dL_law_502 : decode cL_law 502 = .ok (.iadd, 1) := by decide +kernel
theorem dL_law_503 : decode cL_law 503 = .ok (.iaload, 1) := by decide +kernel
theorem dL_law_504 : decode cL_law 504 = .ok (.invokevirtual 58, 3) := by decide +kernel
theorem dL_law_507 : decode cL_law 507 = .ok (.if_icmp .eq 339, 3) := by decide +kernel
theorem dL_law_510 : decode cL_law 510 = .ok (.iconst 0, 1) := by decide +kernel
theorem dL_law_511 : decode cL_law 511 = .ok (.ireturn, 1) := by decide +kernel
theorem dL_law_512 : decode cL_law 512 = .ok (.aload_n 1, 1) := by decide +kernel
theorem dL_law_513 : decode cL_law 513 = .ok (.aload_n 0, 1) := by decide +kernel
theorem dL_law_514 : decode cL_law 514 = .ok (.iload_n 3, 1) := by decide +kernel
theorem dL_law_515 : decode cL_law 515 = .ok (.iconst 1, 1) := by decide +kernel
theorem dL_law_516 : decode cL_law 516 = .ok (.iadd, 1) := by decide +kernel
theorem dL_law_517 : decode cL_law 517 = .ok (.iaload, 1) := by decide +kernel
theorem dL_law_518 : decode cL_law 518 = .ok (.aload_n 0, 1) := by decide +kernel
theorem dL_law_519 : decode cL_law 519 = .ok (.iload_n 3, 1) := by decide +kernel
theorem dL_law_520 : decode cL_law 520 = .ok (.iconst 2, 1) := by decide +kernel
theorem dL_law_521 : decode cL_law 521 = .ok (.iadd, 1) := by decide +kernel
theorem dL_law_522 : decode cL_law 522 = .ok (.iaload, 1) := by decide +kernel
theorem dL_law_523 : decode cL_law 523 = .ok (.invokevirtual 59, 3) := by decide +kernel
theorem dL_law_526 : decode cL_law 526 = .ok (.aload_n 2, 1) := by decide +kernel
theorem dL_law_527 : decode cL_law 527 = .ok (.aload_n 0, 1) := by decide +kernel
theorem dL_law_528 : decode cL_law 528 = .ok (.iload_n 3, 1) := by decide +kernel
theorem dL_law_529 : decode cL_law 529 = .ok (.iconst 1, 1) := by decide +kernel
theorem dL_law_530 : decode cL_law 530 = .ok (.iadd, 1) := by decide +kernel
theorem dL_law_531 : decode cL_law 531 = .ok (.iaload, 1) := by decide +kernel
theorem dL_law_532 : decode cL_law 532 = .ok (.aload_n 0, 1) := by decide +kernel
theorem dL_law_533 : decode cL_law 533 = .ok (.iload_n 3, 1) := by decide +kernel
theorem dL_law_534 : decode cL_law 534 = .ok (.iconst 2, 1) := by decide +kernel
theorem dL_law_535 : decode cL_law 535 = .ok (.iadd, 1) := by decide +kernel
theorem dL_law_536 : decode cL_law 536 = .ok (.iaload, 1) := by decide +kernel
theorem dL_law_537 : decode cL_law 537 = .ok (.invokevirtual 62, 3) := by decide +kernel
theorem dL_law_540 : decode cL_law 540 = .ok (.if_icmp .eq 306, 3) := by decide +kernel
theorem dL_law_543 : decode cL_law 543 = .ok (.iconst 0, 1) := by decide +kernel
theorem dL_law_544 : decode cL_law 544 = .ok (.ireturn, 1) := by decide +kernel
theorem dL_law_545 : decode cL_law 545 = .ok (.aload_n 1, 1) := by decide +kernel
theorem dL_law_546 : decode cL_law 546 = .ok (.aload_n 0, 1) := by decide +kernel
theorem dL_law_547 : decode cL_law 547 = .ok (.iload_n 3, 1) := by decide +kernel
theorem dL_law_548 : decode cL_law 548 = .ok (.iconst 1, 1) := by decide +kernel
theorem dL_law_549 : decode cL_law 549 = .ok (.iadd, 1) := by decide +kernel
theorem dL_law_550 : decode cL_law 550 = .ok (.iaload, 1) := by decide +kernel
theorem dL_law_551 : decode cL_law 551 = .ok (.invokevirtual 63, 3) := by decide +kernel
theorem dL_law_554 : decode cL_law 554 = .ok (.aload_n 2, 1) := by decide +kernel
theorem dL_law_555 : decode cL_law 555 = .ok (.aload_n 0, 1) := by decide +kernel
theorem dL_law_556 : decode cL_law 556 = .ok (.iload_n 3, 1) := by decide +kernel
theorem dL_law_557 : decode cL_law 557 = .ok (.iconst 1, 1) := by decide +kernel
theorem dL_law_558 : decode cL_law 558 = .ok (.iadd, 1) := by decide +kernel
theorem dL_law_559 : decode cL_law 559 = .ok (.iaload, 1) := by decide +kernel
theorem dL_law_560 : decode cL_law 560 = .ok (.invokevirtual 66, 3) := by decide +kernel
theorem dL_law_563 : decode cL_law 563 = .ok (.if_icmp .eq 283, 3) := by decide +kernel
theorem dL_law_566 : decode cL_law 566 = .ok (.iconst 0, 1) := by decide +kernel
theorem dL_law_567 : decode cL_law 567 = .ok (.ireturn, 1) := by decide +kernel
theorem dL_law_568 : decode cL_law 568 = .ok (.aload_n 1, 1) := by decide +kernel
theorem dL_law_569 : decode cL_law 569 = .ok (.aload_n 0, 1) := by decide +kernel
theorem dL_law_570 : decode cL_law 570 = .ok (.iload_n 3, 1) := by decide +kernel
theorem dL_law_571 : decode cL_law 571 = .ok (.iconst 1, 1) := by decide +kernel
theorem dL_law_572 : decode cL_law 572 = .ok (.iadd, 1) := by decide +kernel
theorem dL_law_573 : decode cL_law 573 = .ok (.iaload, 1) := by decide +kernel
theorem dL_law_574 : decode cL_law 574 = .ok (.invokevirtual 67, 3) := by decide +kernel
theorem dL_law_577 : decode cL_law 577 = .ok (.aload_n 2, 1) := by decide +kernel
theorem dL_law_578 : decode cL_law 578 = .ok (.aload_n 0, 1) := by decide +kernel
theorem dL_law_579 : decode cL_law 579 = .ok (.iload_n 3, 1) := by decide +kernel
theorem dL_law_580 : decode cL_law 580 = .ok (.iconst 1, 1) := by decide +kernel
theorem dL_law_581 : decode cL_law 581 = .ok (.iadd, 1) := by decide +kernel
theorem dL_law_582 : decode cL_law 582 = .ok (.iaload, 1) := by decide +kernel
theorem dL_law_583 : decode cL_law 583 = .ok (.invokevirtual 70, 3) := by decide +kernel
theorem dL_law_586 : decode cL_law 586 = .ok (.if_icmp .eq 260, 3) := by decide +kernel
theorem dL_law_589 : decode cL_law 589 = .ok (.iconst 0, 1) := by decide +kernel
theorem dL_law_590 : decode cL_law 590 = .ok (.ireturn, 1) := by decide +kernel
theorem dL_law_591 : decode cL_law 591 = .ok (.aload_n 1, 1) := by decide +kernel
theorem dL_law_592 : decode cL_law 592 = .ok (.aload_n 0, 1) := by decide +kernel
theorem dL_law_593 : decode cL_law 593 = .ok (.iload_n 3, 1) := by decide +kernel
theorem dL_law_594 : decode cL_law 594 = .ok (.iconst 1, 1) := by decide +kernel
theorem dL_law_595 : decode cL_law 595 = .ok (.iadd, 1) := by decide +kernel
theorem dL_law_596 : decode cL_law 596 = .ok (.iaload, 1) := by decide +kernel
theorem dL_law_597 : decode cL_law 597 = .ok (.invokevirtual 71, 3) := by decide +kernel
theorem dL_law_600 : decode cL_law 600 = .ok (.aload_n 2, 1) := by decide +kernel
theorem dL_law_601 : decode cL_law 601 = .ok (.aload_n 0, 1) := by decide +kernel
theorem dL_law_602 : decode cL_law 602 = .ok (.iload_n 3, 1) := by decide +kernel
theorem dL_law_603 : decode cL_law 603 = .ok (.iconst 1, 1) := by decide +kernel
theorem dL_law_604 : decode cL_law 604 = .ok (.iadd, 1) := by decide +kernel
theorem dL_law_605 : decode cL_law 605 = .ok (.iaload, 1) := by decide +kernel
theorem dL_law_606 : decode cL_law 606 = .ok (.invokevirtual 74, 3) := by decide +kernel
theorem dL_law_609 : decode cL_law 609 = .ok (.if_icmp .eq 237, 3) := by decide +kernel
theorem dL_law_612 : decode cL_law 612 = .ok (.iconst 0, 1) := by decide +kernel
theorem dL_law_613 : decode cL_law 613 = .ok (.ireturn, 1) := by decide +kernel
theorem dL_law_614 : decode cL_law 614 = .ok (.aload_n 1, 1) := by decide +kernel
theorem dL_law_615 : decode cL_law 615 = .ok (.aload_n 0, 1) := by decide +kernel
theorem dL_law_616 : decode cL_law 616 = .ok (.iload_n 3, 1) := by decide +kernel
theorem dL_law_617 : decode cL_law 617 = .ok (.iconst 1, 1) := by decide +kernel
theorem dL_law_618 : decode cL_law 618 = .ok (.iadd, 1) := by decide +kernel
theorem dL_law_619 : decode cL_law 619 = .ok (.iaload, 1) := by decide +kernel
theorem dL_law_620 : decode cL_law 620 = .ok (.aload_n 0, 1) := by decide +kernel
theorem dL_law_621 : decode cL_law 621 = .ok (.iload_n 3, 1) := by decide +kernel
theorem dL_law_622 : decode cL_law 622 = .ok (.iconst 2, 1) := by decide +kernel
theorem dL_law_623 : decode cL_law 623 = .ok (.iadd, 1) := by decide +kernel
theorem dL_law_624 : decode cL_law 624 = .ok (.iaload, 1) := by decide +kernel
theorem dL_law_625 : decode cL_law 625 = .ok (.invokevirtual 75, 3) := by decide +kernel
theorem dL_law_628 : decode cL_law 628 = .ok (.aload_n 2, 1) := by decide +kernel
theorem dL_law_629 : decode cL_law 629 = .ok (.aload_n 0, 1) := by decide +kernel
theorem dL_law_630 : decode cL_law 630 = .ok (.iload_n 3, 1) := by decide +kernel
theorem dL_law_631 : decode cL_law 631 = .ok (.iconst 1, 1) := by decide +kernel
theorem dL_law_632 : decode cL_law 632 = .ok (.iadd, 1) := by decide +kernel
theorem dL_law_633 : decode cL_law 633 = .ok (.iaload, 1) := by decide +kernel
theorem dL_law_634 : decode cL_law 634 = .ok (.aload_n 0, 1) := by decide +kernel
theorem dL_law_635 : decode cL_law 635 = .ok (.iload_n 3, 1) := by decide +kernel
theorem dL_law_636 : decode cL_law 636 = .ok (.iconst 2, 1) := by decide +kernel
theorem dL_law_637 : decode cL_law 637 = .ok (.iadd, 1) := by decide +kernel
theorem dL_law_638 : decode cL_law 638 = .ok (.iaload, 1) := by decide +kernel
theorem dL_law_639 : decode cL_law 639 = .ok (.invokevirtual 78, 3) := by decide +kernel
theorem dL_law_642 : decode cL_law 642 = .ok (.if_icmp .eq 204, 3) := by decide +kernel
theorem dL_law_645 : decode cL_law 645 = .ok (.iconst 0, 1) := by decide +kernel
theorem dL_law_646 : decode cL_law 646 = .ok (.ireturn, 1) := by decide +kernel
theorem dL_law_647 : decode cL_law 647 = .ok (.aload_n 1, 1) := by decide +kernel
theorem dL_law_648 : decode cL_law 648 = .ok (.aload_n 0, 1) := by decide +kernel
theorem dL_law_649 : decode cL_law 649 = .ok (.iload_n 3, 1) := by decide +kernel
theorem dL_law_650 : decode cL_law 650 = .ok (.iconst 1, 1) := by decide +kernel
theorem dL_law_651 : decode cL_law 651 = .ok (.iadd, 1) := by decide +kernel
theorem dL_law_652 : decode cL_law 652 = .ok (.iaload, 1) := by decide +kernel
theorem dL_law_653 : decode cL_law 653 = .ok (.invokevirtual 79, 3) := by decide +kernel
theorem dL_law_656 : decode cL_law 656 = .ok (.aload_n 2, 1) := by decide +kernel
theorem dL_law_657 : decode cL_law 657 = .ok (.aload_n 0, 1) := by decide +kernel
theorem dL_law_658 : decode cL_law 658 = .ok (.iload_n 3, 1) := by decide +kernel
theorem dL_law_659 : decode cL_law 659 = .ok (.iconst 1, 1) := by decide +kernel
theorem dL_law_660 : decode cL_law 660 = .ok (.iadd, 1) := by decide +kernel
theorem dL_law_661 : decode cL_law 661 = .ok (.iaload, 1) := by decide +kernel
theorem dL_law_662 : decode cL_law 662 = .ok (.invokevirtual 82, 3) := by decide +kernel
theorem dL_law_665 : decode cL_law 665 = .ok (.if_icmp .eq 181, 3) := by decide +kernel
theorem dL_law_668 : decode cL_law 668 = .ok (.iconst 0, 1) := by decide +kernel
theorem dL_law_669 : decode cL_law 669 = .ok (.ireturn, 1) := by decide +kernel
theorem dL_law_670 : decode cL_law 670 = .ok (.aload_n 1, 1) := by decide +kernel
theorem dL_law_671 : decode cL_law 671 = .ok (.invokevirtual 83, 3) := by decide +kernel
theorem dL_law_674 : decode cL_law 674 = .ok (.aload_n 2, 1) := by decide +kernel
theorem dL_law_675 : decode cL_law 675 = .ok (.invokevirtual 87, 3) := by decide +kernel
theorem dL_law_678 : decode cL_law 678 = .ok (.lcmp, 1) := by decide +kernel
theorem dL_law_679 : decode cL_law 679 = .ok (.ifCond .eq 167, 3) := by decide +kernel
theorem dL_law_682 : decode cL_law 682 = .ok (.iconst 0, 1) := by decide +kernel
theorem dL_law_683 : decode cL_law 683 = .ok (.ireturn, 1) := by decide +kernel
theorem dL_law_684 : decode cL_law 684 = .ok (.aload_n 1, 1) := by decide +kernel
theorem dL_law_685 : decode cL_law 685 = .ok (.aload_n 0, 1) := by decide +kernel
theorem dL_law_686 : decode cL_law 686 = .ok (.iload_n 3, 1) := by decide +kernel
theorem dL_law_687 : decode cL_law 687 = .ok (.iconst 1, 1) := by decide +kernel
theorem dL_law_688 : decode cL_law 688 = .ok (.iadd, 1) := by decide +kernel
theorem dL_law_689 : decode cL_law 689 = .ok (.iaload, 1) := by decide +kernel
theorem dL_law_690 : decode cL_law 690 = .ok (.aload_n 0, 1) := by decide +kernel
theorem dL_law_691 : decode cL_law 691 = .ok (.iload_n 3, 1) := by decide +kernel
theorem dL_law_692 : decode cL_law 692 = .ok (.iconst 2, 1) := by decide +kernel
theorem dL_law_693 : decode cL_law 693 = .ok (.iadd, 1) := by decide +kernel
theorem dL_law_694 : decode cL_law 694 = .ok (.iaload, 1) := by decide +kernel
theorem dL_law_695 : decode cL_law 695 = .ok (.invokevirtual 88, 3) := by decide +kernel
theorem dL_law_698 : decode cL_law 698 = .ok (.aload_n 2, 1) := by decide +kernel
theorem dL_law_699 : decode cL_law 699 = .ok (.aload_n 0, 1) := by decide +kernel
theorem dL_law_700 : decode cL_law 700 = .ok (.iload_n 3, 1) := by decide +kernel
theorem dL_law_701 : decode cL_law 701 = .ok (.iconst 1, 1) := by decide +kernel
theorem dL_law_702 : decode cL_law 702 = .ok (.iadd, 1) := by decide +kernel
theorem dL_law_703 : decode cL_law 703 = .ok (.iaload, 1) := by decide +kernel
theorem dL_law_704 : decode cL_law 704 = .ok (.aload_n 0, 1) := by decide +kernel
theorem dL_law_705 : decode cL_law 705 = .ok (.iload_n 3, 1) := by decide +kernel
theorem dL_law_706 : decode cL_law 706 = .ok (.iconst 2, 1) := by decide +kernel
theorem dL_law_707 : decode cL_law 707 = .ok (.iadd, 1) := by decide +kernel
theorem dL_law_708 : decode cL_law 708 = .ok (.iaload, 1) := by decide +kernel
theorem dL_law_709 : decode cL_law 709 = .ok (.invokevirtual 91, 3) := by decide +kernel
theorem dL_law_712 : decode cL_law 712 = .ok (.if_icmp .eq 134, 3) := by decide +kernel
theorem dL_law_715 : decode cL_law 715 = .ok (.iconst 0, 1) := by decide +kernel
theorem dL_law_716 : decode cL_law 716 = .ok (.ireturn, 1) := by decide +kernel
theorem dL_law_717 : decode cL_law 717 = .ok (.aload_n 1, 1) := by decide +kernel
theorem dL_law_718 : decode cL_law 718 = .ok (.aload_n 0, 1) := by decide +kernel
theorem dL_law_719 : decode cL_law 719 = .ok (.iload_n 3, 1) := by decide +kernel
theorem dL_law_720 : decode cL_law 720 = .ok (.iconst 1, 1) := by decide +kernel
theorem dL_law_721 : decode cL_law 721 = .ok (.iadd, 1) := by decide +kernel
theorem dL_law_722 : decode cL_law 722 = .ok (.iaload, 1) := by decide +kernel
theorem dL_law_723 : decode cL_law 723 = .ok (.invokevirtual 92, 3) := by decide +kernel
theorem dL_law_726 : decode cL_law 726 = .ok (.aload_n 2, 1) := by decide +kernel
theorem dL_law_727 : decode cL_law 727 = .ok (.aload_n 0, 1) := by decide +kernel
theorem dL_law_728 : decode cL_law 728 = .ok (.iload_n 3, 1) := by decide +kernel
theorem dL_law_729 : decode cL_law 729 = .ok (.iconst 1, 1) := by decide +kernel
theorem dL_law_730 : decode cL_law 730 = .ok (.iadd, 1) := by decide +kernel
theorem dL_law_731 : decode cL_law 731 = .ok (.iaload, 1) := by decide +kernel
theorem dL_law_732 : decode cL_law 732 = .ok (.invokevirtual 95, 3) := by decide +kernel
theorem dL_law_735 : decode cL_law 735 = .ok (.if_icmp .eq 111, 3) := by decide +kernel
theorem dL_law_738 : decode cL_law 738 = .ok (.iconst 0, 1) := by decide +kernel
theorem dL_law_739 : decode cL_law 739 = .ok (.ireturn, 1) := by decide +kernel
theorem dL_law_740 : decode cL_law 740 = .ok (.aload_n 1, 1) := by decide +kernel
theorem dL_law_741 : decode cL_law 741 = .ok (.aload_n 0, 1) := by decide +kernel
theorem dL_law_742 : decode cL_law 742 = .ok (.iload_n 3, 1) := by decide +kernel
theorem dL_law_743 : decode cL_law 743 = .ok (.iconst 1, 1) := by decide +kernel
theorem dL_law_744 : decode cL_law 744 = .ok (.iadd, 1) := by decide +kernel
theorem dL_law_745 : decode cL_law 745 = .ok (.iaload, 1) := by decide +kernel
theorem dL_law_746 : decode cL_law 746 = .ok (.aload_n 0, 1) := by decide +kernel
theorem dL_law_747 : decode cL_law 747 = .ok (.iload_n 3, 1) := by decide +kernel
theorem dL_law_748 : decode cL_law 748 = .ok (.iconst 2, 1) := by decide +kernel
theorem dL_law_749 : decode cL_law 749 = .ok (.iadd, 1) := by decide +kernel
theorem dL_law_750 : decode cL_law 750 = .ok (.iaload, 1) := by decide +kernel
theorem dL_law_751 : decode cL_law 751 = .ok (.invokevirtual 96, 3) := by decide +kernel
theorem dL_law_754 : decode cL_law 754 = .ok (.aload_n 2, 1) := by decide +kernel
theorem dL_law_755 : decode cL_law 755 = .ok (.aload_n 0, 1) := by decide +kernel
theorem dL_law_756 : decode cL_law 756 = .ok (.iload_n 3, 1) := by decide +kernel
theorem dL_law_757 : decode cL_law 757 = .ok (.iconst 1, 1) := by decide +kernel
theorem dL_law_758 : decode cL_law 758 = .ok (.iadd, 1) := by decide +kernel
theorem dL_law_759 : decode cL_law 759 = .ok (.iaload, 1) := by decide +kernel
theorem dL_law_760 : decode cL_law 760 = .ok (.aload_n 0, 1) := by decide +kernel
theorem dL_law_761 : decode cL_law 761 = .ok (.iload_n 3, 1) := by decide +kernel
theorem dL_law_762 : decode cL_law 762 = .ok (.iconst 2, 1) := by decide +kernel
theorem dL_law_763 : decode cL_law 763 = .ok (.iadd, 1) := by decide +kernel
theorem dL_law_764 : decode cL_law 764 = .ok (.iaload, 1) := by decide +kernel
theorem dL_law_765 : decode cL_law 765 = .ok (.invokevirtual 99, 3) := by decide +kernel
theorem dL_law_768 : decode cL_law 768 = .ok (.lcmp, 1) := by decide +kernel
theorem dL_law_769 : decode cL_law 769 = .ok (.ifCond .eq 77, 3) := by decide +kernel
theorem dL_law_772 : decode cL_law 772 = .ok (.iconst 0, 1) := by decide +kernel
theorem dL_law_773 : decode cL_law 773 = .ok (.ireturn, 1) := by decide +kernel
theorem dL_law_774 : decode cL_law 774 = .ok (.aload_n 1, 1) := by decide +kernel
theorem dL_law_775 : decode cL_law 775 = .ok (.invokevirtual 100, 3) := by decide +kernel
theorem dL_law_778 : decode cL_law 778 = .ok (.aload_n 2, 1) := by decide +kernel
theorem dL_law_779 : decode cL_law 779 = .ok (.invokevirtual 104, 3) := by decide +kernel
theorem dL_law_782 : decode cL_law 782 = .ok (.if_icmp .eq 64, 3) := by decide +kernel
theorem dL_law_785 : decode cL_law 785 = .ok (.iconst 0, 1) := by decide +kernel
theorem dL_law_786 : decode cL_law 786 = .ok (.ireturn, 1) := by decide +kernel
theorem dL_law_787 : decode cL_law 787 = .ok (.aload_n 1, 1) := by decide +kernel
theorem dL_law_788 : decode cL_law 788 = .ok (.aload_n 0, 1) := by decide +kernel
theorem dL_law_789 : decode cL_law 789 = .ok (.iload_n 3, 1) := by decide +kernel
theorem dL_law_790 : decode cL_law 790 = .ok (.iconst 1, 1) := by decide +kernel
theorem dL_law_791 : decode cL_law 791 = .ok (.iadd, 1) := by decide +kernel
theorem dL_law_792 : decode cL_law 792 = .ok (.iaload, 1) := by decide +kernel
theorem dL_law_793 : decode cL_law 793 = .ok (.invokevirtual 105, 3) := by decide +kernel
theorem dL_law_796 : decode cL_law 796 = .ok (.aload_n 2, 1) := by decide +kernel
theorem dL_law_797 : decode cL_law 797 = .ok (.aload_n 0, 1) := by decide +kernel
theorem dL_law_798 : decode cL_law 798 = .ok (.iload_n 3, 1) := by decide +kernel
theorem dL_law_799 : decode cL_law 799 = .ok (.iconst 1, 1) := by decide +kernel
theorem dL_law_800 : decode cL_law 800 = .ok (.iadd, 1) := by decide +kernel
theorem dL_law_801 : decode cL_law 801 = .ok (.iaload, 1) := by decide +kernel
theorem dL_law_802 : decode cL_law 802 = .ok (.invokevirtual 108, 3) := by decide +kernel
theorem dL_law_805 : decode cL_law 805 = .ok (.if_icmp .eq 41, 3) := by decide +kernel
theorem dL_law_808 : decode cL_law 808 = .ok (.iconst 0, 1) := by decide +kernel
theorem dL_law_809 : decode cL_law 809 = .ok (.ireturn, 1) := by decide +kernel
theorem dL_law_810 : decode cL_law 810 = .ok (.aload_n 1, 1) := by decide +kernel
theorem dL_law_811 : decode cL_law 811 = .ok (.aload_n 0, 1) := by decide +kernel
theorem dL_law_812 : decode cL_law 812 = .ok (.iload_n 3, 1) := by decide +kernel
theorem dL_law_813 : decode cL_law 813 = .ok (.iconst 1, 1) := by decide +kernel
theorem dL_law_814 : decode cL_law 814 = .ok (.iadd, 1) := by decide +kernel
theorem dL_law_815 : decode cL_law 815 = .ok (.iaload, 1) := by decide +kernel
theorem dL_law_816 : decode cL_law 816 = .ok (.invokevirtual 109, 3) := by decide +kernel
theorem dL_law_819 : decode cL_law 819 = .ok (.aload_n 2, 1) := by decide +kernel
theorem dL_law_820 : decode cL_law 820 = .ok (.aload_n 0, 1) := by decide +kernel
theorem dL_law_821 : decode cL_law 821 = .ok (.iload_n 3, 1) := by decide +kernel
theorem dL_law_822 : decode cL_law 822 = .ok (.iconst 1, 1) := by decide +kernel
theorem dL_law_823 : decode cL_law 823 = .ok (.iadd, 1) := by decide +kernel
theorem dL_law_824 : decode cL_law 824 = .ok (.iaload, 1) := by decide +kernel
theorem dL_law_825 : decode cL_law 825 = .ok (.invokevirtual 112, 3) := by decide +kernel
theorem dL_law_828 : decode cL_law 828 = .ok (.if_icmp .eq 18, 3) := by decide +kernel
theorem dL_law_831 : decode cL_law 831 = .ok (.iconst 0, 1) := by decide +kernel
theorem dL_law_832 : decode cL_law 832 = .ok (.ireturn, 1) := by decide +kernel
theorem dL_law_833 : decode cL_law 833 = .ok (.aload_n 1, 1) := by decide +kernel
theorem dL_law_834 : decode cL_law 834 = .ok (.invokevirtual 113, 3) := by decide +kernel
theorem dL_law_837 : decode cL_law 837 = .ok (.aload_n 2, 1) := by decide +kernel
theorem dL_law_838 : decode cL_law 838 = .ok (.invokevirtual 116, 3) := by decide +kernel
theorem dL_law_841 : decode cL_law 841 = .ok (.if_icmp .eq 5, 3) := by decide +kernel
theorem dL_law_844 : decode cL_law 844 = .ok (.iconst 0, 1) := by decide +kernel
theorem dL_law_845 : decode cL_law 845 = .ok (.ireturn, 1) := by decide +kernel
theorem dL_law_846 : decode cL_law 846 = .ok (.iinc 3 6, 3) := by decide +kernel
theorem dL_law_849 : decode cL_law 849 = .ok (.goto (-831), 3) := by decide +kernel
theorem dL_law_852 : decode cL_law 852 = .ok (.iconst 1, 1) := by decide +kernel
theorem dL_law_853 : decode cL_law 853 = .ok (.ireturn, 1) := by decide +kernel
end
section
theorem dX0_init_0 : decode cX0_init 0 = .ok (.aload_n 0, 1) := by decide +kernel
theorem dX0_init_1 : decode cX0_init 1 = .ok (.invokespecial 3, 3) := by decide +kernel
theorem dX0_init_4 : decode cX0_init 4 = .ok (.aload_n 0, 1) := by decide +kernel
theorem dX0_init_5 : decode cX0_init 5 = .ok (.bipush 12, 2) := by decide +kernel
theorem dX0_init_7 : decode cX0_init 7 = .ok (.newarray .int, 2) := by decide +kernel
theorem dX0_init_9 : decode cX0_init 9 = .ok (.putfield 9, 3) := by decide +kernel
theorem dX0_init_12 : decode cX0_init 12 = .ok (.aload_n 0, 1) := by decide +kernel
theorem dX0_init_13 : decode cX0_init 13 = .ok (.bipush 12, 2) := by decide +kernel
theorem dX0_init_15 : decode cX0_init 15 = .ok (.newarray .int, 2) := by decide +kernel
theorem dX0_init_17 : decode cX0_init 17 = .ok (.putfield 15, 3) := by decide +kernel
theorem dX0_init_20 : decode cX0_init 20 = .ok (.aload_n 0, 1) := by decide +kernel
theorem dX0_init_21 : decode cX0_init 21 = .ok (.bipush 12, 2) := by decide +kernel
theorem dX0_init_23 : decode cX0_init 23 = .ok (.newarray .int, 2) := by decide +kernel
theorem dX0_init_25 : decode cX0_init 25 = .ok (.putfield 18, 3) := by decide +kernel
theorem dX0_init_28 : decode cX0_init 28 = .ok (.return_, 1) := by decide +kernel
theorem dX0_take_0 : decode cX0_take 0 = .ok (.aload_n 0, 1) := by decide +kernel
theorem dX0_take_1 : decode cX0_take 1 = .ok (.iload_n 1, 1) := by decide +kernel
theorem dX0_take_2 : decode cX0_take 2 = .ok (.invokevirtual 21, 3) := by decide +kernel
theorem dX0_take_5 : decode cX0_take 5 = .ok (.istore_n 2, 1) := by decide +kernel
theorem dX0_take_6 : decode cX0_take 6 = .ok (.iload_n 2, 1) := by decide +kernel
theorem dX0_take_7 : decode cX0_take 7 = .ok (.iconst (-1), 1) := by decide +kernel
theorem dX0_take_8 : decode cX0_take 8 = .ok (.if_icmp .eq 16, 3) := by decide +kernel
theorem dX0_take_11 : decode cX0_take 11 = .ok (.aload_n 0, 1) := by decide +kernel
theorem dX0_take_12 : decode cX0_take 12 = .ok (.getfield 15, 3) := by decide +kernel
theorem dX0_take_15 : decode cX0_take 15 = .ok (.iload_n 2, 1) := by decide +kernel
theorem dX0_take_16 : decode cX0_take 16 = .ok (.dup2, 1) := by decide +kernel
theorem dX0_take_17 : decode cX0_take 17 = .ok (.iaload, 1) := by decide +kernel
theorem dX0_take_18 : decode cX0_take 18 = .ok (.iconst 1, 1) := by decide +kernel
theorem dX0_take_19 : decode cX0_take 19 = .ok (.iadd, 1) := by decide +kernel
theorem dX0_take_20 : decode cX0_take 20 = .ok (.iastore, 1) := by decide +kernel
theorem dX0_take_21 : decode cX0_take 21 = .ok (.goto 54, 3) := by decide +kernel
theorem dX0_take_24 : decode cX0_take 24 = .ok (.aload_n 0, 1) := by decide +kernel
theorem dX0_take_25 : decode cX0_take 25 = .ok (.getfield 25, 3) := by decide +kernel
theorem dX0_take_28 : decode cX0_take 28 = .ok (.aload_n 0, 1) := by decide +kernel
theorem dX0_take_29 : decode cX0_take 29 = .ok (.getfield 29, 3) := by decide +kernel
theorem dX0_take_32 : decode cX0_take 32 = .ok (.if_icmp .ge 26, 3) := by decide +kernel
theorem dX0_take_35 : decode cX0_take 35 = .ok (.aload_n 0, 1) := by decide +kernel
theorem dX0_take_36 : decode cX0_take 36 = .ok (.aload_n 0, 1) := by decide +kernel
theorem dX0_take_37 : decode cX0_take 37 = .ok (.getfield 25, 3) := by decide +kernel
theorem dX0_take_40 : decode cX0_take 40 = .ok (.iload_n 1, 1) := by decide +kernel
theorem dX0_take_41 : decode cX0_take 41 = .ok (.iconst 0, 1) := by decide +kernel
theorem dX0_take_42 : decode cX0_take 42 = .ok (.invokevirtual 32, 3) := by decide +kernel
theorem dX0_take_45 : decode cX0_take 45 = .ok (.aload_n 0, 1) := by decide +kernel
theorem dX0_take_46 : decode cX0_take 46 = .ok (.dup, 1) := by decide +kernel
theorem dX0_take_47 : decode cX0_take 47 = .ok (.getfield 25, 3) := by decide +kernel
theorem dX0_take_50 : decode cX0_take 50 = .ok (.iconst 1, 1) := by decide +kernel
theorem dX0_take_51 : decode cX0_take 51 = .ok (.iadd, 1) := by decide +kernel
theorem dX0_take_52 : decode cX0_take 52 = .ok (.putfield 25, 3) := by decide +kernel
theorem dX0_take_55 : decode cX0_take 55 = .ok (.goto 20, 3) := by decide +kernel
theorem dX0_take_58 : decode cX0_take 58 = .ok (.aload_n 0, 1) := by decide +kernel
theorem dX0_take_59 : decode cX0_take 59 = .ok (.invokevirtual 36, 3) := by decide +kernel
theorem dX0_take_62 : decode cX0_take 62 = .ok (.istore_n 3, 1) := by decide +kernel
theorem dX0_take_63 : decode cX0_take 63 = .ok (.aload_n 0, 1) := by decide +kernel
theorem dX0_take_64 : decode cX0_take 64 = .ok (.iload_n 3, 1) := by decide +kernel
theorem dX0_take_65 : decode cX0_take 65 = .ok (.iload_n 1, 1) := by decide +kernel
theorem dX0_take_66 : decode cX0_take 66 = .ok (.aload_n 0, 1) := by decide +kernel
theorem dX0_take_67 : decode cX0_take 67 = .ok (.getfield 15, 3) := by decide +kernel
theorem dX0_take_70 : decode cX0_take 70 = .ok (.iload_n 3, 1) := by decide +kernel
theorem dX0_take_71 : decode cX0_take 71 = .ok (.iaload, 1) := by decide +kernel
theorem dX0_take_72 : decode cX0_take 72 = .ok (.invokevirtual 32, 3) := by decide +kernel
theorem dX0_take_75 : decode cX0_take 75 = .ok (.return_, 1) := by decide +kernel
theorem dX0_put_0 : decode cX0_put 0 = .ok (.aload_n 0, 1) := by decide +kernel
theorem dX0_put_1 : decode cX0_put 1 = .ok (.getfield 9, 3) := by decide +kernel
theorem dX0_put_4 : decode cX0_put 4 = .ok (.iload_n 1, 1) := by decide +kernel
theorem dX0_put_5 : decode cX0_put 5 = .ok (.iload_n 2, 1) := by decide +kernel
theorem dX0_put_6 : decode cX0_put 6 = .ok (.iastore, 1) := by decide +kernel
theorem dX0_put_7 : decode cX0_put 7 = .ok (.aload_n 0, 1) := by decide +kernel
theorem dX0_put_8 : decode cX0_put 8 = .ok (.getfield 18, 3) := by decide +kernel
theorem dX0_put_11 : decode cX0_put 11 = .ok (.iload_n 1, 1) := by decide +kernel
theorem dX0_put_12 : decode cX0_put 12 = .ok (.iload_n 3, 1) := by decide +kernel
theorem dX0_put_13 : decode cX0_put 13 = .ok (.iastore, 1) := by decide +kernel
theorem dX0_put_14 : decode cX0_put 14 = .ok (.aload_n 0, 1) := by decide +kernel
theorem dX0_put_15 : decode cX0_put 15 = .ok (.getfield 15, 3) := by decide +kernel
theorem dX0_put_18 : decode cX0_put 18 = .ok (.iload_n 1, 1) := by decide +kernel
theorem dX0_put_19 : decode cX0_put 19 = .ok (.iload_n 3, 1) := by decide +kernel
theorem dX0_put_20 : decode cX0_put 20 = .ok (.iconst 1, 1) := by decide +kernel
theorem dX0_put_21 : decode cX0_put 21 = .ok (.iadd, 1) := by decide +kernel
theorem dX0_put_22 : decode cX0_put 22 = .ok (.iastore, 1) := by decide +kernel
theorem dX0_put_23 : decode cX0_put 23 = .ok (.return_, 1) := by decide +kernel
theorem dX0_find_0 : decode cX0_find 0 = .ok (.iconst 0, 1) := by decide +kernel
theorem dX0_find_1 : decode cX0_find 1 = .ok (.istore_n 2, 1) := by decide +kernel
theorem dX0_find_2 : decode cX0_find 2 = .ok (.iload_n 2, 1) := by decide +kernel
theorem dX0_find_3 : decode cX0_find 3 = .ok (.aload_n 0, 1) := by decide +kernel
theorem dX0_find_4 : decode cX0_find 4 = .ok (.getfield 25, 3) := by decide +kernel
theorem dX0_find_7 : decode cX0_find 7 = .ok (.if_icmp .ge 21, 3) := by decide +kernel
theorem dX0_find_10 : decode cX0_find 10 = .ok (.aload_n 0, 1) := by decide +kernel
theorem dX0_find_11 : decode cX0_find 11 = .ok (.getfield 9, 3) := by decide +kernel
theorem dX0_find_14 : decode cX0_find 14 = .ok (.iload_n 2, 1) := by decide +kernel
theorem dX0_find_15 : decode cX0_find 15 = .ok (.iaload, 1) := by decide +kernel
theorem dX0_find_16 : decode cX0_find 16 = .ok (.iload_n 1, 1) := by decide +kernel
theorem dX0_find_17 : decode cX0_find 17 = .ok (.if_icmp .ne 5, 3) := by decide +kernel
theorem dX0_find_20 : decode cX0_find 20 = .ok (.iload_n 2, 1) := by decide +kernel
theorem dX0_find_21 : decode cX0_find 21 = .ok (.ireturn, 1) := by decide +kernel
theorem dX0_find_22 : decode cX0_find 22 = .ok (.iinc 2 1, 3) := by decide +kernel
theorem dX0_find_25 : decode cX0_find 25 = .ok (.goto (-23), 3) := by decide +kernel
theorem dX0_find_28 : decode cX0_find 28 = .ok (.iconst (-1), 1) := by decide +kernel
theorem dX0_find_29 : decode cX0_find 29 = .ok (.ireturn, 1) := by decide +kernel
theorem dX0_leastAt_0 : decode cX0_leastAt 0 = .ok (.iconst 0, 1) := by decide +kernel
theorem dX0_leastAt_1 : decode cX0_leastAt 1 = .ok (.istore_n 1, 1) := by decide +kernel
theorem dX0_leastAt_2 : decode cX0_leastAt 2 = .ok (.iconst 1, 1) := by decide +kernel
theorem dX0_leastAt_3 : decode cX0_leastAt 3 = .ok (.istore_n 2, 1) := by decide +kernel
theorem dX0_leastAt_4 : decode cX0_leastAt 4 = .ok (.iload_n 2, 1) := by decide +kernel
theorem dX0_leastAt_5 : decode cX0_leastAt 5 = .ok (.aload_n 0, 1) := by decide +kernel
theorem dX0_leastAt_6 : decode cX0_leastAt 6 = .ok (.getfield 25, 3) := by decide +kernel
theorem dX0_leastAt_9 : decode cX0_leastAt 9 = .ok (.if_icmp .ge 26, 3) := by decide +kernel
theorem dX0_leastAt_12 : decode cX0_leastAt 12 = .ok (.aload_n 0, 1) := by decide +kernel
theorem dX0_leastAt_13 : decode cX0_leastAt 13 = .ok (.getfield 15, 3) := by decide +kernel
theorem dX0_leastAt_16 : decode cX0_leastAt 16 = .ok (.iload_n 2, 1) := by decide +kernel
theorem dX0_leastAt_17 : decode cX0_leastAt 17 = .ok (.iaload, 1) := by decide +kernel
theorem dX0_leastAt_18 : decode cX0_leastAt 18 = .ok (.aload_n 0, 1) := by decide +kernel
theorem dX0_leastAt_19 : decode cX0_leastAt 19 = .ok (.getfield 15, 3) := by decide +kernel
theorem dX0_leastAt_22 : decode cX0_leastAt 22 = .ok (.iload_n 1, 1) := by decide +kernel
theorem dX0_leastAt_23 : decode cX0_leastAt 23 = .ok (.iaload, 1) := by decide +kernel
theorem dX0_leastAt_24 : decode cX0_leastAt 24 = .ok (.if_icmp .ge 5, 3) := by decide +kernel
theorem dX0_leastAt_27 : decode cX0_leastAt 27 = .ok (.iload_n 2, 1) := by decide +kernel
theorem dX0_leastAt_28 : decode cX0_leastAt 28 = .ok (.istore_n 1, 1) := by decide +kernel
theorem dX0_leastAt_29 : decode cX0_leastAt 29 = .ok (.iinc 2 1, 3) := by decide +kernel
theorem dX0_leastAt_32 : decode cX0_leastAt 32 = .ok (.goto (-28), 3) := by decide +kernel
theorem dX0_leastAt_35 : decode cX0_leastAt 35 = .ok (.iload_n 1, 1) := by decide +kernel
theorem dX0_leastAt_36 : decode cX0_leastAt 36 = .ok (.ireturn, 1) := by decide +kernel
theorem dX0_keyAt_0 : decode cX0_keyAt 0 = .ok (.iload_n 1, 1) := by decide +kernel
theorem dX0_keyAt_1 : decode cX0_keyAt 1 = .ok (.aload_n 0, 1) := by decide +kernel
theorem dX0_keyAt_2 : decode cX0_keyAt 2 = .ok (.getfield 25, 3) := by decide +kernel
theorem dX0_keyAt_5 : decode cX0_keyAt 5 = .ok (.if_icmp .ge 12, 3) := by decide +kernel
theorem dX0_keyAt_8 : decode cX0_keyAt 8 = .ok (.aload_n 0, 1) := by decide +kernel
theorem dX0_keyAt_9 : decode cX0_keyAt 9 = .ok (.getfield 9, 3) := by decide +kernel
theorem dX0_keyAt_12 : decode cX0_keyAt 12 = .ok (.iload_n 1, 1) := by decide +kernel
theorem dX0_keyAt_13 : decode cX0_keyAt 13 = .ok (.iaload, 1) := by decide +kernel
theorem dX0_keyAt_14 : decode cX0_keyAt 14 = .ok (.goto 4, 3) := by decide +kernel
theorem dX0_keyAt_17 : decode cX0_keyAt 17 = .ok (.iconst (-1), 1) := by decide +kernel
theorem dX0_keyAt_18 : decode cX0_keyAt 18 = .ok (.ireturn, 1) := by decide +kernel
theorem dX0_countAt_0 : decode cX0_countAt 0 = .ok (.iload_n 1, 1) := by decide +kernel
theorem dX0_countAt_1 : decode cX0_countAt 1 = .ok (.aload_n 0, 1) := by decide +kernel
theorem dX0_countAt_2 : decode cX0_countAt 2 = .ok (.getfield 25, 3) := by decide +kernel
theorem dX0_countAt_5 : decode cX0_countAt 5 = .ok (.if_icmp .ge 12, 3) := by decide +kernel
theorem dX0_countAt_8 : decode cX0_countAt 8 = .ok (.aload_n 0, 1) := by decide +kernel
theorem dX0_countAt_9 : decode cX0_countAt 9 = .ok (.getfield 15, 3) := by decide +kernel
theorem dX0_countAt_12 : decode cX0_countAt 12 = .ok (.iload_n 1, 1) := by decide +kernel
theorem dX0_countAt_13 : decode cX0_countAt 13 = .ok (.iaload, 1) := by decide +kernel
theorem dX0_countAt_14 : decode cX0_countAt 14 = .ok (.goto 4, 3) := by decide +kernel
theorem dX0_countAt_17 : decode cX0_countAt 17 = .ok (.iconst 0, 1) := by decide +kernel
theorem dX0_countAt_18 : decode cX0_countAt 18 = .ok (.ireturn, 1) := by decide +kernel
theorem dX0_errorAt_0 : decode cX0_errorAt 0 = .ok (.iload_n 1, 1) := by decide +kernel
theorem dX0_errorAt_1 : decode cX0_errorAt 1 = .ok (.aload_n 0, 1) := by decide +kernel
theorem dX0_errorAt_2 : decode cX0_errorAt 2 = .ok (.getfield 25, 3) := by decide +kernel
theorem dX0_errorAt_5 : decode cX0_errorAt 5 = .ok (.if_icmp .ge 12, 3) := by decide +kernel
theorem dX0_errorAt_8 : decode cX0_errorAt 8 = .ok (.aload_n 0, 1) := by decide +kernel
theorem dX0_errorAt_9 : decode cX0_errorAt 9 = .ok (.getfield 18, 3) := by decide +kernel
theorem dX0_errorAt_12 : decode cX0_errorAt 12 = .ok (.iload_n 1, 1) := by decide +kernel
theorem dX0_errorAt_13 : decode cX0_errorAt 13 = .ok (.iaload, 1) := by decide +kernel
theorem dX0_errorAt_14 : decode cX0_errorAt 14 = .ok (.goto 4, 3) := by decide +kernel
theorem dX0_errorAt_17 : decode cX0_errorAt 17 = .ok (.iconst 0, 1) := by decide +kernel
theorem dX0_errorAt_18 : decode cX0_errorAt 18 = .ok (.ireturn, 1) := by decide +kernel
theorem dX0_surelyAt_0 : decode cX0_surelyAt 0 = .ok (.aload_n 0, 1) := by decide +kernel
theorem dX0_surelyAt_1 : decode cX0_surelyAt 1 = .ok (.iload_n 1, 1) := by decide +kernel
theorem dX0_surelyAt_2 : decode cX0_surelyAt 2 = .ok (.invokevirtual 40, 3) := by decide +kernel
theorem dX0_surelyAt_5 : decode cX0_surelyAt 5 = .ok (.aload_n 0, 1) := by decide +kernel
theorem dX0_surelyAt_6 : decode cX0_surelyAt 6 = .ok (.iload_n 1, 1) := by decide +kernel
theorem dX0_surelyAt_7 : decode cX0_surelyAt 7 = .ok (.invokevirtual 43, 3) := by decide +kernel
theorem dX0_surelyAt_10 : decode cX0_surelyAt 10 = .ok (.isub, 1) := by decide +kernel
theorem dX0_surelyAt_11 : decode cX0_surelyAt 11 = .ok (.ireturn, 1) := by decide +kernel
theorem dX0_atLeast_0 : decode cX0_atLeast 0 = .ok (.aload_n 0, 1) := by decide +kernel
theorem dX0_atLeast_1 : decode cX0_atLeast 1 = .ok (.iload_n 1, 1) := by decide +kernel
theorem dX0_atLeast_2 : decode cX0_atLeast 2 = .ok (.invokevirtual 21, 3) := by decide +kernel
theorem dX0_atLeast_5 : decode cX0_atLeast 5 = .ok (.istore_n 2, 1) := by decide +kernel
theorem dX0_atLeast_6 : decode cX0_atLeast 6 = .ok (.iload_n 2, 1) := by decide +kernel
theorem dX0_atLeast_7 : decode cX0_atLeast 7 = .ok (.iconst (-1), 1) := by decide +kernel
theorem dX0_atLeast_8 : decode cX0_atLeast 8 = .ok (.if_icmp .ne 7, 3) := by decide +kernel
theorem dX0_atLeast_11 : decode cX0_atLeast 11 = .ok (.iconst 0, 1) := by decide +kernel
theorem dX0_atLeast_12 : decode cX0_atLeast 12 = .ok (.goto 8, 3) := by decide +kernel
theorem dX0_atLeast_15 : decode cX0_atLeast 15 = .ok (.aload_n 0, 1) := by decide +kernel
theorem dX0_atLeast_16 : decode cX0_atLeast 16 = .ok (.iload_n 2, 1) := by decide +kernel
theorem dX0_atLeast_17 : decode cX0_atLeast 17 = .ok (.invokevirtual 46, 3) := by decide +kernel
theorem dX0_atLeast_20 : decode cX0_atLeast 20 = .ok (.ireturn, 1) := by decide +kernel
theorem dX0_atMost_0 : decode cX0_atMost 0 = .ok (.aload_n 0, 1) := by decide +kernel
theorem dX0_atMost_1 : decode cX0_atMost 1 = .ok (.iload_n 1, 1) := by decide +kernel
theorem dX0_atMost_2 : decode cX0_atMost 2 = .ok (.invokevirtual 21, 3) := by decide +kernel
theorem dX0_atMost_5 : decode cX0_atMost 5 = .ok (.istore_n 2, 1) := by decide +kernel
theorem dX0_atMost_6 : decode cX0_atMost 6 = .ok (.iload_n 2, 1) := by decide +kernel
theorem dX0_atMost_7 : decode cX0_atMost 7 = .ok (.iconst (-1), 1) := by decide +kernel
theorem dX0_atMost_8 : decode cX0_atMost 8 = .ok (.if_icmp .eq 10, 3) := by decide +kernel
theorem dX0_atMost_11 : decode cX0_atMost 11 = .ok (.aload_n 0, 1) := by decide +kernel
theorem dX0_atMost_12 : decode cX0_atMost 12 = .ok (.getfield 15, 3) := by decide +kernel
theorem dX0_atMost_15 : decode cX0_atMost 15 = .ok (.iload_n 2, 1) := by decide +kernel
theorem dX0_atMost_16 : decode cX0_atMost 16 = .ok (.iaload, 1) := by decide +kernel
theorem dX0_atMost_17 : decode cX0_atMost 17 = .ok (.ireturn, 1) := by decide +kernel
theorem dX0_atMost_18 : decode cX0_atMost 18 = .ok (.aload_n 0, 1) := by decide +kernel
theorem dX0_atMost_19 : decode cX0_atMost 19 = .ok (.getfield 25, 3) := by decide +kernel
theorem dX0_atMost_22 : decode cX0_atMost 22 = .ok (.aload_n 0, 1) := by decide +kernel
theorem dX0_atMost_23 : decode cX0_atMost 23 = .ok (.getfield 29, 3) := by decide +kernel
theorem dX0_atMost_26 : decode cX0_atMost 26 = .ok (.if_icmp .ge 7, 3) := by decide +kernel
theorem dX0_atMost_29 : decode cX0_atMost 29 = .ok (.iconst 0, 1) := by decide +kernel
theorem dX0_atMost_30 : decode cX0_atMost 30 = .ok (.goto 12, 3) := by decide +kernel
theorem dX0_atMost_33 : decode cX0_atMost 33 = .ok (.aload_n 0, 1) := by decide +kernel
theorem dX0_atMost_34 : decode cX0_atMost 34 = .ok (.getfield 15, 3) := by decide +kernel
theorem dX0_atMost_37 : decode cX0_atMost 37 = .ok (.aload_n 0, 1) := by decide +kernel
theorem dX0_atMost_38 : decode cX0_atMost 38 = .ok (.invokevirtual 36, 3) := by decide +kernel
theorem dX0_atMost_41 : decode cX0_atMost 41 = .ok (.iaload, 1) := by decide +kernel
theorem dX0_atMost_42 : decode cX0_atMost 42 = .ok (.ireturn, 1) := by decide +kernel
end
section
theorem dX1_init_0 : decode cX1_init 0 = .ok (.aload_n 0, 1) := by decide +kernel
theorem dX1_init_1 : decode cX1_init 1 = .ok (.invokespecial 3, 3) := by decide +kernel
theorem dX1_init_4 : decode cX1_init 4 = .ok (.aload_n 0, 1) := by decide +kernel
theorem dX1_init_5 : decode cX1_init 5 = .ok (.bipush 6, 2) := by decide +kernel
theorem dX1_init_7 : decode cX1_init 7 = .ok (.newarray .int, 2) := by decide +kernel
theorem dX1_init_9 : decode cX1_init 9 = .ok (.putfield 9, 3) := by decide +kernel
theorem dX1_init_12 : decode cX1_init 12 = .ok (.aload_n 0, 1) := by decide +kernel
theorem dX1_init_13 : decode cX1_init 13 = .ok (.bipush 6, 2) := by decide +kernel
theorem dX1_init_15 : decode cX1_init 15 = .ok (.newarray .boolean, 2) := by decide +kernel
theorem dX1_init_17 : decode cX1_init 17 = .ok (.putfield 15, 3) := by decide +kernel
theorem dX1_init_20 : decode cX1_init 20 = .ok (.return_, 1) := by decide +kernel
theorem dX1_add_0 : decode cX1_add 0 = .ok (.aload_n 0, 1) := by decide +kernel
theorem dX1_add_1 : decode cX1_add 1 = .ok (.getfield 19, 3) := by decide +kernel
theorem dX1_add_4 : decode cX1_add 4 = .ok (.istore_n 3, 1) := by decide +kernel
theorem dX1_add_5 : decode cX1_add 5 = .ok (.aload_n 0, 1) := by decide +kernel
theorem dX1_add_6 : decode cX1_add 6 = .ok (.getfield 9, 3) := by decide +kernel
theorem dX1_add_9 : decode cX1_add 9 = .ok (.iload_n 3, 1) := by decide +kernel
theorem dX1_add_10 : decode cX1_add 10 = .ok (.iload_n 1, 1) := by decide +kernel
theorem dX1_add_11 : decode cX1_add 11 = .ok (.iastore, 1) := by decide +kernel
theorem dX1_add_12 : decode cX1_add 12 = .ok (.aload_n 0, 1) := by decide +kernel
theorem dX1_add_13 : decode cX1_add 13 = .ok (.getfield 15, 3) := by decide +kernel
theorem dX1_add_16 : decode cX1_add 16 = .ok (.iload_n 3, 1) := by decide +kernel
theorem dX1_add_17 : decode cX1_add 17 = .ok (.iload_n 2, 1) := by decide +kernel
theorem dX1_add_18 : decode cX1_add 18 = .ok (.bastore, 1) := by decide +kernel
theorem dX1_add_19 : decode cX1_add 19 = .ok (.aload_n 0, 1) := by decide +kernel
theorem dX1_add_20 : decode cX1_add 20 = .ok (.dup, 1) := by decide +kernel
theorem dX1_add_21 : decode cX1_add 21 = .ok (.getfield 19, 3) := by decide +kernel
theorem dX1_add_24 : decode cX1_add 24 = .ok (.iconst 1, 1) := by decide +kernel
theorem dX1_add_25 : decode cX1_add 25 = .ok (.iadd, 1) := by decide +kernel
theorem dX1_add_26 : decode cX1_add 26 = .ok (.putfield 19, 3) := by decide +kernel
theorem dX1_add_29 : decode cX1_add 29 = .ok (.iload_n 3, 1) := by decide +kernel
theorem dX1_add_30 : decode cX1_add 30 = .ok (.ireturn, 1) := by decide +kernel
theorem dX1_allCanBeJoined_0 : decode cX1_allCanBeJoined 0 = .ok (.iconst 0, 1) := by decide +kernel
theorem dX1_allCanBeJoined_1 : decode cX1_allCanBeJoined 1 = .ok (.istore_n 1, 1) := by decide +kernel
theorem dX1_allCanBeJoined_2 : decode cX1_allCanBeJoined 2 = .ok (.iload_n 1, 1) := by decide +kernel
theorem dX1_allCanBeJoined_3 : decode cX1_allCanBeJoined 3 = .ok (.aload_n 0, 1) := by decide +kernel
theorem dX1_allCanBeJoined_4 : decode cX1_allCanBeJoined 4 = .ok (.getfield 19, 3) := by decide +kernel
theorem dX1_allCanBeJoined_7 : decode cX1_allCanBeJoined 7 = .ok (.if_icmp .ge 42, 3) := by decide +kernel
theorem dX1_allCanBeJoined_10 : decode cX1_allCanBeJoined 10 = .ok (.aload_n 0, 1) := by decide +kernel
theorem dX1_allCanBeJoined_11 : decode cX1_allCanBeJoined 11 = .ok (.getfield 15, 3) := by decide +kernel
theorem dX1_allCanBeJoined_14 : decode cX1_allCanBeJoined 14 = .ok (.iload_n 1, 1) := by decide +kernel
theorem dX1_allCanBeJoined_15 : decode cX1_allCanBeJoined 15 = .ok (.baload, 1) := by decide +kernel
theorem dX1_allCanBeJoined_16 : decode cX1_allCanBeJoined 16 = .ok (.ifCond .eq 25, 3) := by decide +kernel
theorem dX1_allCanBeJoined_19 : decode cX1_allCanBeJoined 19 = .ok (.aload_n 0, 1) := by decide +kernel
theorem dX1_allCanBeJoined_20 : decode cX1_allCanBeJoined 20 = .ok (.getfield 9, 3) := by decide +kernel
theorem dX1_allCanBeJoined_23 : decode cX1_allCanBeJoined 23 = .ok (.iload_n 1, 1) := by decide +kernel
theorem dX1_allCanBeJoined_24 : decode cX1_allCanBeJoined 24 = .ok (.iaload, 1) := by decide +kernel
theorem dX1_allCanBeJoined_25 : decode cX1_allCanBeJoined 25 = .ok (.bipush 6, 2) := by decide +kernel
theorem dX1_allCanBeJoined_27 : decode cX1_allCanBeJoined 27 = .ok (.if_icmp .eq 14, 3) := by decide +kernel
theorem dX1_allCanBeJoined_30 : decode cX1_allCanBeJoined 30 = .ok (.aload_n 0, 1) := by decide +kernel
theorem dX1_allCanBeJoined_31 : decode cX1_allCanBeJoined 31 = .ok (.getfield 9, 3) := by decide +kernel
theorem dX1_allCanBeJoined_34 : decode cX1_allCanBeJoined 34 = .ok (.iload_n 1, 1) := by decide +kernel
theorem dX1_allCanBeJoined_35 : decode cX1_allCanBeJoined 35 = .ok (.iaload, 1) := by decide +kernel
theorem dX1_allCanBeJoined_36 : decode cX1_allCanBeJoined 36 = .ok (.bipush 7, 2) := by decide +kernel
theorem dX1_allCanBeJoined_38 : decode cX1_allCanBeJoined 38 = .ok (.if_icmp .ne 5, 3) := by decide +kernel
theorem dX1_allCanBeJoined_41 : decode cX1_allCanBeJoined 41 = .ok (.iconst 0, 1) := by decide +kernel
theorem dX1_allCanBeJoined_42 : decode cX1_allCanBeJoined 42 = .ok (.ireturn, 1) := by decide +kernel
theorem dX1_allCanBeJoined_43 : decode cX1_allCanBeJoined 43 = .ok (.iinc 1 1, 3) := by decide +kernel
theorem dX1_allCanBeJoined_46 : decode cX1_allCanBeJoined 46 = .ok (.goto (-44), 3) := by decide +kernel
theorem dX1_allCanBeJoined_49 : decode cX1_allCanBeJoined 49 = .ok (.iconst 1, 1) := by decide +kernel
theorem dX1_allCanBeJoined_50 : decode cX1_allCanBeJoined 50 = .ok (.ireturn, 1) := by decide +kernel
theorem dX1_emptyState_0 : decode cX1_emptyState 0 = .ok (.aload_n 0, 1) := by decide +kernel
theorem dX1_emptyState_1 : decode cX1_emptyState 1 = .ok (.getfield 9, 3) := by decide +kernel
theorem dX1_emptyState_4 : decode cX1_emptyState 4 = .ok (.iload_n 1, 1) := by decide +kernel
theorem dX1_emptyState_5 : decode cX1_emptyState 5 = .ok (.iaload, 1) := by decide +kernel
theorem dX1_emptyState_6 : decode cX1_emptyState 6 = .ok (.tableswitch 42 2 6 #[34, 34, 42, 34, 38], 34) := by decide +kernel
theorem dX1_emptyState_40 : decode cX1_emptyState 40 = .ok (.ldc2_w 23, 3) := by decide +kernel
theorem dX1_emptyState_43 : decode cX1_emptyState 43 = .ok (.lreturn, 1) := by decide +kernel
theorem dX1_emptyState_44 : decode cX1_emptyState 44 = .ok (.ldc2_w 25, 3) := by decide +kernel
theorem dX1_emptyState_47 : decode cX1_emptyState 47 = .ok (.lreturn, 1) := by decide +kernel
theorem dX1_emptyState_48 : decode cX1_emptyState 48 = .ok (.lconst 0, 1) := by decide +kernel
theorem dX1_emptyState_49 : decode cX1_emptyState 49 = .ok (.lreturn, 1) := by decide +kernel
theorem dX1_folded_0 : decode cX1_folded 0 = .ok (.aload_n 0, 1) := by decide +kernel
theorem dX1_folded_1 : decode cX1_folded 1 = .ok (.getfield 9, 3) := by decide +kernel
theorem dX1_folded_4 : decode cX1_folded 4 = .ok (.iload_n 1, 1) := by decide +kernel
theorem dX1_folded_5 : decode cX1_folded 5 = .ok (.iaload, 1) := by decide +kernel
theorem dX1_folded_6 : decode cX1_folded 6 = .ok (.tableswitch 127 0 7 #[46, 50, 56, 78, 86, 96, 100, 110], 46) := by decide +kernel
theorem dX1_folded_52 : decode cX1_folded 52 = .ok (.lload_n 2, 1) := by decide +kernel
theorem dX1_folded_53 : decode cX1_folded 53 = .ok (.lconst 1, 1) := by decide +kernel
theorem dX1_folded_54 : decode cX1_folded 54 = .ok (.ladd, 1) := by decide +kernel
theorem dX1_folded_55 : decode cX1_folded 55 = .ok (.lreturn, 1) := by decide +kernel
theorem dX1_folded_56 : decode cX1_folded 56 = .ok (.lload_n 2, 1) := by decide +kernel
theorem dX1_folded_57 : decode cX1_folded 57 = .ok (.iload 4, 2) := by decide +kernel
theorem dX1_folded_59 : decode cX1_folded 59 = .ok (.i2l, 1) := by decide +kernel
theorem dX1_folded_60 : decode cX1_folded 60 = .ok (.ladd, 1) := by decide +kernel
theorem dX1_folded_61 : decode cX1_folded 61 = .ok (.lreturn, 1) := by decide +kernel
theorem dX1_folded_62 : decode cX1_folded 62 = .ok (.lload_n 2, 1) := by decide +kernel
theorem dX1_folded_63 : decode cX1_folded 63 = .ok (.ldc2_w 23, 3) := by decide +kernel
theorem dX1_folded_66 : decode cX1_folded 66 = .ok (.lcmp, 1) := by decide +kernel
theorem dX1_folded_67 : decode cX1_folded 67 = .ok (.ifCond .ne 9, 3) := by decide +kernel
theorem dX1_folded_70 : decode cX1_folded 70 = .ok (.iload 4, 2) := by decide +kernel
theorem dX1_folded_72 : decode cX1_folded 72 = .ok (.i2l, 1) := by decide +kernel
theorem dX1_folded_73 : decode cX1_folded 73 = .ok (.goto 10, 3) := by decide +kernel
theorem dX1_folded_76 : decode cX1_folded 76 = .ok (.lload_n 2, 1) := by decide +kernel
theorem dX1_folded_77 : decode cX1_folded 77 = .ok (.iload 4, 2) := by decide +kernel
theorem dX1_folded_79 : decode cX1_folded 79 = .ok (.i2l, 1) := by decide +kernel
theorem dX1_folded_80 : decode cX1_folded 80 = .ok (.invokestatic 27, 3) := by decide +kernel
theorem dX1_folded_83 : decode cX1_folded 83 = .ok (.lreturn, 1) := by decide +kernel
theorem dX1_folded_84 : decode cX1_folded 84 = .ok (.lload_n 2, 1) := by decide +kernel
theorem dX1_folded_85 : decode cX1_folded 85 = .ok (.iload 4, 2) := by decide +kernel
theorem dX1_folded_87 : decode cX1_folded 87 = .ok (.i2l, 1) := by decide +kernel
theorem dX1_folded_88 : decode cX1_folded 88 = .ok (.invokestatic 33, 3) := by decide +kernel
theorem dX1_folded_91 : decode cX1_folded 91 = .ok (.lreturn, 1) := by decide +kernel
theorem dX1_folded_92 : decode cX1_folded 92 = .ok (.lload_n 2, 1) := by decide +kernel
theorem dX1_folded_93 : decode cX1_folded 93 = .ok (.lconst 1, 1) := by decide +kernel
theorem dX1_folded_94 : decode cX1_folded 94 = .ok (.iload 4, 2) := by decide +kernel
theorem dX1_folded_96 : decode cX1_folded 96 = .ok (.bipush 15, 2) := by decide +kernel
theorem dX1_folded_98 : decode cX1_folded 98 = .ok (.iand, 1) := by decide +kernel
theorem dX1_folded_99 : decode cX1_folded 99 = .ok (.lshl, 1) := by decide +kernel
theorem dX1_folded_100 : decode cX1_folded 100 = .ok (.lor, 1) := by decide +kernel
theorem dX1_folded_101 : decode cX1_folded 101 = .ok (.lreturn, 1) := by decide +kernel
theorem dX1_folded_102 : decode cX1_folded 102 = .ok (.iload 4, 2) := by decide +kernel
theorem dX1_folded_104 : decode cX1_folded 104 = .ok (.i2l, 1) := by decide +kernel
theorem dX1_folded_105 : decode cX1_folded 105 = .ok (.lreturn, 1) := by decide +kernel
theorem dX1_folded_106 : decode cX1_folded 106 = .ok (.bipush 31, 2) := by decide +kernel
theorem dX1_folded_108 : decode cX1_folded 108 = .ok (.lload_n 2, 1) := by decide +kernel
theorem dX1_folded_109 : decode cX1_folded 109 = .ok (.l2i, 1) := by decide +kernel
theorem dX1_folded_110 : decode cX1_folded 110 = .ok (.imul, 1) := by decide +kernel
theorem dX1_folded_111 : decode cX1_folded 111 = .ok (.iload 4, 2) := by decide +kernel
theorem dX1_folded_113 : decode cX1_folded 113 = .ok (.iadd, 1) := by decide +kernel
theorem dX1_folded_114 : decode cX1_folded 114 = .ok (.i2l, 1) := by decide +kernel
theorem dX1_folded_115 : decode cX1_folded 115 = .ok (.lreturn, 1) := by decide +kernel
theorem dX1_folded_116 : decode cX1_folded 116 = .ok (.iload 4, 2) := by decide +kernel
theorem dX1_folded_118 : decode cX1_folded 118 = .ok (.i2l, 1) := by decide +kernel
theorem dX1_folded_119 : decode cX1_folded 119 = .ok (.lload 5, 2) := by decide +kernel
theorem dX1_folded_121 : decode cX1_folded 121 = .ok (.lcmp, 1) := by decide +kernel
theorem dX1_folded_122 : decode cX1_folded 122 = .ok (.ifCond .ge 9, 3) := by decide +kernel
theorem dX1_folded_125 : decode cX1_folded 125 = .ok (.lload_n 2, 1) := by decide +kernel
theorem dX1_folded_126 : decode cX1_folded 126 = .ok (.lconst 1, 1) := by decide +kernel
theorem dX1_folded_127 : decode cX1_folded 127 = .ok (.ladd, 1) := by decide +kernel
theorem dX1_folded_128 : decode cX1_folded 128 = .ok (.goto 4, 3) := by decide +kernel
theorem dX1_folded_131 : decode cX1_folded 131 = .ok (.lload_n 2, 1) := by decide +kernel
theorem dX1_folded_132 : decode cX1_folded 132 = .ok (.lreturn, 1) := by decide +kernel
theorem dX1_folded_133 : decode cX1_folded 133 = .ok (.lload_n 2, 1) := by decide +kernel
theorem dX1_folded_134 : decode cX1_folded 134 = .ok (.lreturn, 1) := by decide +kernel
theorem dX1_joined_0 : decode cX1_joined 0 = .ok (.aload_n 0, 1) := by decide +kernel
theorem dX1_joined_1 : decode cX1_joined 1 = .ok (.getfield 9, 3) := by decide +kernel
theorem dX1_joined_4 : decode cX1_joined 4 = .ok (.iload_n 1, 1) := by decide +kernel
theorem dX1_joined_5 : decode cX1_joined 5 = .ok (.iaload, 1) := by decide +kernel
theorem dX1_joined_6 : decode cX1_joined 6 = .ok (.tableswitch 100 0 5 #[38, 38, 43, 76, 83, 88], 38) := by decide +kernel
theorem dX1_joined_44 : decode cX1_joined 44 = .ok (.lload_n 2, 1) := by decide +kernel
theorem dX1_joined_45 : decode cX1_joined 45 = .ok (.lload 4, 2) := by decide +kernel
theorem dX1_joined_47 : decode cX1_joined 47 = .ok (.ladd, 1) := by decide +kernel
theorem dX1_joined_48 : decode cX1_joined 48 = .ok (.lreturn, 1) := by decide +kernel
theorem dX1_joined_49 : decode cX1_joined 49 = .ok (.lload_n 2, 1) := by decide +kernel
theorem dX1_joined_50 : decode cX1_joined 50 = .ok (.ldc2_w 23, 3) := by decide +kernel
theorem dX1_joined_53 : decode cX1_joined 53 = .ok (.lcmp, 1) := by decide +kernel
theorem dX1_joined_54 : decode cX1_joined 54 = .ok (.ifCond .eq 12, 3) := by decide +kernel
theorem dX1_joined_57 : decode cX1_joined 57 = .ok (.lload 4, 2) := by decide +kernel
theorem dX1_joined_59 : decode cX1_joined 59 = .ok (.ldc2_w 23, 3) := by decide +kernel
theorem dX1_joined_62 : decode cX1_joined 62 = .ok (.lcmp, 1) := by decide +kernel
theorem dX1_joined_63 : decode cX1_joined 63 = .ok (.ifCond .ne 12, 3) := by decide +kernel
theorem dX1_joined_66 : decode cX1_joined 66 = .ok (.lload_n 2, 1) := by decide +kernel
theorem dX1_joined_67 : decode cX1_joined 67 = .ok (.lload 4, 2) := by decide +kernel
theorem dX1_joined_69 : decode cX1_joined 69 = .ok (.invokestatic 33, 3) := by decide +kernel
theorem dX1_joined_72 : decode cX1_joined 72 = .ok (.goto 9, 3) := by decide +kernel
theorem dX1_joined_75 : decode cX1_joined 75 = .ok (.lload_n 2, 1) := by decide +kernel
theorem dX1_joined_76 : decode cX1_joined 76 = .ok (.lload 4, 2) := by decide +kernel
theorem dX1_joined_78 : decode cX1_joined 78 = .ok (.invokestatic 27, 3) := by decide +kernel
theorem dX1_joined_81 : decode cX1_joined 81 = .ok (.lreturn, 1) := by decide +kernel
theorem dX1_joined_82 : decode cX1_joined 82 = .ok (.lload_n 2, 1) := by decide +kernel
theorem dX1_joined_83 : decode cX1_joined 83 = .ok (.lload 4, 2) := by decide +kernel
theorem dX1_joined_85 : decode cX1_joined 85 = .ok (.invokestatic 33, 3) := by decide +kernel
theorem dX1_joined_88 : decode cX1_joined 88 = .ok (.lreturn, 1) := by decide +kernel
theorem dX1_joined_89 : decode cX1_joined 89 = .ok (.lload_n 2, 1) := by decide +kernel
theorem dX1_joined_90 : decode cX1_joined 90 = .ok (.lload 4, 2) := by decide +kernel
theorem dX1_joined_92 : decode cX1_joined 92 = .ok (.lor, 1) := by decide +kernel
theorem dX1_joined_93 : decode cX1_joined 93 = .ok (.lreturn, 1) := by decide +kernel
theorem dX1_joined_94 : decode cX1_joined 94 = .ok (.iload 6, 2) := by decide +kernel
theorem dX1_joined_96 : decode cX1_joined 96 = .ok (.ifCond .eq 8, 3) := by decide +kernel
theorem dX1_joined_99 : decode cX1_joined 99 = .ok (.lload 4, 2) := by decide +kernel
theorem dX1_joined_101 : decode cX1_joined 101 = .ok (.goto 4, 3) := by decide +kernel
theorem dX1_joined_104 : decode cX1_joined 104 = .ok (.lload_n 2, 1) := by decide +kernel
theorem dX1_joined_105 : decode cX1_joined 105 = .ok (.lreturn, 1) := by decide +kernel
theorem dX1_joined_106 : decode cX1_joined 106 = .ok (.lload_n 2, 1) := by decide +kernel
theorem dX1_joined_107 : decode cX1_joined 107 = .ok (.lreturn, 1) := by decide +kernel
end
section
theorem dX2_init_0 : decode cX2_init 0 = .ok (.aload_n 0, 1) := by decide +kernel
theorem dX2_init_1 : decode cX2_init 1 = .ok (.invokespecial 3, 3) := by decide +kernel
theorem dX2_init_4 : decode cX2_init 4 = .ok (.aload_n 0, 1) := by decide +kernel
theorem dX2_init_5 : decode cX2_init 5 = .ok (.bipush 100, 2) := by decide +kernel
theorem dX2_init_7 : decode cX2_init 7 = .ok (.newarray .int, 2) := by decide +kernel
theorem dX2_init_9 : decode cX2_init 9 = .ok (.putfield 9, 3) := by decide +kernel
theorem dX2_init_12 : decode cX2_init 12 = .ok (.aload_n 0, 1) := by decide +kernel
theorem dX2_init_13 : decode cX2_init 13 = .ok (.sipush 4800, 3) := by decide +kernel
theorem dX2_init_16 : decode cX2_init 16 = .ok (.newarray .long, 2) := by decide +kernel
theorem dX2_init_18 : decode cX2_init 18 = .ok (.putfield 15, 3) := by decide +kernel
theorem dX2_init_21 : decode cX2_init 21 = .ok (.aload_n 0, 1) := by decide +kernel
theorem dX2_init_22 : decode cX2_init 22 = .ok (.sipush 800, 3) := by decide +kernel
theorem dX2_init_25 : decode cX2_init 25 = .ok (.newarray .int, 2) := by decide +kernel
theorem dX2_init_27 : decode cX2_init 27 = .ok (.putfield 19, 3) := by decide +kernel
theorem dX2_init_30 : decode cX2_init 30 = .ok (.aload_n 0, 1) := by decide +kernel
theorem dX2_init_31 : decode cX2_init 31 = .ok (.bipush 100, 2) := by decide +kernel
theorem dX2_init_33 : decode cX2_init 33 = .ok (.newarray .long, 2) := by decide +kernel
theorem dX2_init_35 : decode cX2_init 35 = .ok (.putfield 22, 3) := by decide +kernel
theorem dX2_init_38 : decode cX2_init 38 = .ok (.aload_n 0, 1) := by decide +kernel
theorem dX2_init_39 : decode cX2_init 39 = .ok (.aload_n 1, 1) := by decide +kernel
theorem dX2_init_40 : decode cX2_init 40 = .ok (.putfield 25, 3) := by decide +kernel
theorem dX2_init_43 : decode cX2_init 43 = .ok (.return_, 1) := by decide +kernel
theorem dX2_forgetAll_0 : decode cX2_forgetAll 0 = .ok (.aload_n 0, 1) := by decide +kernel
theorem dX2_forgetAll_1 : decode cX2_forgetAll 1 = .ok (.invokevirtual 29, 3) := by decide +kernel
theorem dX2_forgetAll_4 : decode cX2_forgetAll 4 = .ok (.aload_n 0, 1) := by decide +kernel
theorem dX2_forgetAll_5 : decode cX2_forgetAll 5 = .ok (.getfield 19, 3) := by decide +kernel
theorem dX2_forgetAll_8 : decode cX2_forgetAll 8 = .ok (.iconst (-1), 1) := by decide +kernel
theorem dX2_forgetAll_9 : decode cX2_forgetAll 9 = .ok (.invokestatic 32, 3) := by decide +kernel
theorem dX2_forgetAll_12 : decode cX2_forgetAll 12 = .ok (.aload_n 0, 1) := by decide +kernel
theorem dX2_forgetAll_13 : decode cX2_forgetAll 13 = .ok (.getfield 22, 3) := by decide +kernel
theorem dX2_forgetAll_16 : decode cX2_forgetAll 16 = .ok (.ldc2_w 38, 3) := by decide +kernel
theorem dX2_forgetAll_19 : decode cX2_forgetAll 19 = .ok (.invokestatic 40, 3) := by decide +kernel
theorem dX2_forgetAll_22 : decode cX2_forgetAll 22 = .ok (.aload_n 0, 1) := by decide +kernel
theorem dX2_forgetAll_23 : decode cX2_forgetAll 23 = .ok (.iconst 0, 1) := by decide +kernel
theorem dX2_forgetAll_24 : decode cX2_forgetAll 24 = .ok (.putfield 43, 3) := by decide +kernel
theorem dX2_forgetAll_27 : decode cX2_forgetAll 27 = .ok (.return_, 1) := by decide +kernel
theorem dX2_makeAllOne_0 : decode cX2_makeAllOne 0 = .ok (.aload_n 0, 1) := by decide +kernel
theorem dX2_makeAllOne_1 : decode cX2_makeAllOne 1 = .ok (.getfield 9, 3) := by decide +kernel
theorem dX2_makeAllOne_4 : decode cX2_makeAllOne 4 = .ok (.iconst 1, 1) := by decide +kernel
theorem dX2_makeAllOne_5 : decode cX2_makeAllOne 5 = .ok (.invokestatic 32, 3) := by decide +kernel
theorem dX2_makeAllOne_8 : decode cX2_makeAllOne 8 = .ok (.return_, 1) := by decide +kernel
theorem dX2_startFold_0 : decode cX2_startFold 0 = .ok (.iconst 0, 1) := by decide +kernel
theorem dX2_startFold_1 : decode cX2_startFold 1 = .ok (.istore_n 2, 1) := by decide +kernel
theorem dX2_startFold_2 : decode cX2_startFold 2 = .ok (.iload_n 2, 1) := by decide +kernel
theorem dX2_startFold_3 : decode cX2_startFold 3 = .ok (.bipush 100, 2) := by decide +kernel
theorem dX2_startFold_5 : decode cX2_startFold 5 = .ok (.if_icmp .ge 28, 3) := by decide +kernel
theorem dX2_startFold_8 : decode cX2_startFold 8 = .ok (.aload_n 0, 1) := by decide +kernel
theorem dX2_startFold_9 : decode cX2_startFold 9 = .ok (.getfield 15, 3) := by decide +kernel
theorem dX2_startFold_12 : decode cX2_startFold 12 = .ok (.iload_n 2, 1) := by decide +kernel
theorem dX2_startFold_13 : decode cX2_startFold 13 = .ok (.iconst 0, 1) := by decide +kernel
theorem dX2_startFold_14 : decode cX2_startFold 14 = .ok (.iload_n 1, 1) := by decide +kernel
theorem dX2_startFold_15 : decode cX2_startFold 15 = .ok (.invokestatic 47, 3) := by decide +kernel
theorem dX2_startFold_18 : decode cX2_startFold 18 = .ok (.aload_n 0, 1) := by decide +kernel
theorem dX2_startFold_19 : decode cX2_startFold 19 = .ok (.getfield 25, 3) := by decide +kernel
theorem dX2_startFold_22 : decode cX2_startFold 22 = .ok (.iload_n 1, 1) := by decide +kernel
theorem dX2_startFold_23 : decode cX2_startFold 23 = .ok (.invokevirtual 51, 3) := by decide +kernel
theorem dX2_startFold_26 : decode cX2_startFold 26 = .ok (.lastore, 1) := by decide +kernel
theorem dX2_startFold_27 : decode cX2_startFold 27 = .ok (.iinc 2 1, 3) := by decide +kernel
theorem dX2_startFold_30 : decode cX2_startFold 30 = .ok (.goto (-28), 3) := by decide +kernel
theorem dX2_startFold_33 : decode cX2_startFold 33 = .ok (.return_, 1) := by decide +kernel
theorem dX2_slot_0 : decode cX2_slot 0 = .ok (.iload_n 0, 1) := by decide +kernel
theorem dX2_slot_1 : decode cX2_slot 1 = .ok (.bipush 8, 2) := by decide +kernel
theorem dX2_slot_3 : decode cX2_slot 3 = .ok (.imul, 1) := by decide +kernel
theorem dX2_slot_4 : decode cX2_slot 4 = .ok (.iload_n 1, 1) := by decide +kernel
theorem dX2_slot_5 : decode cX2_slot 5 = .ok (.iadd, 1) := by decide +kernel
theorem dX2_slot_6 : decode cX2_slot 6 = .ok (.ireturn, 1) := by decide +kernel
theorem dX2_cell_0 : decode cX2_cell 0 = .ok (.iload_n 0, 1) := by decide +kernel
theorem dX2_cell_1 : decode cX2_cell 1 = .ok (.bipush 8, 2) := by decide +kernel
theorem dX2_cell_3 : decode cX2_cell 3 = .ok (.imul, 1) := by decide +kernel
theorem dX2_cell_4 : decode cX2_cell 4 = .ok (.iload_n 1, 1) := by decide +kernel
theorem dX2_cell_5 : decode cX2_cell 5 = .ok (.iadd, 1) := by decide +kernel
theorem dX2_cell_6 : decode cX2_cell 6 = .ok (.bipush 6, 2) := by decide +kernel
theorem dX2_cell_8 : decode cX2_cell 8 = .ok (.imul, 1) := by decide +kernel
theorem dX2_cell_9 : decode cX2_cell 9 = .ok (.iload_n 2, 1) := by decide +kernel
theorem dX2_cell_10 : decode cX2_cell 10 = .ok (.iadd, 1) := by decide +kernel
theorem dX2_cell_11 : decode cX2_cell 11 = .ok (.ireturn, 1) := by decide +kernel
theorem dX2_partCount_0 : decode cX2_partCount 0 = .ok (.aload_n 0, 1) := by decide +kernel
theorem dX2_partCount_1 : decode cX2_partCount 1 = .ok (.getfield 9, 3) := by decide +kernel
theorem dX2_partCount_4 : decode cX2_partCount 4 = .ok (.iload_n 1, 1) := by decide +kernel
theorem dX2_partCount_5 : decode cX2_partCount 5 = .ok (.iaload, 1) := by decide +kernel
theorem dX2_partCount_6 : decode cX2_partCount 6 = .ok (.ireturn, 1) := by decide +kernel
theorem dX2_hasPart_0 : decode cX2_hasPart 0 = .ok (.iload_n 2, 1) := by decide +kernel
theorem dX2_hasPart_1 : decode cX2_hasPart 1 = .ok (.iconst 0, 1) := by decide +kernel
theorem dX2_hasPart_2 : decode cX2_hasPart 2 = .ok (.aload_n 0, 1) := by decide +kernel
theorem dX2_hasPart_3 : decode cX2_hasPart 3 = .ok (.getfield 9, 3) := by decide +kernel
theorem dX2_hasPart_6 : decode cX2_hasPart 6 = .ok (.iload_n 1, 1) := by decide +kernel
theorem dX2_hasPart_7 : decode cX2_hasPart 7 = .ok (.iaload, 1) := by decide +kernel
theorem dX2_hasPart_8 : decode cX2_hasPart 8 = .ok (.iconst 1, 1) := by decide +kernel
theorem dX2_hasPart_9 : decode cX2_hasPart 9 = .ok (.isub, 1) := by decide +kernel
theorem dX2_hasPart_10 : decode cX2_hasPart 10 = .ok (.invokestatic 57, 3) := by decide +kernel
theorem dX2_hasPart_13 : decode cX2_hasPart 13 = .ok (.ireturn, 1) := by decide +kernel
theorem dX2_isSplit_0 : decode cX2_isSplit 0 = .ok (.aload_n 0, 1) := by decide +kernel
theorem dX2_isSplit_1 : decode cX2_isSplit 1 = .ok (.getfield 9, 3) := by decide +kernel
theorem dX2_isSplit_4 : decode cX2_isSplit 4 = .ok (.iload_n 1, 1) := by decide +kernel
theorem dX2_isSplit_5 : decode cX2_isSplit 5 = .ok (.iaload, 1) := by decide +kernel
theorem dX2_isSplit_6 : decode cX2_isSplit 6 = .ok (.iconst 1, 1) := by decide +kernel
theorem dX2_isSplit_7 : decode cX2_isSplit 7 = .ok (.if_icmp .le 7, 3) := by decide +kernel
theorem dX2_isSplit_10 : decode cX2_isSplit 10 = .ok (.iconst 1, 1) := by decide +kernel
theorem dX2_isSplit_11 : decode cX2_isSplit 11 = .ok (.goto 4, 3) := by decide +kernel
theorem dX2_isSplit_14 : decode cX2_isSplit 14 = .ok (.iconst 0, 1) := by decide +kernel
theorem dX2_isSplit_15 : decode cX2_isSplit 15 = .ok (.ireturn, 1) := by decide +kernel
theorem dX2_splitKeys_0 : decode cX2_splitKeys 0 = .ok (.iconst 0, 1) := by decide +kernel
theorem dX2_splitKeys_1 : decode cX2_splitKeys 1 = .ok (.istore_n 1, 1) := by decide +kernel
theorem dX2_splitKeys_2 : decode cX2_splitKeys 2 = .ok (.iconst 0, 1) := by decide +kernel
theorem dX2_splitKeys_3 : decode cX2_splitKeys 3 = .ok (.istore_n 2, 1) := by decide +kernel
theorem dX2_splitKeys_4 : decode cX2_splitKeys 4 = .ok (.iload_n 2, 1) := by decide +kernel
theorem dX2_splitKeys_5 : decode cX2_splitKeys 5 = .ok (.bipush 100, 2) := by decide +kernel
theorem dX2_splitKeys_7 : decode cX2_splitKeys 7 = .ok (.if_icmp .ge 20, 3) := by decide +kernel
theorem dX2_splitKeys_10 : decode cX2_splitKeys 10 = .ok (.aload_n 0, 1) := by decide +kernel
theorem dX2_splitKeys_11 : decode cX2_splitKeys 11 = .ok (.iload_n 2, 1) := by decide +kernel
theorem dX2_splitKeys_12 : decode cX2_splitKeys 12 = .ok (.invokevirtual 61, 3) := by decide +kernel
theorem dX2_splitKeys_15 : decode cX2_splitKeys 15 = .ok (.ifCond .eq 6, 3) := by decide +kernel
theorem dX2_splitKeys_18 : decode cX2_splitKeys 18 = .ok (.iinc 1 1, 3) := by decide +kernel
theorem dX2_splitKeys_21 : decode cX2_splitKeys 21 = .ok (.iinc 2 1, 3) := by decide +kernel
theorem dX2_splitKeys_24 : decode cX2_splitKeys 24 = .ok (.goto (-20), 3) := by decide +kernel
theorem dX2_splitKeys_27 : decode cX2_splitKeys 27 = .ok (.iload_n 1, 1) := by decide +kernel
theorem dX2_splitKeys_28 : decode cX2_splitKeys 28 = .ok (.ireturn, 1) := by decide +kernel
theorem dX2_partState_0 : decode cX2_partState 0 = .ok (.aload_n 0, 1) := by decide +kernel
theorem dX2_partState_1 : decode cX2_partState 1 = .ok (.getfield 15, 3) := by decide +kernel
theorem dX2_partState_4 : decode cX2_partState 4 = .ok (.iload_n 1, 1) := by decide +kernel
theorem dX2_partState_5 : decode cX2_partState 5 = .ok (.iload_n 2, 1) := by decide +kernel
theorem dX2_partState_6 : decode cX2_partState 6 = .ok (.iload_n 3, 1) := by decide +kernel
theorem dX2_partState_7 : decode cX2_partState 7 = .ok (.invokestatic 47, 3) := by decide +kernel
theorem dX2_partState_10 : decode cX2_partState 10 = .ok (.laload, 1) := by decide +kernel
theorem dX2_partState_11 : decode cX2_partState 11 = .ok (.lreturn, 1) := by decide +kernel
theorem dX2_take_0 : decode cX2_take 0 = .ok (.iconst 0, 1) := by decide +kernel
theorem dX2_take_1 : decode cX2_take 1 = .ok (.istore 5, 2) := by decide +kernel
theorem dX2_take_3 : decode cX2_take 3 = .ok (.iload 5, 2) := by decide +kernel
theorem dX2_take_5 : decode cX2_take 5 = .ok (.aload_n 0, 1) := by decide +kernel
theorem dX2_take_6 : decode cX2_take 6 = .ok (.getfield 25, 3) := by decide +kernel
theorem dX2_take_9 : decode cX2_take 9 = .ok (.getfield 65, 3) := by decide +kernel
theorem dX2_take_12 : decode cX2_take 12 = .ok (.if_icmp .ge 49, 3) := by decide +kernel
theorem dX2_take_15 : decode cX2_take 15 = .ok (.iload_n 1, 1) := by decide +kernel
theorem dX2_take_16 : decode cX2_take 16 = .ok (.iload_n 2, 1) := by decide +kernel
theorem dX2_take_17 : decode cX2_take 17 = .ok (.iload 5, 2) := by decide +kernel
theorem dX2_take_19 : decode cX2_take 19 = .ok (.invokestatic 47, 3) := by decide +kernel
theorem dX2_take_22 : decode cX2_take 22 = .ok (.istore 6, 2) := by decide +kernel
theorem dX2_take_24 : decode cX2_take 24 = .ok (.aload_n 0, 1) := by decide +kernel
theorem dX2_take_25 : decode cX2_take 25 = .ok (.getfield 15, 3) := by decide +kernel
theorem dX2_take_28 : decode cX2_take 28 = .ok (.iload 6, 2) := by decide +kernel
theorem dX2_take_30 : decode cX2_take 30 = .ok (.aload_n 0, 1) := by decide +kernel
theorem dX2_take_31 : decode cX2_take 31 = .ok (.getfield 25, 3) := by decide +kernel
theorem dX2_take_34 : decode cX2_take 34 = .ok (.iload 5, 2) := by decide +kernel
theorem dX2_take_36 : decode cX2_take 36 = .ok (.aload_n 0, 1) := by decide +kernel
theorem dX2_take_37 : decode cX2_take 37 = .ok (.getfield 15, 3) := by decide +kernel
theorem dX2_take_40 : decode cX2_take 40 = .ok (.iload 6, 2) := by decide +kernel
theorem dX2_take_42 : decode cX2_take 42 = .ok (.laload, 1) := by decide +kernel
theorem dX2_take_43 : decode cX2_take 43 = .ok (.iload 4, 2) := by decide +kernel
theorem dX2_take_45 : decode cX2_take 45 = .ok (.aload_n 0, 1) := by decide +kernel
theorem dX2_take_46 : decode cX2_take 46 = .ok (.getfield 22, 3) := by decide +kernel
theorem dX2_take_49 : decode cX2_take 49 = .ok (.iload_n 1, 1) := by decide +kernel
theorem dX2_take_50 : decode cX2_take 50 = .ok (.laload, 1) := by decide +kernel
theorem dX2_take_51 : decode cX2_take 51 = .ok (.invokevirtual 68, 3) := by decide +kernel
theorem dX2_take_54 : decode cX2_take 54 = .ok (.lastore, 1) := by decide +kernel
theorem dX2_take_55 : decode cX2_take 55 = .ok (.iinc 5 1, 3) := by decide +kernel
theorem dX2_take_58 : decode cX2_take 58 = .ok (.goto (-55), 3) := by decide +kernel
theorem dX2_take_61 : decode cX2_take 61 = .ok (.aload_n 0, 1) := by decide +kernel
theorem dX2_take_62 : decode cX2_take 62 = .ok (.getfield 19, 3) := by decide +kernel
theorem dX2_take_65 : decode cX2_take 65 = .ok (.iload_n 1, 1) := by decide +kernel
theorem dX2_take_66 : decode cX2_take 66 = .ok (.iload_n 2, 1) := by decide +kernel
theorem dX2_take_67 : decode cX2_take 67 = .ok (.invokestatic 72, 3) := by decide +kernel
theorem dX2_take_70 : decode cX2_take 70 = .ok (.iload_n 3, 1) := by decide +kernel
theorem dX2_take_71 : decode cX2_take 71 = .ok (.iastore, 1) := by decide +kernel
theorem dX2_take_72 : decode cX2_take 72 = .ok (.aload_n 0, 1) := by decide +kernel
theorem dX2_take_73 : decode cX2_take 73 = .ok (.getfield 22, 3) := by decide +kernel
theorem dX2_take_76 : decode cX2_take 76 = .ok (.iload_n 1, 1) := by decide +kernel
theorem dX2_take_77 : decode cX2_take 77 = .ok (.iload 4, 2) := by decide +kernel
theorem dX2_take_79 : decode cX2_take 79 = .ok (.i2l, 1) := by decide +kernel
theorem dX2_take_80 : decode cX2_take 80 = .ok (.lastore, 1) := by decide +kernel
theorem dX2_take_81 : decode cX2_take 81 = .ok (.return_, 1) := by decide +kernel
theorem dX2_joinedState_0 : decode cX2_joinedState 0 = .ok (.aload_n 0, 1) := by decide +kernel
theorem dX2_joinedState_1 : decode cX2_joinedState 1 = .ok (.getfield 15, 3) := by decide +kernel
theorem dX2_joinedState_4 : decode cX2_joinedState 4 = .ok (.iload_n 1, 1) := by decide +kernel
theorem dX2_joinedState_5 : decode cX2_joinedState 5 = .ok (.iconst 0, 1) := by decide +kernel
theorem dX2_joinedState_6 : decode cX2_joinedState 6 = .ok (.iload_n 2, 1) := by decide +kernel
theorem dX2_joinedState_7 : decode cX2_joinedState 7 = .ok (.invokestatic 47, 3) := by decide +kernel
theorem dX2_joinedState_10 : decode cX2_joinedState 10 = .ok (.laload, 1) := by decide +kernel
theorem dX2_joinedState_11 : decode cX2_joinedState 11 = .ok (.lstore_n 3, 1) := by decide +kernel
theorem dX2_joinedState_12 : decode cX2_joinedState 12 = .ok (.aload_n 0, 1) := by decide +kernel
theorem dX2_joinedState_13 : decode cX2_joinedState 13 = .ok (.getfield 19, 3) := by decide +kernel
theorem dX2_joinedState_16 : decode cX2_joinedState 16 = .ok (.iload_n 1, 1) := by decide +kernel
theorem dX2_joinedState_17 : decode cX2_joinedState 17 = .ok (.iconst 0, 1) := by decide +kernel
theorem dX2_joinedState_18 : decode cX2_joinedState 18 = .ok (.invokestatic 72, 3) := by decide +kernel
theorem dX2_joinedState_21 : decode cX2_joinedState 21 = .ok (.iaload, 1) := by decide +kernel
theorem dX2_joinedState_22 : decode cX2_joinedState 22 = .ok (.istore 5, 2) := by decide +kernel
theorem dX2_joinedState_24 : decode cX2_joinedState 24 = .ok (.iconst 1, 1) := by decide +kernel
theorem dX2_joinedState_25 : decode cX2_joinedState 25 = .ok (.istore 6, 2) := by decide +kernel
theorem dX2_joinedState_27 : decode cX2_joinedState 27 = .ok (.iload 6, 2) := by decide +kernel
theorem dX2_joinedState_29 : decode cX2_joinedState 29 = .ok (.aload_n 0, 1) := by decide +kernel
theorem dX2_joinedState_30 : decode cX2_joinedState 30 = .ok (.getfield 9, 3) := by decide +kernel
theorem dX2_joinedState_33 : decode cX2_joinedState 33 = .ok (.iload_n 1, 1) := by decide +kernel
theorem dX2_joinedState_34 : decode cX2_joinedState 34 = .ok (.iaload, 1) := by decide +kernel
theorem dX2_joinedState_35 : decode cX2_joinedState 35 = .ok (.if_icmp .ge 65, 3) := by decide +kernel
theorem dX2_joinedState_38 : decode cX2_joinedState 38 = .ok (.aload_n 0, 1) := by decide +kernel
theorem dX2_joinedState_39 : decode cX2_joinedState 39 = .ok (.getfield 19, 3) := by decide +kernel
theorem dX2_joinedState_42 : decode cX2_joinedState 42 = .ok (.iload_n 1, 1) := by decide +kernel
theorem dX2_joinedState_43 : decode cX2_joinedState 43 = .ok (.iload 6, 2) := by decide +kernel
theorem dX2_joinedState_45 : decode cX2_joinedState 45 = .ok (.invokestatic 72, 3) := by decide +kernel
theorem dX2_joinedState_48 : decode cX2_joinedState 48 = .ok (.iaload, 1) := by decide +kernel
theorem dX2_joinedState_49 : decode cX2_joinedState 49 = .ok (.istore 7, 2) := by decide +kernel
theorem dX2_joinedState_51 : decode cX2_joinedState 51 = .ok (.aload_n 0, 1) := by decide +kernel
theorem dX2_joinedState_52 : decode cX2_joinedState 52 = .ok (.getfield 25, 3) := by decide +kernel
theorem dX2_joinedState_55 : decode cX2_joinedState 55 = .ok (.iload_n 2, 1) := by decide +kernel
theorem dX2_joinedState_56 : decode cX2_joinedState 56 = .ok (.lload_n 3, 1) := by decide +kernel
theorem dX2_joinedState_57 : decode cX2_joinedState 57 = .ok (.aload_n 0, 1) := by decide +kernel
theorem dX2_joinedState_58 : decode cX2_joinedState 58 = .ok (.getfield 15, 3) := by decide +kernel
theorem dX2_joinedState_61 : decode cX2_joinedState 61 = .ok (.iload_n 1, 1) := by decide +kernel
theorem dX2_joinedState_62 : decode cX2_joinedState 62 = .ok (.iload 6, 2) := by decide +kernel
theorem dX2_joinedState_64 : decode cX2_joinedState 64 = .ok (.iload_n 2, 1) := by decide +kernel
theorem dX2_joinedState_65 : decode cX2_joinedState 65 = .ok (.invokestatic 47, 3) := by decide +kernel
theorem dX2_joinedState_68 : decode cX2_joinedState 68 = .ok (.laload, 1) := by decide +kernel
theorem dX2_joinedState_69 : decode cX2_joinedState 69 = .ok (.iload 7, 2) := by decide +kernel
theorem dX2_joinedState_71 : decode cX2_joinedState 71 = .ok (.iload 5, 2) := by decide +kernel
theorem dX2_joinedState_73 : decode cX2_joinedState 73 = .ok (.if_icmp .le 7, 3) := by decide +kernel
theorem dX2_joinedState_76 : decode cX2_joinedState 76 = .ok (.iconst 1, 1) := by decide +kernel
theorem dX2_joinedState_77 : decode cX2_joinedState 77 = .ok (.goto 4, 3) := by decide +kernel
theorem dX2_joinedState_80 : decode cX2_joinedState 80 = .ok (.iconst 0, 1) := by decide +kernel
theorem dX2_joinedState_81 : decode cX2_joinedState 81 = .ok (.invokevirtual 76, 3) := by decide +kernel
theorem dX2_joinedState_84 : decode cX2_joinedState 84 = .ok (.lstore_n 3, 1) := by decide +kernel
theorem dX2_joinedState_85 : decode cX2_joinedState 85 = .ok (.iload 5, 2) := by decide +kernel
theorem dX2_joinedState_87 : decode cX2_joinedState 87 = .ok (.iload 7, 2) := by decide +kernel
theorem dX2_joinedState_89 : decode cX2_joinedState 89 = .ok (.invokestatic 80, 3) := by decide +kernel
theorem dX2_joinedState_92 : decode cX2_joinedState 92 = .ok (.istore 5, 2) := by decide +kernel
theorem dX2_joinedState_94 : decode cX2_joinedState 94 = .ok (.iinc 6 1, 3) := by decide +kernel
theorem dX2_joinedState_97 : decode cX2_joinedState 97 = .ok (.goto (-70), 3) := by decide +kernel
theorem dX2_joinedState_100 : decode cX2_joinedState 100 = .ok (.lload_n 3, 1) := by decide +kernel
theorem dX2_joinedState_101 : decode cX2_joinedState 101 = .ok (.lreturn, 1) := by decide +kernel
theorem dX2_joinedLatestRow_0 : decode cX2_joinedLatestRow 0 = .ok (.iconst (-1), 1) := by decide +kernel
theorem dX2_joinedLatestRow_1 : decode cX2_joinedLatestRow 1 = .ok (.istore_n 2, 1) := by decide +kernel
theorem dX2_joinedLatestRow_2 : decode cX2_joinedLatestRow 2 = .ok (.iconst 0, 1) := by decide +kernel
theorem dX2_joinedLatestRow_3 : decode cX2_joinedLatestRow 3 = .ok (.istore_n 3, 1) := by decide +kernel
theorem dX2_joinedLatestRow_4 : decode cX2_joinedLatestRow 4 = .ok (.iload_n 3, 1) := by decide +kernel
theorem dX2_joinedLatestRow_5 : decode cX2_joinedLatestRow 5 = .ok (.aload_n 0, 1) := by decide +kernel
theorem dX2_joinedLatestRow_6 : decode cX2_joinedLatestRow 6 = .ok (.getfield 9, 3) := by decide +kernel
theorem dX2_joinedLatestRow_9 : decode cX2_joinedLatestRow 9 = .ok (.iload_n 1, 1) := by decide +kernel
theorem dX2_joinedLatestRow_10 : decode cX2_joinedLatestRow 10 = .ok (.iaload, 1) := by decide +kernel
theorem dX2_joinedLatestRow_11 : decode cX2_joinedLatestRow 11 = .ok (.if_icmp .ge 24, 3) := by decide +kernel
theorem dX2_joinedLatestRow_14 : decode cX2_joinedLatestRow 14 = .ok (.iload_n 2, 1) := by decide +kernel
theorem dX2_joinedLatestRow_15 : decode cX2_joinedLatestRow 15 = .ok (.aload_n 0, 1) := by decide +kernel
theorem dX2_joinedLatestRow_16 : decode cX2_joinedLatestRow 16 = .ok (.getfield 19, 3) := by decide +kernel
theorem dX2_joinedLatestRow_19 : decode cX2_joinedLatestRow 19 = .ok (.iload_n 1, 1) := by decide +kernel
theorem dX2_joinedLatestRow_20 : decode cX2_joinedLatestRow 20 = .ok (.iload_n 3, 1) := by decide +kernel
theorem dX2_joinedLatestRow_21 : decode cX2_joinedLatestRow 21 = .ok (.invokestatic 72, 3) := by decide +kernel
theorem dX2_joinedLatestRow_24 : decode cX2_joinedLatestRow 24 = .ok (.iaload, 1) := by decide +kernel
theorem dX2_joinedLatestRow_25 : decode cX2_joinedLatestRow 25 = .ok (.invokestatic 80, 3) := by decide +kernel
theorem dX2_joinedLatestRow_28 : decode cX2_joinedLatestRow 28 = .ok (.istore_n 2, 1) := by decide +kernel
theorem dX2_joinedLatestRow_29 : decode cX2_joinedLatestRow 29 = .ok (.iinc 3 1, 3) := by decide +kernel
theorem dX2_joinedLatestRow_32 : decode cX2_joinedLatestRow 32 = .ok (.goto (-28), 3) := by decide +kernel
theorem dX2_joinedLatestRow_35 : decode cX2_joinedLatestRow 35 = .ok (.iload_n 2, 1) := by decide +kernel
theorem dX2_joinedLatestRow_36 : decode cX2_joinedLatestRow 36 = .ok (.ireturn, 1) := by decide +kernel
theorem dX2_emptyPart_0 : decode cX2_emptyPart 0 = .ok (.iconst 0, 1) := by decide +kernel
theorem dX2_emptyPart_1 : decode cX2_emptyPart 1 = .ok (.istore_n 3, 1) := by decide +kernel
theorem dX2_emptyPart_2 : decode cX2_emptyPart 2 = .ok (.iload_n 3, 1) := by decide +kernel
theorem dX2_emptyPart_3 : decode cX2_emptyPart 3 = .ok (.aload_n 0, 1) := by decide +kernel
theorem dX2_emptyPart_4 : decode cX2_emptyPart 4 = .ok (.getfield 25, 3) := by decide +kernel
theorem dX2_emptyPart_7 : decode cX2_emptyPart 7 = .ok (.getfield 65, 3) := by decide +kernel
theorem dX2_emptyPart_10 : decode cX2_emptyPart 10 = .ok (.if_icmp .ge 28, 3) := by decide +kernel
theorem dX2_emptyPart_13 : decode cX2_emptyPart 13 = .ok (.aload_n 0, 1) := by decide +kernel
theorem dX2_emptyPart_14 : decode cX2_emptyPart 14 = .ok (.getfield 15, 3) := by decide +kernel
theorem dX2_emptyPart_17 : decode cX2_emptyPart 17 = .ok (.iload_n 1, 1) := by decide +kernel
theorem dX2_emptyPart_18 : decode cX2_emptyPart 18 = .ok (.iload_n 2, 1) := by decide +kernel
theorem dX2_emptyPart_19 : decode cX2_emptyPart 19 = .ok (.iload_n 3, 1) := by decide +kernel
theorem dX2_emptyPart_20 : decode cX2_emptyPart 20 = .ok (.invokestatic 47, 3) := by decide +kernel
theorem dX2_emptyPart_23 : decode cX2_emptyPart 23 = .ok (.aload_n 0, 1) := by decide +kernel
theorem dX2_emptyPart_24 : decode cX2_emptyPart 24 = .ok (.getfield 25, 3) := by decide +kernel
theorem dX2_emptyPart_27 : decode cX2_emptyPart 27 = .ok (.iload_n 3, 1) := by decide +kernel
theorem dX2_emptyPart_28 : decode cX2_emptyPart 28 = .ok (.invokevirtual 51, 3) := by decide +kernel
theorem dX2_emptyPart_31 : decode cX2_emptyPart 31 = .ok (.lastore, 1) := by decide +kernel
theorem dX2_emptyPart_32 : decode cX2_emptyPart 32 = .ok (.iinc 3 1, 3) := by decide +kernel
theorem dX2_emptyPart_35 : decode cX2_emptyPart 35 = .ok (.goto (-33), 3) := by decide +kernel
theorem dX2_emptyPart_38 : decode cX2_emptyPart 38 = .ok (.aload_n 0, 1) := by decide +kernel
theorem dX2_emptyPart_39 : decode cX2_emptyPart 39 = .ok (.getfield 19, 3) := by decide +kernel
theorem dX2_emptyPart_42 : decode cX2_emptyPart 42 = .ok (.iload_n 1, 1) := by decide +kernel
theorem dX2_emptyPart_43 : decode cX2_emptyPart 43 = .ok (.iload_n 2, 1) := by decide +kernel
theorem dX2_emptyPart_44 : decode cX2_emptyPart 44 = .ok (.invokestatic 72, 3) := by decide +kernel
theorem dX2_emptyPart_47 : decode cX2_emptyPart 47 = .ok (.iconst (-1), 1) := by decide +kernel
theorem dX2_emptyPart_48 : decode cX2_emptyPart 48 = .ok (.iastore, 1) := by decide +kernel
theorem dX2_emptyPart_49 : decode cX2_emptyPart 49 = .ok (.return_, 1) := by decide +kernel
theorem dX2_emptyKey_0 : decode cX2_emptyKey 0 = .ok (.iconst 0, 1) := by decide +kernel
theorem dX2_emptyKey_1 : decode cX2_emptyKey 1 = .ok (.istore_n 2, 1) := by decide +kernel
theorem dX2_emptyKey_2 : decode cX2_emptyKey 2 = .ok (.iload_n 2, 1) := by decide +kernel
theorem dX2_emptyKey_3 : decode cX2_emptyKey 3 = .ok (.aload_n 0, 1) := by decide +kernel
theorem dX2_emptyKey_4 : decode cX2_emptyKey 4 = .ok (.getfield 9, 3) := by decide +kernel
theorem dX2_emptyKey_7 : decode cX2_emptyKey 7 = .ok (.iload_n 1, 1) := by decide +kernel
theorem dX2_emptyKey_8 : decode cX2_emptyKey 8 = .ok (.iaload, 1) := by decide +kernel
theorem dX2_emptyKey_9 : decode cX2_emptyKey 9 = .ok (.if_icmp .ge 15, 3) := by decide +kernel
theorem dX2_emptyKey_12 : decode cX2_emptyKey 12 = .ok (.aload_n 0, 1) := by decide +kernel
theorem dX2_emptyKey_13 : decode cX2_emptyKey 13 = .ok (.iload_n 1, 1) := by decide +kernel
theorem dX2_emptyKey_14 : decode cX2_emptyKey 14 = .ok (.iload_n 2, 1) := by decide +kernel
theorem dX2_emptyKey_15 : decode cX2_emptyKey 15 = .ok (.invokevirtual 85, 3) := by decide +kernel
theorem dX2_emptyKey_18 : decode cX2_emptyKey 18 = .ok (.iinc 2 1, 3) := by decide +kernel
theorem dX2_emptyKey_21 : decode cX2_emptyKey 21 = .ok (.goto (-19), 3) := by decide +kernel
theorem dX2_emptyKey_24 : decode cX2_emptyKey 24 = .ok (.aload_n 0, 1) := by decide +kernel
theorem dX2_emptyKey_25 : decode cX2_emptyKey 25 = .ok (.getfield 22, 3) := by decide +kernel
theorem dX2_emptyKey_28 : decode cX2_emptyKey 28 = .ok (.iload_n 1, 1) := by decide +kernel
theorem dX2_emptyKey_29 : decode cX2_emptyKey 29 = .ok (.ldc2_w 38, 3) := by decide +kernel
theorem dX2_emptyKey_32 : decode cX2_emptyKey 32 = .ok (.lastore, 1) := by decide +kernel
theorem dX2_emptyKey_33 : decode cX2_emptyKey 33 = .ok (.return_, 1) := by decide +kernel
theorem dX2_breakUp_0 : decode cX2_breakUp 0 = .ok (.iconst 1, 1) := by decide +kernel
theorem dX2_breakUp_1 : decode cX2_breakUp 1 = .ok (.istore_n 3, 1) := by decide +kernel
theorem dX2_breakUp_2 : decode cX2_breakUp 2 = .ok (.iload_n 3, 1) := by decide +kernel
theorem dX2_breakUp_3 : decode cX2_breakUp 3 = .ok (.iload_n 2, 1) := by decide +kernel
theorem dX2_breakUp_4 : decode cX2_breakUp 4 = .ok (.if_icmp .ge 15, 3) := by decide +kernel
theorem dX2_breakUp_7 : decode cX2_breakUp 7 = .ok (.aload_n 0, 1) := by decide +kernel
theorem dX2_breakUp_8 : decode cX2_breakUp 8 = .ok (.iload_n 1, 1) := by decide +kernel
theorem dX2_breakUp_9 : decode cX2_breakUp 9 = .ok (.iload_n 3, 1) := by decide +kernel
theorem dX2_breakUp_10 : decode cX2_breakUp 10 = .ok (.invokevirtual 85, 3) := by decide +kernel
theorem dX2_breakUp_13 : decode cX2_breakUp 13 = .ok (.iinc 3 1, 3) := by decide +kernel
theorem dX2_breakUp_16 : decode cX2_breakUp 16 = .ok (.goto (-14), 3) := by decide +kernel
theorem dX2_breakUp_19 : decode cX2_breakUp 19 = .ok (.aload_n 0, 1) := by decide +kernel
theorem dX2_breakUp_20 : decode cX2_breakUp 20 = .ok (.getfield 9, 3) := by decide +kernel
theorem dX2_breakUp_23 : decode cX2_breakUp 23 = .ok (.iload_n 1, 1) := by decide +kernel
theorem dX2_breakUp_24 : decode cX2_breakUp 24 = .ok (.iload_n 2, 1) := by decide +kernel
theorem dX2_breakUp_25 : decode cX2_breakUp 25 = .ok (.iastore, 1) := by decide +kernel
theorem dX2_breakUp_26 : decode cX2_breakUp 26 = .ok (.return_, 1) := by decide +kernel
theorem dX2_bringBack_0 : decode cX2_bringBack 0 = .ok (.iconst 0, 1) := by decide +kernel
theorem dX2_bringBack_1 : decode cX2_bringBack 1 = .ok (.istore_n 2, 1) := by decide +kernel
theorem dX2_bringBack_2 : decode cX2_bringBack 2 = .ok (.iconst 1, 1) := by decide +kernel
theorem dX2_bringBack_3 : decode cX2_bringBack 3 = .ok (.istore_n 3, 1) := by decide +kernel
theorem dX2_bringBack_4 : decode cX2_bringBack 4 = .ok (.iload_n 3, 1) := by decide +kernel
theorem dX2_bringBack_5 : decode cX2_bringBack 5 = .ok (.aload_n 0, 1) := by decide +kernel
theorem dX2_bringBack_6 : decode cX2_bringBack 6 = .ok (.getfield 9, 3) := by decide +kernel
theorem dX2_bringBack_9 : decode cX2_bringBack 9 = .ok (.iload_n 1, 1) := by decide +kernel
theorem dX2_bringBack_10 : decode cX2_bringBack 10 = .ok (.iaload, 1) := by decide +kernel
theorem dX2_bringBack_11 : decode cX2_bringBack 11 = .ok (.if_icmp .ge 26, 3) := by decide +kernel
theorem dX2_bringBack_14 : decode cX2_bringBack 14 = .ok (.aload_n 0, 1) := by decide +kernel
theorem dX2_bringBack_15 : decode cX2_bringBack 15 = .ok (.getfield 19, 3) := by decide +kernel
theorem dX2_bringBack_18 : decode cX2_bringBack 18 = .ok (.iload_n 1, 1) := by decide +kernel
theorem dX2_bringBack_19 : decode cX2_bringBack 19 = .ok (.iload_n 3, 1) := by decide +kernel
theorem dX2_bringBack_20 : decode cX2_bringBack 20 = .ok (.invokestatic 72, 3) := by decide +kernel
theorem dX2_bringBack_23 : decode cX2_bringBack 23 = .ok (.iaload, 1) := by decide +kernel
theorem dX2_bringBack_24 : decode cX2_bringBack 24 = .ok (.iconst (-1), 1) := by decide +kernel
theorem dX2_bringBack_25 : decode cX2_bringBack 25 = .ok (.if_icmp .eq 6, 3) := by decide +kernel
theorem dX2_bringBack_28 : decode cX2_bringBack 28 = .ok (.iinc 2 1, 3) := by decide +kernel
theorem dX2_bringBack_31 : decode cX2_bringBack 31 = .ok (.iinc 3 1, 3) := by decide +kernel
theorem dX2_bringBack_34 : decode cX2_bringBack 34 = .ok (.goto (-30), 3) := by decide +kernel
theorem dX2_bringBack_37 : decode cX2_bringBack 37 = .ok (.iconst 0, 1) := by decide +kernel
theorem dX2_bringBack_38 : decode cX2_bringBack 38 = .ok (.istore_n 3, 1) := by decide +kernel
theorem dX2_bringBack_39 : decode cX2_bringBack 39 = .ok (.iload_n 3, 1) := by decide +kernel
theorem dX2_bringBack_40 : decode cX2_bringBack 40 = .ok (.aload_n 0, 1) := by decide +kernel
theorem dX2_bringBack_41 : decode cX2_bringBack 41 = .ok (.getfield 25, 3) := by decide +kernel
theorem dX2_bringBack_44 : decode cX2_bringBack 44 = .ok (.getfield 65, 3) := by decide +kernel
theorem dX2_bringBack_47 : decode cX2_bringBack 47 = .ok (.if_icmp .ge 26, 3) := by decide +kernel
theorem dX2_bringBack_50 : decode cX2_bringBack 50 = .ok (.aload_n 0, 1) := by decide +kernel
theorem dX2_bringBack_51 : decode cX2_bringBack 51 = .ok (.getfield 15, 3) := by decide +kernel
theorem dX2_bringBack_54 : decode cX2_bringBack 54 = .ok (.iload_n 1, 1) := by decide +kernel
theorem dX2_bringBack_55 : decode cX2_bringBack 55 = .ok (.iconst 0, 1) := by decide +kernel
theorem dX2_bringBack_56 : decode cX2_bringBack 56 = .ok (.iload_n 3, 1) := by decide +kernel
theorem dX2_bringBack_57 : decode cX2_bringBack 57 = .ok (.invokestatic 47, 3) := by decide +kernel
theorem dX2_bringBack_60 : decode cX2_bringBack 60 = .ok (.aload_n 0, 1) := by decide +kernel
theorem dX2_bringBack_61 : decode cX2_bringBack 61 = .ok (.iload_n 1, 1) := by decide +kernel
theorem dX2_bringBack_62 : decode cX2_bringBack 62 = .ok (.iload_n 3, 1) := by decide +kernel
theorem dX2_bringBack_63 : decode cX2_bringBack 63 = .ok (.invokevirtual 89, 3) := by decide +kernel
theorem dX2_bringBack_66 : decode cX2_bringBack 66 = .ok (.lastore, 1) := by decide +kernel
theorem dX2_bringBack_67 : decode cX2_bringBack 67 = .ok (.iinc 3 1, 3) := by decide +kernel
theorem dX2_bringBack_70 : decode cX2_bringBack 70 = .ok (.goto (-31), 3) := by decide +kernel
theorem dX2_bringBack_73 : decode cX2_bringBack 73 = .ok (.aload_n 0, 1) := by decide +kernel
theorem dX2_bringBack_74 : decode cX2_bringBack 74 = .ok (.getfield 19, 3) := by decide +kernel
theorem dX2_bringBack_77 : decode cX2_bringBack 77 = .ok (.iload_n 1, 1) := by decide +kernel
theorem dX2_bringBack_78 : decode cX2_bringBack 78 = .ok (.iconst 0, 1) := by decide +kernel
theorem dX2_bringBack_79 : decode cX2_bringBack 79 = .ok (.invokestatic 72, 3) := by decide +kernel
theorem dX2_bringBack_82 : decode cX2_bringBack 82 = .ok (.aload_n 0, 1) := by decide +kernel
theorem dX2_bringBack_83 : decode cX2_bringBack 83 = .ok (.iload_n 1, 1) := by decide +kernel
theorem dX2_bringBack_84 : decode cX2_bringBack 84 = .ok (.invokevirtual 93, 3) := by decide +kernel
theorem dX2_bringBack_87 : decode cX2_bringBack 87 = .ok (.iastore, 1) := by decide +kernel
theorem dX2_bringBack_88 : decode cX2_bringBack 88 = .ok (.aload_n 0, 1) := by decide +kernel
theorem dX2_bringBack_89 : decode cX2_bringBack 89 = .ok (.getfield 9, 3) := by decide +kernel
theorem dX2_bringBack_92 : decode cX2_bringBack 92 = .ok (.iload_n 1, 1) := by decide +kernel
theorem dX2_bringBack_93 : decode cX2_bringBack 93 = .ok (.iconst 1, 1) := by decide +kernel
theorem dX2_bringBack_94 : decode cX2_bringBack 94 = .ok (.iastore, 1) := by decide +kernel
theorem dX2_bringBack_95 : decode cX2_bringBack 95 = .ok (.aload_n 0, 1) := by decide +kernel
theorem dX2_bringBack_96 : decode cX2_bringBack 96 = .ok (.dup, 1) := by decide +kernel
theorem dX2_bringBack_97 : decode cX2_bringBack 97 = .ok (.getfield 43, 3) := by decide +kernel
theorem dX2_bringBack_100 : decode cX2_bringBack 100 = .ok (.iload_n 2, 1) := by decide +kernel
theorem dX2_bringBack_101 : decode cX2_bringBack 101 = .ok (.iadd, 1) := by decide +kernel
theorem dX2_bringBack_102 : decode cX2_bringBack 102 = .ok (.putfield 43, 3) := by decide +kernel
theorem dX2_bringBack_105 : decode cX2_bringBack 105 = .ok (.iload_n 2, 1) := by decide +kernel
theorem dX2_bringBack_106 : decode cX2_bringBack 106 = .ok (.ireturn, 1) := by decide +kernel
theorem dX2_holdIn_0 : decode cX2_holdIn 0 = .ok (.iconst 0, 1) := by decide +kernel
theorem dX2_holdIn_1 : decode cX2_holdIn 1 = .ok (.istore_n 2, 1) := by decide +kernel
theorem dX2_holdIn_2 : decode cX2_holdIn 2 = .ok (.iload_n 2, 1) := by decide +kernel
theorem dX2_holdIn_3 : decode cX2_holdIn 3 = .ok (.bipush 100, 2) := by decide +kernel
theorem dX2_holdIn_5 : decode cX2_holdIn 5 = .ok (.if_icmp .ge 68, 3) := by decide +kernel
theorem dX2_holdIn_8 : decode cX2_holdIn 8 = .ok (.iconst 0, 1) := by decide +kernel
theorem dX2_holdIn_9 : decode cX2_holdIn 9 = .ok (.istore_n 3, 1) := by decide +kernel
theorem dX2_holdIn_10 : decode cX2_holdIn 10 = .ok (.iload_n 3, 1) := by decide +kernel
theorem dX2_holdIn_11 : decode cX2_holdIn 11 = .ok (.aload_n 0, 1) := by decide +kernel
theorem dX2_holdIn_12 : decode cX2_holdIn 12 = .ok (.getfield 25, 3) := by decide +kernel
theorem dX2_holdIn_15 : decode cX2_holdIn 15 = .ok (.getfield 65, 3) := by decide +kernel
theorem dX2_holdIn_18 : decode cX2_holdIn 18 = .ok (.if_icmp .ge 26, 3) := by decide +kernel
theorem dX2_holdIn_21 : decode cX2_holdIn 21 = .ok (.aload_n 1, 1) := by decide +kernel
theorem dX2_holdIn_22 : decode cX2_holdIn 22 = .ok (.getfield 97, 3) := by decide +kernel
theorem dX2_holdIn_25 : decode cX2_holdIn 25 = .ok (.iload_n 2, 1) := by decide +kernel
theorem dX2_holdIn_26 : decode cX2_holdIn 26 = .ok (.bipush 6, 2) := by decide +kernel
theorem dX2_holdIn_28 : decode cX2_holdIn 28 = .ok (.imul, 1) := by decide +kernel
theorem dX2_holdIn_29 : decode cX2_holdIn 29 = .ok (.iload_n 3, 1) := by decide +kernel
theorem dX2_holdIn_30 : decode cX2_holdIn 30 = .ok (.iadd, 1) := by decide +kernel
theorem dX2_holdIn_31 : decode cX2_holdIn 31 = .ok (.aload_n 0, 1) := by decide +kernel
theorem dX2_holdIn_32 : decode cX2_holdIn 32 = .ok (.iload_n 2, 1) := by decide +kernel
theorem dX2_holdIn_33 : decode cX2_holdIn 33 = .ok (.iload_n 3, 1) := by decide +kernel
theorem dX2_holdIn_34 : decode cX2_holdIn 34 = .ok (.invokevirtual 89, 3) := by decide +kernel
theorem dX2_holdIn_37 : decode cX2_holdIn 37 = .ok (.lastore, 1) := by decide +kernel
theorem dX2_holdIn_38 : decode cX2_holdIn 38 = .ok (.iinc 3 1, 3) := by decide +kernel
theorem dX2_holdIn_41 : decode cX2_holdIn 41 = .ok (.goto (-31), 3) := by decide +kernel
theorem dX2_holdIn_44 : decode cX2_holdIn 44 = .ok (.aload_n 1, 1) := by decide +kernel
theorem dX2_holdIn_45 : decode cX2_holdIn 45 = .ok (.getfield 100, 3) := by decide +kernel
theorem dX2_holdIn_48 : decode cX2_holdIn 48 = .ok (.iload_n 2, 1) := by decide +kernel
theorem dX2_holdIn_49 : decode cX2_holdIn 49 = .ok (.aload_n 0, 1) := by decide +kernel
theorem dX2_holdIn_50 : decode cX2_holdIn 50 = .ok (.iload_n 2, 1) := by decide +kernel
theorem dX2_holdIn_51 : decode cX2_holdIn 51 = .ok (.invokevirtual 93, 3) := by decide +kernel
theorem dX2_holdIn_54 : decode cX2_holdIn 54 = .ok (.iastore, 1) := by decide +kernel
theorem dX2_holdIn_55 : decode cX2_holdIn 55 = .ok (.aload_n 1, 1) := by decide +kernel
theorem dX2_holdIn_56 : decode cX2_holdIn 56 = .ok (.getfield 101, 3) := by decide +kernel
theorem dX2_holdIn_59 : decode cX2_holdIn 59 = .ok (.iload_n 2, 1) := by decide +kernel
theorem dX2_holdIn_60 : decode cX2_holdIn 60 = .ok (.aload_n 0, 1) := by decide +kernel
theorem dX2_holdIn_61 : decode cX2_holdIn 61 = .ok (.getfield 22, 3) := by decide +kernel
theorem dX2_holdIn_64 : decode cX2_holdIn 64 = .ok (.iload_n 2, 1) := by decide +kernel
theorem dX2_holdIn_65 : decode cX2_holdIn 65 = .ok (.laload, 1) := by decide +kernel
theorem dX2_holdIn_66 : decode cX2_holdIn 66 = .ok (.lastore, 1) := by decide +kernel
theorem dX2_holdIn_67 : decode cX2_holdIn 67 = .ok (.iinc 2 1, 3) := by decide +kernel
theorem dX2_holdIn_70 : decode cX2_holdIn 70 = .ok (.goto (-68), 3) := by decide +kernel
theorem dX2_holdIn_73 : decode cX2_holdIn 73 = .ok (.return_, 1) := by decide +kernel
theorem dX2_takeFrom_0 : decode cX2_takeFrom 0 = .ok (.aload_n 0, 1) := by decide +kernel
theorem dX2_takeFrom_1 : decode cX2_takeFrom 1 = .ok (.invokevirtual 29, 3) := by decide +kernel
theorem dX2_takeFrom_4 : decode cX2_takeFrom 4 = .ok (.iconst 0, 1) := by decide +kernel
theorem dX2_takeFrom_5 : decode cX2_takeFrom 5 = .ok (.istore_n 2, 1) := by decide +kernel
theorem dX2_takeFrom_6 : decode cX2_takeFrom 6 = .ok (.iload_n 2, 1) := by decide +kernel
theorem dX2_takeFrom_7 : decode cX2_takeFrom 7 = .ok (.bipush 100, 2) := by decide +kernel
theorem dX2_takeFrom_9 : decode cX2_takeFrom 9 = .ok (.if_icmp .ge 78, 3) := by decide +kernel
theorem dX2_takeFrom_12 : decode cX2_takeFrom 12 = .ok (.iconst 0, 1) := by decide +kernel
theorem dX2_takeFrom_13 : decode cX2_takeFrom 13 = .ok (.istore_n 3, 1) := by decide +kernel
theorem dX2_takeFrom_14 : decode cX2_takeFrom 14 = .ok (.iload_n 3, 1) := by decide +kernel
theorem dX2_takeFrom_15 : decode cX2_takeFrom 15 = .ok (.aload_n 0, 1) := by decide +kernel
theorem dX2_takeFrom_16 : decode cX2_takeFrom 16 = .ok (.getfield 25, 3) := by decide +kernel
theorem dX2_takeFrom_19 : decode cX2_takeFrom 19 = .ok (.getfield 65, 3) := by decide +kernel
theorem dX2_takeFrom_22 : decode cX2_takeFrom 22 = .ok (.if_icmp .ge 31, 3) := by decide +kernel
theorem dX2_takeFrom_25 : decode cX2_takeFrom 25 = .ok (.aload_n 0, 1) := by decide +kernel
theorem dX2_takeFrom_26 : decode cX2_takeFrom 26 = .ok (.getfield 15, 3) := by decide +kernel
theorem dX2_takeFrom_29 : decode cX2_takeFrom 29 = .ok (.iload_n 2, 1) := by decide +kernel
theorem dX2_takeFrom_30 : decode cX2_takeFrom 30 = .ok (.iconst 0, 1) := by decide +kernel
theorem dX2_takeFrom_31 : decode cX2_takeFrom 31 = .ok (.iload_n 3, 1) := by decide +kernel
theorem dX2_takeFrom_32 : decode cX2_takeFrom 32 = .ok (.invokestatic 47, 3) := by decide +kernel
theorem dX2_takeFrom_35 : decode cX2_takeFrom 35 = .ok (.aload_n 1, 1) := by decide +kernel
theorem dX2_takeFrom_36 : decode cX2_takeFrom 36 = .ok (.getfield 97, 3) := by decide +kernel
theorem dX2_takeFrom_39 : decode cX2_takeFrom 39 = .ok (.iload_n 2, 1) := by decide +kernel
theorem dX2_takeFrom_40 : decode cX2_takeFrom 40 = .ok (.bipush 6, 2) := by decide +kernel
theorem dX2_takeFrom_42 : decode cX2_takeFrom 42 = .ok (.imul, 1) := by decide +kernel
theorem dX2_takeFrom_43 : decode cX2_takeFrom 43 = .ok (.iload_n 3, 1) := by decide +kernel
theorem dX2_takeFrom_44 : decode cX2_takeFrom 44 = .ok (.iadd, 1) := by decide +kernel
theorem dX2_takeFrom_45 : decode cX2_takeFrom 45 = .ok (.laload, 1) := by decide +kernel
theorem dX2_takeFrom_46 : decode cX2_takeFrom 46 = .ok (.lastore, 1) := by decide +kernel
theorem dX2_takeFrom_47 : decode cX2_takeFrom 47 = .ok (.iinc 3 1, 3) := by decide +kernel
theorem dX2_takeFrom_50 : decode cX2_takeFrom 50 = .ok (.goto (-36), 3) := by decide +kernel
theorem dX2_takeFrom_53 : decode cX2_takeFrom 53 = .ok (.aload_n 0, 1) := by decide +kernel
theorem dX2_takeFrom_54 : decode cX2_takeFrom 54 = .ok (.getfield 19, 3) := by decide +kernel
theorem dX2_takeFrom_57 : decode cX2_takeFrom 57 = .ok (.iload_n 2, 1) := by decide +kernel
theorem dX2_takeFrom_58 : decode cX2_takeFrom 58 = .ok (.iconst 0, 1) := by decide +kernel
theorem dX2_takeFrom_59 : decode cX2_takeFrom 59 = .ok (.invokestatic 72, 3) := by decide +kernel
theorem dX2_takeFrom_62 : decode cX2_takeFrom 62 = .ok (.aload_n 1, 1) := by decide +kernel
theorem dX2_takeFrom_63 : decode cX2_takeFrom 63 = .ok (.getfield 100, 3) := by decide +kernel
theorem dX2_takeFrom_66 : decode cX2_takeFrom 66 = .ok (.iload_n 2, 1) := by decide +kernel
theorem dX2_takeFrom_67 : decode cX2_takeFrom 67 = .ok (.iaload, 1) := by decide +kernel
theorem dX2_takeFrom_68 : decode cX2_takeFrom 68 = .ok (.iastore, 1) := by decide +kernel
theorem dX2_takeFrom_69 : decode cX2_takeFrom 69 = .ok (.aload_n 0, 1) := by decide +kernel
theorem dX2_takeFrom_70 : decode cX2_takeFrom 70 = .ok (.getfield 22, 3) := by decide +kernel
theorem dX2_takeFrom_73 : decode cX2_takeFrom 73 = .ok (.iload_n 2, 1) := by decide +kernel
theorem dX2_takeFrom_74 : decode cX2_takeFrom 74 = .ok (.aload_n 1, 1) := by decide +kernel
theorem dX2_takeFrom_75 : decode cX2_takeFrom 75 = .ok (.getfield 101, 3) := by decide +kernel
theorem dX2_takeFrom_78 : decode cX2_takeFrom 78 = .ok (.iload_n 2, 1) := by decide +kernel
theorem dX2_takeFrom_79 : decode cX2_takeFrom 79 = .ok (.laload, 1) := by decide +kernel
theorem dX2_takeFrom_80 : decode cX2_takeFrom 80 = .ok (.lastore, 1) := by decide +kernel
theorem dX2_takeFrom_81 : decode cX2_takeFrom 81 = .ok (.iinc 2 1, 3) := by decide +kernel
theorem dX2_takeFrom_84 : decode cX2_takeFrom 84 = .ok (.goto (-78), 3) := by decide +kernel
theorem dX2_takeFrom_87 : decode cX2_takeFrom 87 = .ok (.return_, 1) := by decide +kernel
end
section
theorem dX3_init_0 : decode cX3_init 0 = .ok (.aload_n 0, 1) := by decide +kernel
theorem dX3_init_1 : decode cX3_init 1 = .ok (.invokespecial 3, 3) := by decide +kernel
theorem dX3_init_4 : decode cX3_init 4 = .ok (.aload_n 0, 1) := by decide +kernel
theorem dX3_init_5 : decode cX3_init 5 = .ok (.sipush 512, 3) := by decide +kernel
theorem dX3_init_8 : decode cX3_init 8 = .ok (.newarray .long, 2) := by decide +kernel
theorem dX3_init_10 : decode cX3_init 10 = .ok (.putfield 9, 3) := by decide +kernel
theorem dX3_init_13 : decode cX3_init 13 = .ok (.return_, 1) := by decide +kernel
theorem dX3_open_0 : decode cX3_open 0 = .ok (.aload_n 0, 1) := by decide +kernel
theorem dX3_open_1 : decode cX3_open 1 = .ok (.aload_n 0, 1) := by decide +kernel
theorem dX3_open_2 : decode cX3_open 2 = .ok (.getfield 15, 3) := by decide +kernel
theorem dX3_open_5 : decode cX3_open 5 = .ok (.iconst 1, 1) := by decide +kernel
theorem dX3_open_6 : decode cX3_open 6 = .ok (.iadd, 1) := by decide +kernel
theorem dX3_open_7 : decode cX3_open 7 = .ok (.bipush 64, 2) := by decide +kernel
theorem dX3_open_9 : decode cX3_open 9 = .ok (.irem, 1) := by decide +kernel
theorem dX3_open_10 : decode cX3_open 10 = .ok (.putfield 15, 3) := by decide +kernel
theorem dX3_open_13 : decode cX3_open 13 = .ok (.aload_n 0, 1) := by decide +kernel
theorem dX3_open_14 : decode cX3_open 14 = .ok (.aload_n 0, 1) := by decide +kernel
theorem dX3_open_15 : decode cX3_open 15 = .ok (.getfield 19, 3) := by decide +kernel
theorem dX3_open_18 : decode cX3_open 18 = .ok (.iconst 1, 1) := by decide +kernel
theorem dX3_open_19 : decode cX3_open 19 = .ok (.iadd, 1) := by decide +kernel
theorem dX3_open_20 : decode cX3_open 20 = .ok (.bipush 64, 2) := by decide +kernel
theorem dX3_open_22 : decode cX3_open 22 = .ok (.invokestatic 22, 3) := by decide +kernel
theorem dX3_open_25 : decode cX3_open 25 = .ok (.putfield 19, 3) := by decide +kernel
theorem dX3_open_28 : decode cX3_open 28 = .ok (.aload_n 0, 1) := by decide +kernel
theorem dX3_open_29 : decode cX3_open 29 = .ok (.getfield 15, 3) := by decide +kernel
theorem dX3_open_32 : decode cX3_open 32 = .ok (.bipush 8, 2) := by decide +kernel
theorem dX3_open_34 : decode cX3_open 34 = .ok (.imul, 1) := by decide +kernel
theorem dX3_open_35 : decode cX3_open 35 = .ok (.istore_n 3, 1) := by decide +kernel
theorem dX3_open_36 : decode cX3_open 36 = .ok (.aload_n 0, 1) := by decide +kernel
theorem dX3_open_37 : decode cX3_open 37 = .ok (.getfield 9, 3) := by decide +kernel
theorem dX3_open_40 : decode cX3_open 40 = .ok (.iload_n 3, 1) := by decide +kernel
theorem dX3_open_41 : decode cX3_open 41 = .ok (.iload_n 1, 1) := by decide +kernel
theorem dX3_open_42 : decode cX3_open 42 = .ok (.i2l, 1) := by decide +kernel
theorem dX3_open_43 : decode cX3_open 43 = .ok (.lastore, 1) := by decide +kernel
theorem dX3_open_44 : decode cX3_open 44 = .ok (.aload_n 0, 1) := by decide +kernel
theorem dX3_open_45 : decode cX3_open 45 = .ok (.getfield 9, 3) := by decide +kernel
theorem dX3_open_48 : decode cX3_open 48 = .ok (.iload_n 3, 1) := by decide +kernel
theorem dX3_open_49 : decode cX3_open 49 = .ok (.iconst 1, 1) := by decide +kernel
theorem dX3_open_50 : decode cX3_open 50 = .ok (.iadd, 1) := by decide +kernel
theorem dX3_open_51 : decode cX3_open 51 = .ok (.iload_n 2, 1) := by decide +kernel
theorem dX3_open_52 : decode cX3_open 52 = .ok (.i2l, 1) := by decide +kernel
theorem dX3_open_53 : decode cX3_open 53 = .ok (.lastore, 1) := by decide +kernel
theorem dX3_open_54 : decode cX3_open 54 = .ok (.aload_n 0, 1) := by decide +kernel
theorem dX3_open_55 : decode cX3_open 55 = .ok (.getfield 9, 3) := by decide +kernel
theorem dX3_open_58 : decode cX3_open 58 = .ok (.iload_n 3, 1) := by decide +kernel
theorem dX3_open_59 : decode cX3_open 59 = .ok (.iconst 2, 1) := by decide +kernel
theorem dX3_open_60 : decode cX3_open 60 = .ok (.iadd, 1) := by decide +kernel
theorem dX3_open_61 : decode cX3_open 61 = .ok (.iload_n 3, 1) := by decide +kernel
theorem dX3_open_62 : decode cX3_open 62 = .ok (.bipush 8, 2) := by decide +kernel
theorem dX3_open_64 : decode cX3_open 64 = .ok (.iadd, 1) := by decide +kernel
theorem dX3_open_65 : decode cX3_open 65 = .ok (.ldc2_w 28, 3) := by decide +kernel
theorem dX3_open_68 : decode cX3_open 68 = .ok (.invokestatic 30, 3) := by decide +kernel
theorem dX3_open_71 : decode cX3_open 71 = .ok (.iload_n 3, 1) := by decide +kernel
theorem dX3_open_72 : decode cX3_open 72 = .ok (.ireturn, 1) := by decide +kernel
theorem dX3_write_0 : decode cX3_write 0 = .ok (.aload_n 0, 1) := by decide +kernel
theorem dX3_write_1 : decode cX3_write 1 = .ok (.getfield 9, 3) := by decide +kernel
theorem dX3_write_4 : decode cX3_write 4 = .ok (.iload_n 1, 1) := by decide +kernel
theorem dX3_write_5 : decode cX3_write 5 = .ok (.iconst 2, 1) := by decide +kernel
theorem dX3_write_6 : decode cX3_write 6 = .ok (.iadd, 1) := by decide +kernel
theorem dX3_write_7 : decode cX3_write 7 = .ok (.iload_n 2, 1) := by decide +kernel
theorem dX3_write_8 : decode cX3_write 8 = .ok (.iadd, 1) := by decide +kernel
theorem dX3_write_9 : decode cX3_write 9 = .ok (.lload_n 3, 1) := by decide +kernel
theorem dX3_write_10 : decode cX3_write 10 = .ok (.lastore, 1) := by decide +kernel
theorem dX3_write_11 : decode cX3_write 11 = .ok (.return_, 1) := by decide +kernel
theorem dX3_read_0 : decode cX3_read 0 = .ok (.aload_n 0, 1) := by decide +kernel
theorem dX3_read_1 : decode cX3_read 1 = .ok (.getfield 9, 3) := by decide +kernel
theorem dX3_read_4 : decode cX3_read 4 = .ok (.aload_n 0, 1) := by decide +kernel
theorem dX3_read_5 : decode cX3_read 5 = .ok (.getfield 15, 3) := by decide +kernel
theorem dX3_read_8 : decode cX3_read 8 = .ok (.iload_n 1, 1) := by decide +kernel
theorem dX3_read_9 : decode cX3_read 9 = .ok (.isub, 1) := by decide +kernel
theorem dX3_read_10 : decode cX3_read 10 = .ok (.bipush 64, 2) := by decide +kernel
theorem dX3_read_12 : decode cX3_read 12 = .ok (.invokestatic 36, 3) := by decide +kernel
theorem dX3_read_15 : decode cX3_read 15 = .ok (.bipush 8, 2) := by decide +kernel
theorem dX3_read_17 : decode cX3_read 17 = .ok (.imul, 1) := by decide +kernel
theorem dX3_read_18 : decode cX3_read 18 = .ok (.iload_n 2, 1) := by decide +kernel
theorem dX3_read_19 : decode cX3_read 19 = .ok (.iadd, 1) := by decide +kernel
theorem dX3_read_20 : decode cX3_read 20 = .ok (.laload, 1) := by decide +kernel
theorem dX3_read_21 : decode cX3_read 21 = .ok (.lreturn, 1) := by decide +kernel
end
section
theorem dX4_init_0 : decode cX4_init 0 = .ok (.aload_n 0, 1) := by decide +kernel
theorem dX4_init_1 : decode cX4_init 1 = .ok (.invokespecial 3, 3) := by decide +kernel
theorem dX4_init_4 : decode cX4_init 4 = .ok (.aload_n 0, 1) := by decide +kernel
theorem dX4_init_5 : decode cX4_init 5 = .ok (.sipush 600, 3) := by decide +kernel
theorem dX4_init_8 : decode cX4_init 8 = .ok (.newarray .long, 2) := by decide +kernel
theorem dX4_init_10 : decode cX4_init 10 = .ok (.putfield 9, 3) := by decide +kernel
theorem dX4_init_13 : decode cX4_init 13 = .ok (.aload_n 0, 1) := by decide +kernel
theorem dX4_init_14 : decode cX4_init 14 = .ok (.bipush 100, 2) := by decide +kernel
theorem dX4_init_16 : decode cX4_init 16 = .ok (.newarray .int, 2) := by decide +kernel
theorem dX4_init_18 : decode cX4_init 18 = .ok (.putfield 15, 3) := by decide +kernel
theorem dX4_init_21 : decode cX4_init 21 = .ok (.aload_n 0, 1) := by decide +kernel
theorem dX4_init_22 : decode cX4_init 22 = .ok (.bipush 100, 2) := by decide +kernel
theorem dX4_init_24 : decode cX4_init 24 = .ok (.newarray .long, 2) := by decide +kernel
theorem dX4_init_26 : decode cX4_init 26 = .ok (.putfield 19, 3) := by decide +kernel
theorem dX4_init_29 : decode cX4_init 29 = .ok (.aload_n 0, 1) := by decide +kernel
theorem dX4_init_30 : decode cX4_init 30 = .ok (.new 22, 3) := by decide +kernel
theorem dX4_init_33 : decode cX4_init 33 = .ok (.dup, 1) := by decide +kernel
theorem dX4_init_34 : decode cX4_init 34 = .ok (.invokespecial 24, 3) := by decide +kernel
theorem dX4_init_37 : decode cX4_init 37 = .ok (.putfield 25, 3) := by decide +kernel
theorem dX4_init_40 : decode cX4_init 40 = .ok (.aload_n 0, 1) := by decide +kernel
theorem dX4_init_41 : decode cX4_init 41 = .ok (.new 29, 3) := by decide +kernel
theorem dX4_init_44 : decode cX4_init 44 = .ok (.dup, 1) := by decide +kernel
theorem dX4_init_45 : decode cX4_init 45 = .ok (.invokespecial 31, 3) := by decide +kernel
theorem dX4_init_48 : decode cX4_init 48 = .ok (.putfield 32, 3) := by decide +kernel
theorem dX4_init_51 : decode cX4_init 51 = .ok (.return_, 1) := by decide +kernel
end
section
theorem dX5_init_0 : decode cX5_init 0 = .ok (.aload_n 0, 1) := by decide +kernel
theorem dX5_init_1 : decode cX5_init 1 = .ok (.invokespecial 3, 3) := by decide +kernel
theorem dX5_init_4 : decode cX5_init 4 = .ok (.aload_n 0, 1) := by decide +kernel
theorem dX5_init_5 : decode cX5_init 5 = .ok (.bipush 60, 2) := by decide +kernel
theorem dX5_init_7 : decode cX5_init 7 = .ok (.newarray .int, 2) := by decide +kernel
theorem dX5_init_9 : decode cX5_init 9 = .ok (.putfield 9, 3) := by decide +kernel
theorem dX5_init_12 : decode cX5_init 12 = .ok (.aload_n 0, 1) := by decide +kernel
theorem dX5_init_13 : decode cX5_init 13 = .ok (.bipush 60, 2) := by decide +kernel
theorem dX5_init_15 : decode cX5_init 15 = .ok (.newarray .int, 2) := by decide +kernel
theorem dX5_init_17 : decode cX5_init 17 = .ok (.putfield 15, 3) := by decide +kernel
theorem dX5_init_20 : decode cX5_init 20 = .ok (.return_, 1) := by decide +kernel
theorem dX5_forgetAll_0 : decode cX5_forgetAll 0 = .ok (.aload_n 0, 1) := by decide +kernel
theorem dX5_forgetAll_1 : decode cX5_forgetAll 1 = .ok (.iconst 0, 1) := by decide +kernel
theorem dX5_forgetAll_2 : decode cX5_forgetAll 2 = .ok (.putfield 18, 3) := by decide +kernel
theorem dX5_forgetAll_5 : decode cX5_forgetAll 5 = .ok (.aload_n 0, 1) := by decide +kernel
theorem dX5_forgetAll_6 : decode cX5_forgetAll 6 = .ok (.iconst 0, 1) := by decide +kernel
theorem dX5_forgetAll_7 : decode cX5_forgetAll 7 = .ok (.putfield 22, 3) := by decide +kernel
theorem dX5_forgetAll_10 : decode cX5_forgetAll 10 = .ok (.aload_n 0, 1) := by decide +kernel
theorem dX5_forgetAll_11 : decode cX5_forgetAll 11 = .ok (.lconst 0, 1) := by decide +kernel
theorem dX5_forgetAll_12 : decode cX5_forgetAll 12 = .ok (.putfield 25, 3) := by decide +kernel
theorem dX5_forgetAll_15 : decode cX5_forgetAll 15 = .ok (.return_, 1) := by decide +kernel
theorem dX5_add_0 : decode cX5_add 0 = .ok (.aload_n 0, 1) := by decide +kernel
theorem dX5_add_1 : decode cX5_add 1 = .ok (.getfield 9, 3) := by decide +kernel
theorem dX5_add_4 : decode cX5_add 4 = .ok (.aload_n 0, 1) := by decide +kernel
theorem dX5_add_5 : decode cX5_add 5 = .ok (.getfield 18, 3) := by decide +kernel
theorem dX5_add_8 : decode cX5_add 8 = .ok (.iload_n 1, 1) := by decide +kernel
theorem dX5_add_9 : decode cX5_add 9 = .ok (.iastore, 1) := by decide +kernel
theorem dX5_add_10 : decode cX5_add 10 = .ok (.aload_n 0, 1) := by decide +kernel
theorem dX5_add_11 : decode cX5_add 11 = .ok (.getfield 15, 3) := by decide +kernel
theorem dX5_add_14 : decode cX5_add 14 = .ok (.aload_n 0, 1) := by decide +kernel
theorem dX5_add_15 : decode cX5_add 15 = .ok (.getfield 18, 3) := by decide +kernel
theorem dX5_add_18 : decode cX5_add 18 = .ok (.iload_n 2, 1) := by decide +kernel
theorem dX5_add_19 : decode cX5_add 19 = .ok (.iastore, 1) := by decide +kernel
theorem dX5_add_20 : decode cX5_add 20 = .ok (.aload_n 0, 1) := by decide +kernel
theorem dX5_add_21 : decode cX5_add 21 = .ok (.dup, 1) := by decide +kernel
theorem dX5_add_22 : decode cX5_add 22 = .ok (.getfield 18, 3) := by decide +kernel
theorem dX5_add_25 : decode cX5_add 25 = .ok (.iconst 1, 1) := by decide +kernel
theorem dX5_add_26 : decode cX5_add 26 = .ok (.iadd, 1) := by decide +kernel
theorem dX5_add_27 : decode cX5_add 27 = .ok (.putfield 18, 3) := by decide +kernel
theorem dX5_add_30 : decode cX5_add 30 = .ok (.return_, 1) := by decide +kernel
theorem dX5_meet_0 : decode cX5_meet 0 = .ok (.iconst 0, 1) := by decide +kernel
theorem dX5_meet_1 : decode cX5_meet 1 = .ok (.istore_n 3, 1) := by decide +kernel
theorem dX5_meet_2 : decode cX5_meet 2 = .ok (.iload_n 3, 1) := by decide +kernel
theorem dX5_meet_3 : decode cX5_meet 3 = .ok (.aload_n 0, 1) := by decide +kernel
theorem dX5_meet_4 : decode cX5_meet 4 = .ok (.getfield 18, 3) := by decide +kernel
theorem dX5_meet_7 : decode cX5_meet 7 = .ok (.if_icmp .ge 48, 3) := by decide +kernel
theorem dX5_meet_10 : decode cX5_meet 10 = .ok (.aload_n 0, 1) := by decide +kernel
theorem dX5_meet_11 : decode cX5_meet 11 = .ok (.getfield 9, 3) := by decide +kernel
theorem dX5_meet_14 : decode cX5_meet 14 = .ok (.iload_n 3, 1) := by decide +kernel
theorem dX5_meet_15 : decode cX5_meet 15 = .ok (.iaload, 1) := by decide +kernel
theorem dX5_meet_16 : decode cX5_meet 16 = .ok (.iload_n 1, 1) := by decide +kernel
theorem dX5_meet_17 : decode cX5_meet 17 = .ok (.if_icmp .ne 32, 3) := by decide +kernel
theorem dX5_meet_20 : decode cX5_meet 20 = .ok (.aload_n 0, 1) := by decide +kernel
theorem dX5_meet_21 : decode cX5_meet 21 = .ok (.dup, 1) := by decide +kernel
theorem dX5_meet_22 : decode cX5_meet 22 = .ok (.getfield 22, 3) := by decide +kernel
theorem dX5_meet_25 : decode cX5_meet 25 = .ok (.iconst 1, 1) := by decide +kernel
theorem dX5_meet_26 : decode cX5_meet 26 = .ok (.iadd, 1) := by decide +kernel
theorem dX5_meet_27 : decode cX5_meet 27 = .ok (.putfield 22, 3) := by decide +kernel
theorem dX5_meet_30 : decode cX5_meet 30 = .ok (.aload_n 0, 1) := by decide +kernel
theorem dX5_meet_31 : decode cX5_meet 31 = .ok (.dup, 1) := by decide +kernel
theorem dX5_meet_32 : decode cX5_meet 32 = .ok (.getfield 25, 3) := by decide +kernel
theorem dX5_meet_35 : decode cX5_meet 35 = .ok (.iload_n 2, 1) := by decide +kernel
theorem dX5_meet_36 : decode cX5_meet 36 = .ok (.i2l, 1) := by decide +kernel
theorem dX5_meet_37 : decode cX5_meet 37 = .ok (.aload_n 0, 1) := by decide +kernel
theorem dX5_meet_38 : decode cX5_meet 38 = .ok (.getfield 15, 3) := by decide +kernel
theorem dX5_meet_41 : decode cX5_meet 41 = .ok (.iload_n 3, 1) := by decide +kernel
theorem dX5_meet_42 : decode cX5_meet 42 = .ok (.iaload, 1) := by decide +kernel
theorem dX5_meet_43 : decode cX5_meet 43 = .ok (.i2l, 1) := by decide +kernel
theorem dX5_meet_44 : decode cX5_meet 44 = .ok (.lmul, 1) := by decide +kernel
theorem dX5_meet_45 : decode cX5_meet 45 = .ok (.ladd, 1) := by decide +kernel
theorem dX5_meet_46 : decode cX5_meet 46 = .ok (.putfield 25, 3) := by decide +kernel
theorem dX5_meet_49 : decode cX5_meet 49 = .ok (.iinc 3 1, 3) := by decide +kernel
theorem dX5_meet_52 : decode cX5_meet 52 = .ok (.goto (-50), 3) := by decide +kernel
theorem dX5_meet_55 : decode cX5_meet 55 = .ok (.return_, 1) := by decide +kernel
theorem dX5_copyFrom_0 : decode cX5_copyFrom 0 = .ok (.aload_n 1, 1) := by decide +kernel
theorem dX5_copyFrom_1 : decode cX5_copyFrom 1 = .ok (.getfield 9, 3) := by decide +kernel
theorem dX5_copyFrom_4 : decode cX5_copyFrom 4 = .ok (.iconst 0, 1) := by decide +kernel
theorem dX5_copyFrom_5 : decode cX5_copyFrom 5 = .ok (.aload_n 0, 1) := by decide +kernel
theorem dX5_copyFrom_6 : decode cX5_copyFrom 6 = .ok (.getfield 9, 3) := by decide +kernel
theorem dX5_copyFrom_9 : decode cX5_copyFrom 9 = .ok (.iconst 0, 1) := by decide +kernel
theorem dX5_copyFrom_10 : decode cX5_copyFrom 10 = .ok (.aload_n 1, 1) := by decide +kernel
theorem dX5_copyFrom_11 : decode cX5_copyFrom 11 = .ok (.getfield 18, 3) := by decide +kernel
theorem dX5_copyFrom_14 : decode cX5_copyFrom 14 = .ok (.invokestatic 29, 3) := by decide +kernel
theorem dX5_copyFrom_17 : decode cX5_copyFrom 17 = .ok (.aload_n 1, 1) := by decide +kernel
theorem dX5_copyFrom_18 : decode cX5_copyFrom 18 = .ok (.getfield 15, 3) := by decide +kernel
theorem dX5_copyFrom_21 : decode cX5_copyFrom 21 = .ok (.iconst 0, 1) := by decide +kernel
theorem dX5_copyFrom_22 : decode cX5_copyFrom 22 = .ok (.aload_n 0, 1) := by decide +kernel
theorem dX5_copyFrom_23 : decode cX5_copyFrom 23 = .ok (.getfield 15, 3) := by decide +kernel
theorem dX5_copyFrom_26 : decode cX5_copyFrom 26 = .ok (.iconst 0, 1) := by decide +kernel
theorem dX5_copyFrom_27 : decode cX5_copyFrom 27 = .ok (.aload_n 1, 1) := by decide +kernel
theorem dX5_copyFrom_28 : decode cX5_copyFrom 28 = .ok (.getfield 18, 3) := by decide +kernel
theorem dX5_copyFrom_31 : decode cX5_copyFrom 31 = .ok (.invokestatic 29, 3) := by decide +kernel
theorem dX5_copyFrom_34 : decode cX5_copyFrom 34 = .ok (.aload_n 0, 1) := by decide +kernel
theorem dX5_copyFrom_35 : decode cX5_copyFrom 35 = .ok (.aload_n 1, 1) := by decide +kernel
theorem dX5_copyFrom_36 : decode cX5_copyFrom 36 = .ok (.getfield 18, 3) := by decide +kernel
theorem dX5_copyFrom_39 : decode cX5_copyFrom 39 = .ok (.putfield 18, 3) := by decide +kernel
theorem dX5_copyFrom_42 : decode cX5_copyFrom 42 = .ok (.aload_n 0, 1) := by decide +kernel
theorem dX5_copyFrom_43 : decode cX5_copyFrom 43 = .ok (.aload_n 1, 1) := by decide +kernel
theorem dX5_copyFrom_44 : decode cX5_copyFrom 44 = .ok (.getfield 22, 3) := by decide +kernel
theorem dX5_copyFrom_47 : decode cX5_copyFrom 47 = .ok (.putfield 22, 3) := by decide +kernel
theorem dX5_copyFrom_50 : decode cX5_copyFrom 50 = .ok (.aload_n 0, 1) := by decide +kernel
theorem dX5_copyFrom_51 : decode cX5_copyFrom 51 = .ok (.aload_n 1, 1) := by decide +kernel
theorem dX5_copyFrom_52 : decode cX5_copyFrom 52 = .ok (.getfield 25, 3) := by decide +kernel
theorem dX5_copyFrom_55 : decode cX5_copyFrom 55 = .ok (.putfield 25, 3) := by decide +kernel
theorem dX5_copyFrom_58 : decode cX5_copyFrom 58 = .ok (.return_, 1) := by decide +kernel
end
section
theorem dX6_init_0 : decode cX6_init 0 = .ok (.aload_n 0, 1) := by decide +kernel
theorem dX6_init_1 : decode cX6_init 1 = .ok (.invokespecial 3, 3) := by decide +kernel
theorem dX6_init_4 : decode cX6_init 4 = .ok (.aload_n 0, 1) := by decide +kernel
theorem dX6_init_5 : decode cX6_init 5 = .ok (.bipush 40, 2) := by decide +kernel
theorem dX6_init_7 : decode cX6_init 7 = .ok (.newarray .int, 2) := by decide +kernel
theorem dX6_init_9 : decode cX6_init 9 = .ok (.putfield 9, 3) := by decide +kernel
theorem dX6_init_12 : decode cX6_init 12 = .ok (.aload_n 0, 1) := by decide +kernel
theorem dX6_init_13 : decode cX6_init 13 = .ok (.bipush 40, 2) := by decide +kernel
theorem dX6_init_15 : decode cX6_init 15 = .ok (.newarray .int, 2) := by decide +kernel
theorem dX6_init_17 : decode cX6_init 17 = .ok (.putfield 15, 3) := by decide +kernel
theorem dX6_init_20 : decode cX6_init 20 = .ok (.return_, 1) := by decide +kernel
theorem dX6_forgetAll_0 : decode cX6_forgetAll 0 = .ok (.aload_n 0, 1) := by decide +kernel
theorem dX6_forgetAll_1 : decode cX6_forgetAll 1 = .ok (.iconst 0, 1) := by decide +kernel
theorem dX6_forgetAll_2 : decode cX6_forgetAll 2 = .ok (.putfield 18, 3) := by decide +kernel
theorem dX6_forgetAll_5 : decode cX6_forgetAll 5 = .ok (.aload_n 0, 1) := by decide +kernel
theorem dX6_forgetAll_6 : decode cX6_forgetAll 6 = .ok (.iconst 0, 1) := by decide +kernel
theorem dX6_forgetAll_7 : decode cX6_forgetAll 7 = .ok (.putfield 22, 3) := by decide +kernel
theorem dX6_forgetAll_10 : decode cX6_forgetAll 10 = .ok (.return_, 1) := by decide +kernel
theorem dX6_dueAt_0 : decode cX6_dueAt 0 = .ok (.iconst 0, 1) := by decide +kernel
theorem dX6_dueAt_1 : decode cX6_dueAt 1 = .ok (.istore_n 2, 1) := by decide +kernel
theorem dX6_dueAt_2 : decode cX6_dueAt 2 = .ok (.iload_n 2, 1) := by decide +kernel
theorem dX6_dueAt_3 : decode cX6_dueAt 3 = .ok (.aload_n 0, 1) := by decide +kernel
theorem dX6_dueAt_4 : decode cX6_dueAt 4 = .ok (.getfield 18, 3) := by decide +kernel
theorem dX6_dueAt_7 : decode cX6_dueAt 7 = .ok (.if_icmp .ge 19, 3) := by decide +kernel
theorem dX6_dueAt_10 : decode cX6_dueAt 10 = .ok (.aload_n 0, 1) := by decide +kernel
theorem dX6_dueAt_11 : decode cX6_dueAt 11 = .ok (.getfield 15, 3) := by decide +kernel
theorem dX6_dueAt_14 : decode cX6_dueAt 14 = .ok (.iload_n 2, 1) := by decide +kernel
theorem dX6_dueAt_15 : decode cX6_dueAt 15 = .ok (.iaload, 1) := by decide +kernel
theorem dX6_dueAt_16 : decode cX6_dueAt 16 = .ok (.iload_n 1, 1) := by decide +kernel
theorem dX6_dueAt_17 : decode cX6_dueAt 17 = .ok (.if_icmp .gt 9, 3) := by decide +kernel
theorem dX6_dueAt_20 : decode cX6_dueAt 20 = .ok (.iinc 2 1, 3) := by decide +kernel
theorem dX6_dueAt_23 : decode cX6_dueAt 23 = .ok (.goto (-21), 3) := by decide +kernel
theorem dX6_dueAt_26 : decode cX6_dueAt 26 = .ok (.iload_n 2, 1) := by decide +kernel
theorem dX6_dueAt_27 : decode cX6_dueAt 27 = .ok (.ireturn, 1) := by decide +kernel
theorem dX6_add_0 : decode cX6_add 0 = .ok (.aload_n 0, 1) := by decide +kernel
theorem dX6_add_1 : decode cX6_add 1 = .ok (.iload_n 2, 1) := by decide +kernel
theorem dX6_add_2 : decode cX6_add 2 = .ok (.invokevirtual 25, 3) := by decide +kernel
theorem dX6_add_5 : decode cX6_add 5 = .ok (.istore_n 3, 1) := by decide +kernel
theorem dX6_add_6 : decode cX6_add 6 = .ok (.aload_n 0, 1) := by decide +kernel
theorem dX6_add_7 : decode cX6_add 7 = .ok (.getfield 9, 3) := by decide +kernel
theorem dX6_add_10 : decode cX6_add 10 = .ok (.iload_n 3, 1) := by decide +kernel
theorem dX6_add_11 : decode cX6_add 11 = .ok (.aload_n 0, 1) := by decide +kernel
theorem dX6_add_12 : decode cX6_add 12 = .ok (.getfield 9, 3) := by decide +kernel
theorem dX6_add_15 : decode cX6_add 15 = .ok (.iload_n 3, 1) := by decide +kernel
theorem dX6_add_16 : decode cX6_add 16 = .ok (.iconst 1, 1) := by decide +kernel
theorem dX6_add_17 : decode cX6_add 17 = .ok (.iadd, 1) := by decide +kernel
theorem dX6_add_18 : decode cX6_add 18 = .ok (.aload_n 0, 1) := by decide +kernel
theorem dX6_add_19 : decode cX6_add 19 = .ok (.getfield 18, 3) := by decide +kernel
theorem dX6_add_22 : decode cX6_add 22 = .ok (.iload_n 3, 1) := by decide +kernel
theorem dX6_add_23 : decode cX6_add 23 = .ok (.isub, 1) := by decide +kernel
theorem dX6_add_24 : decode cX6_add 24 = .ok (.invokestatic 29, 3) := by decide +kernel
theorem dX6_add_27 : decode cX6_add 27 = .ok (.aload_n 0, 1) := by decide +kernel
theorem dX6_add_28 : decode cX6_add 28 = .ok (.getfield 15, 3) := by decide +kernel
theorem dX6_add_31 : decode cX6_add 31 = .ok (.iload_n 3, 1) := by decide +kernel
theorem dX6_add_32 : decode cX6_add 32 = .ok (.aload_n 0, 1) := by decide +kernel
theorem dX6_add_33 : decode cX6_add 33 = .ok (.getfield 15, 3) := by decide +kernel
theorem dX6_add_36 : decode cX6_add 36 = .ok (.iload_n 3, 1) := by decide +kernel
theorem dX6_add_37 : decode cX6_add 37 = .ok (.iconst 1, 1) := by decide +kernel
theorem dX6_add_38 : decode cX6_add 38 = .ok (.iadd, 1) := by decide +kernel
theorem dX6_add_39 : decode cX6_add 39 = .ok (.aload_n 0, 1) := by decide +kernel
theorem dX6_add_40 : decode cX6_add 40 = .ok (.getfield 18, 3) := by decide +kernel
theorem dX6_add_43 : decode cX6_add 43 = .ok (.iload_n 3, 1) := by decide +kernel
theorem dX6_add_44 : decode cX6_add 44 = .ok (.isub, 1) := by decide +kernel
theorem dX6_add_45 : decode cX6_add 45 = .ok (.invokestatic 29, 3) := by decide +kernel
theorem dX6_add_48 : decode cX6_add 48 = .ok (.aload_n 0, 1) := by decide +kernel
theorem dX6_add_49 : decode cX6_add 49 = .ok (.getfield 9, 3) := by decide +kernel
theorem dX6_add_52 : decode cX6_add 52 = .ok (.iload_n 3, 1) := by decide +kernel
theorem dX6_add_53 : decode cX6_add 53 = .ok (.iload_n 1, 1) := by decide +kernel
theorem dX6_add_54 : decode cX6_add 54 = .ok (.iastore, 1) := by decide +kernel
theorem dX6_add_55 : decode cX6_add 55 = .ok (.aload_n 0, 1) := by decide +kernel
theorem dX6_add_56 : decode cX6_add 56 = .ok (.getfield 15, 3) := by decide +kernel
theorem dX6_add_59 : decode cX6_add 59 = .ok (.iload_n 3, 1) := by decide +kernel
theorem dX6_add_60 : decode cX6_add 60 = .ok (.iload_n 2, 1) := by decide +kernel
theorem dX6_add_61 : decode cX6_add 61 = .ok (.iastore, 1) := by decide +kernel
theorem dX6_add_62 : decode cX6_add 62 = .ok (.aload_n 0, 1) := by decide +kernel
theorem dX6_add_63 : decode cX6_add 63 = .ok (.dup, 1) := by decide +kernel
theorem dX6_add_64 : decode cX6_add 64 = .ok (.getfield 18, 3) := by decide +kernel
theorem dX6_add_67 : decode cX6_add 67 = .ok (.iconst 1, 1) := by decide +kernel
theorem dX6_add_68 : decode cX6_add 68 = .ok (.iadd, 1) := by decide +kernel
theorem dX6_add_69 : decode cX6_add 69 = .ok (.putfield 18, 3) := by decide +kernel
theorem dX6_add_72 : decode cX6_add 72 = .ok (.return_, 1) := by decide +kernel
theorem dX6_dropFirst_0 : decode cX6_dropFirst 0 = .ok (.aload_n 0, 1) := by decide +kernel
theorem dX6_dropFirst_1 : decode cX6_dropFirst 1 = .ok (.dup, 1) := by decide +kernel
theorem dX6_dropFirst_2 : decode cX6_dropFirst 2 = .ok (.getfield 18, 3) := by decide +kernel
theorem dX6_dropFirst_5 : decode cX6_dropFirst 5 = .ok (.iload_n 1, 1) := by decide +kernel
theorem dX6_dropFirst_6 : decode cX6_dropFirst 6 = .ok (.isub, 1) := by decide +kernel
theorem dX6_dropFirst_7 : decode cX6_dropFirst 7 = .ok (.putfield 18, 3) := by decide +kernel
theorem dX6_dropFirst_10 : decode cX6_dropFirst 10 = .ok (.aload_n 0, 1) := by decide +kernel
theorem dX6_dropFirst_11 : decode cX6_dropFirst 11 = .ok (.getfield 9, 3) := by decide +kernel
theorem dX6_dropFirst_14 : decode cX6_dropFirst 14 = .ok (.iload_n 1, 1) := by decide +kernel
theorem dX6_dropFirst_15 : decode cX6_dropFirst 15 = .ok (.aload_n 0, 1) := by decide +kernel
theorem dX6_dropFirst_16 : decode cX6_dropFirst 16 = .ok (.getfield 9, 3) := by decide +kernel
theorem dX6_dropFirst_19 : decode cX6_dropFirst 19 = .ok (.iconst 0, 1) := by decide +kernel
theorem dX6_dropFirst_20 : decode cX6_dropFirst 20 = .ok (.aload_n 0, 1) := by decide +kernel
theorem dX6_dropFirst_21 : decode cX6_dropFirst 21 = .ok (.getfield 18, 3) := by decide +kernel
theorem dX6_dropFirst_24 : decode cX6_dropFirst 24 = .ok (.invokestatic 29, 3) := by decide +kernel
theorem dX6_dropFirst_27 : decode cX6_dropFirst 27 = .ok (.aload_n 0, 1) := by decide +kernel
theorem dX6_dropFirst_28 : decode cX6_dropFirst 28 = .ok (.getfield 15, 3) := by decide +kernel
theorem dX6_dropFirst_31 : decode cX6_dropFirst 31 = .ok (.iload_n 1, 1) := by decide +kernel
theorem dX6_dropFirst_32 : decode cX6_dropFirst 32 = .ok (.aload_n 0, 1) := by decide +kernel
theorem dX6_dropFirst_33 : decode cX6_dropFirst 33 = .ok (.getfield 15, 3) := by decide +kernel
theorem dX6_dropFirst_36 : decode cX6_dropFirst 36 = .ok (.iconst 0, 1) := by decide +kernel
theorem dX6_dropFirst_37 : decode cX6_dropFirst 37 = .ok (.aload_n 0, 1) := by decide +kernel
theorem dX6_dropFirst_38 : decode cX6_dropFirst 38 = .ok (.getfield 18, 3) := by decide +kernel
theorem dX6_dropFirst_41 : decode cX6_dropFirst 41 = .ok (.invokestatic 29, 3) := by decide +kernel
theorem dX6_dropFirst_44 : decode cX6_dropFirst 44 = .ok (.return_, 1) := by decide +kernel
theorem dX6_copyFrom_0 : decode cX6_copyFrom 0 = .ok (.aload_n 1, 1) := by decide +kernel
theorem dX6_copyFrom_1 : decode cX6_copyFrom 1 = .ok (.getfield 9, 3) := by decide +kernel
theorem dX6_copyFrom_4 : decode cX6_copyFrom 4 = .ok (.iconst 0, 1) := by decide +kernel
theorem dX6_copyFrom_5 : decode cX6_copyFrom 5 = .ok (.aload_n 0, 1) := by decide +kernel
theorem dX6_copyFrom_6 : decode cX6_copyFrom 6 = .ok (.getfield 9, 3) := by decide +kernel
theorem dX6_copyFrom_9 : decode cX6_copyFrom 9 = .ok (.iconst 0, 1) := by decide +kernel
theorem dX6_copyFrom_10 : decode cX6_copyFrom 10 = .ok (.aload_n 1, 1) := by decide +kernel
theorem dX6_copyFrom_11 : decode cX6_copyFrom 11 = .ok (.getfield 18, 3) := by decide +kernel
theorem dX6_copyFrom_14 : decode cX6_copyFrom 14 = .ok (.invokestatic 29, 3) := by decide +kernel
theorem dX6_copyFrom_17 : decode cX6_copyFrom 17 = .ok (.aload_n 1, 1) := by decide +kernel
theorem dX6_copyFrom_18 : decode cX6_copyFrom 18 = .ok (.getfield 15, 3) := by decide +kernel
theorem dX6_copyFrom_21 : decode cX6_copyFrom 21 = .ok (.iconst 0, 1) := by decide +kernel
theorem dX6_copyFrom_22 : decode cX6_copyFrom 22 = .ok (.aload_n 0, 1) := by decide +kernel
theorem dX6_copyFrom_23 : decode cX6_copyFrom 23 = .ok (.getfield 15, 3) := by decide +kernel
theorem dX6_copyFrom_26 : decode cX6_copyFrom 26 = .ok (.iconst 0, 1) := by decide +kernel
theorem dX6_copyFrom_27 : decode cX6_copyFrom 27 = .ok (.aload_n 1, 1) := by decide +kernel
theorem dX6_copyFrom_28 : decode cX6_copyFrom 28 = .ok (.getfield 18, 3) := by decide +kernel
theorem dX6_copyFrom_31 : decode cX6_copyFrom 31 = .ok (.invokestatic 29, 3) := by decide +kernel
theorem dX6_copyFrom_34 : decode cX6_copyFrom 34 = .ok (.aload_n 0, 1) := by decide +kernel
theorem dX6_copyFrom_35 : decode cX6_copyFrom 35 = .ok (.aload_n 1, 1) := by decide +kernel
theorem dX6_copyFrom_36 : decode cX6_copyFrom 36 = .ok (.getfield 18, 3) := by decide +kernel
theorem dX6_copyFrom_39 : decode cX6_copyFrom 39 = .ok (.putfield 18, 3) := by decide +kernel
theorem dX6_copyFrom_42 : decode cX6_copyFrom 42 = .ok (.aload_n 0, 1) := by decide +kernel
theorem dX6_copyFrom_43 : decode cX6_copyFrom 43 = .ok (.aload_n 1, 1) := by decide +kernel
theorem dX6_copyFrom_44 : decode cX6_copyFrom 44 = .ok (.getfield 22, 3) := by decide +kernel
theorem dX6_copyFrom_47 : decode cX6_copyFrom 47 = .ok (.putfield 22, 3) := by decide +kernel
theorem dX6_copyFrom_50 : decode cX6_copyFrom 50 = .ok (.return_, 1) := by decide +kernel
end
section
theorem dX7_init_0 : decode cX7_init 0 = .ok (.aload_n 0, 1) := by decide +kernel
theorem dX7_init_1 : decode cX7_init 1 = .ok (.invokespecial 3, 3) := by decide +kernel
theorem dX7_init_4 : decode cX7_init 4 = .ok (.aload_n 0, 1) := by decide +kernel
theorem dX7_init_5 : decode cX7_init 5 = .ok (.new 9, 3) := by decide +kernel
theorem dX7_init_8 : decode cX7_init 8 = .ok (.dup, 1) := by decide +kernel
theorem dX7_init_9 : decode cX7_init 9 = .ok (.invokespecial 11, 3) := by decide +kernel
theorem dX7_init_12 : decode cX7_init 12 = .ok (.putfield 12, 3) := by decide +kernel
theorem dX7_init_15 : decode cX7_init 15 = .ok (.aload_n 0, 1) := by decide +kernel
theorem dX7_init_16 : decode cX7_init 16 = .ok (.new 16, 3) := by decide +kernel
theorem dX7_init_19 : decode cX7_init 19 = .ok (.dup, 1) := by decide +kernel
theorem dX7_init_20 : decode cX7_init 20 = .ok (.aload_n 0, 1) := by decide +kernel
theorem dX7_init_21 : decode cX7_init 21 = .ok (.getfield 12, 3) := by decide +kernel
theorem dX7_init_24 : decode cX7_init 24 = .ok (.invokespecial 18, 3) := by decide +kernel
theorem dX7_init_27 : decode cX7_init 27 = .ok (.putfield 21, 3) := by decide +kernel
theorem dX7_init_30 : decode cX7_init 30 = .ok (.aload_n 0, 1) := by decide +kernel
theorem dX7_init_31 : decode cX7_init 31 = .ok (.new 25, 3) := by decide +kernel
theorem dX7_init_34 : decode cX7_init 34 = .ok (.dup, 1) := by decide +kernel
theorem dX7_init_35 : decode cX7_init 35 = .ok (.invokespecial 27, 3) := by decide +kernel
theorem dX7_init_38 : decode cX7_init 38 = .ok (.putfield 28, 3) := by decide +kernel
theorem dX7_init_41 : decode cX7_init 41 = .ok (.aload_n 0, 1) := by decide +kernel
theorem dX7_init_42 : decode cX7_init 42 = .ok (.new 32, 3) := by decide +kernel
theorem dX7_init_45 : decode cX7_init 45 = .ok (.dup, 1) := by decide +kernel
theorem dX7_init_46 : decode cX7_init 46 = .ok (.invokespecial 34, 3) := by decide +kernel
theorem dX7_init_49 : decode cX7_init 49 = .ok (.putfield 35, 3) := by decide +kernel
theorem dX7_init_52 : decode cX7_init 52 = .ok (.aload_n 0, 1) := by decide +kernel
theorem dX7_init_53 : decode cX7_init 53 = .ok (.new 39, 3) := by decide +kernel
theorem dX7_init_56 : decode cX7_init 56 = .ok (.dup, 1) := by decide +kernel
theorem dX7_init_57 : decode cX7_init 57 = .ok (.invokespecial 41, 3) := by decide +kernel
theorem dX7_init_60 : decode cX7_init 60 = .ok (.putfield 42, 3) := by decide +kernel
theorem dX7_init_63 : decode cX7_init 63 = .ok (.aload_n 0, 1) := by decide +kernel
theorem dX7_init_64 : decode cX7_init 64 = .ok (.new 46, 3) := by decide +kernel
theorem dX7_init_67 : decode cX7_init 67 = .ok (.dup, 1) := by decide +kernel
theorem dX7_init_68 : decode cX7_init 68 = .ok (.invokespecial 48, 3) := by decide +kernel
theorem dX7_init_71 : decode cX7_init 71 = .ok (.putfield 49, 3) := by decide +kernel
theorem dX7_init_74 : decode cX7_init 74 = .ok (.aload_n 0, 1) := by decide +kernel
theorem dX7_init_75 : decode cX7_init 75 = .ok (.iconst 4, 1) := by decide +kernel
theorem dX7_init_76 : decode cX7_init 76 = .ok (.anewarray 53, 3) := by decide +kernel
theorem dX7_init_79 : decode cX7_init 79 = .ok (.putfield 55, 3) := by decide +kernel
theorem dX7_init_82 : decode cX7_init 82 = .ok (.aload_n 0, 1) := by decide +kernel
theorem dX7_init_83 : decode cX7_init 83 = .ok (.bipush 8, 2) := by decide +kernel
theorem dX7_init_85 : decode cX7_init 85 = .ok (.newarray .int, 2) := by decide +kernel
theorem dX7_init_87 : decode cX7_init 87 = .ok (.putfield 59, 3) := by decide +kernel
theorem dX7_init_90 : decode cX7_init 90 = .ok (.aload_n 0, 1) := by decide +kernel
theorem dX7_init_91 : decode cX7_init 91 = .ok (.invokevirtual 63, 3) := by decide +kernel
theorem dX7_init_94 : decode cX7_init 94 = .ok (.return_, 1) := by decide +kernel
theorem dX7_shape_0 : decode cX7_shape 0 = .ok (.iload_n 1, 1) := by decide +kernel
theorem dX7_shape_1 : decode cX7_shape 1 = .ok (.iconst 2, 1) := by decide +kernel
theorem dX7_shape_2 : decode cX7_shape 2 = .ok (.bipush 8, 2) := by decide +kernel
theorem dX7_shape_4 : decode cX7_shape 4 = .ok (.invokestatic 66, 3) := by decide +kernel
theorem dX7_shape_7 : decode cX7_shape 7 = .ok (.ifCond .eq 47, 3) := by decide +kernel
theorem dX7_shape_10 : decode cX7_shape 10 = .ok (.iload_n 2, 1) := by decide +kernel
theorem dX7_shape_11 : decode cX7_shape 11 = .ok (.bipush 8, 2) := by decide +kernel
theorem dX7_shape_13 : decode cX7_shape 13 = .ok (.sipush 200, 3) := by decide +kernel
theorem dX7_shape_16 : decode cX7_shape 16 = .ok (.invokestatic 66, 3) := by decide +kernel
theorem dX7_shape_19 : decode cX7_shape 19 = .ok (.ifCond .eq 35, 3) := by decide +kernel
theorem dX7_shape_22 : decode cX7_shape 22 = .ok (.iload_n 3, 1) := by decide +kernel
theorem dX7_shape_23 : decode cX7_shape 23 = .ok (.iconst 1, 1) := by decide +kernel
theorem dX7_shape_24 : decode cX7_shape 24 = .ok (.iload_n 2, 1) := by decide +kernel
theorem dX7_shape_25 : decode cX7_shape 25 = .ok (.invokestatic 66, 3) := by decide +kernel
theorem dX7_shape_28 : decode cX7_shape 28 = .ok (.ifCond .eq 26, 3) := by decide +kernel
theorem dX7_shape_31 : decode cX7_shape 31 = .ok (.iload 4, 2) := by decide +kernel
theorem dX7_shape_33 : decode cX7_shape 33 = .ok (.iconst 0, 1) := by decide +kernel
theorem dX7_shape_34 : decode cX7_shape 34 = .ok (.iload_n 3, 1) := by decide +kernel
theorem dX7_shape_35 : decode cX7_shape 35 = .ok (.iconst 1, 1) := by decide +kernel
theorem dX7_shape_36 : decode cX7_shape 36 = .ok (.isub, 1) := by decide +kernel
theorem dX7_shape_37 : decode cX7_shape 37 = .ok (.invokestatic 66, 3) := by decide +kernel
theorem dX7_shape_40 : decode cX7_shape 40 = .ok (.ifCond .eq 14, 3) := by decide +kernel
theorem dX7_shape_43 : decode cX7_shape 43 = .ok (.iload 5, 2) := by decide +kernel
theorem dX7_shape_45 : decode cX7_shape 45 = .ok (.iconst 1, 1) := by decide +kernel
theorem dX7_shape_46 : decode cX7_shape 46 = .ok (.bipush 12, 2) := by decide +kernel
theorem dX7_shape_48 : decode cX7_shape 48 = .ok (.invokestatic 66, 3) := by decide +kernel
theorem dX7_shape_51 : decode cX7_shape 51 = .ok (.ifCond .ne 6, 3) := by decide +kernel
theorem dX7_shape_54 : decode cX7_shape 54 = .ok (.bipush (-102), 2) := by decide +kernel
theorem dX7_shape_56 : decode cX7_shape 56 = .ok (.ireturn, 1) := by decide +kernel
theorem dX7_shape_57 : decode cX7_shape 57 = .ok (.aload_n 0, 1) := by decide +kernel
theorem dX7_shape_58 : decode cX7_shape 58 = .ok (.getfield 70, 3) := by decide +kernel
theorem dX7_shape_61 : decode cX7_shape 61 = .ok (.ifCond .le 6, 3) := by decide +kernel
theorem dX7_shape_64 : decode cX7_shape 64 = .ok (.bipush (-103), 2) := by decide +kernel
theorem dX7_shape_66 : decode cX7_shape 66 = .ok (.ireturn, 1) := by decide +kernel
theorem dX7_shape_67 : decode cX7_shape 67 = .ok (.aload_n 0, 1) := by decide +kernel
theorem dX7_shape_68 : decode cX7_shape 68 = .ok (.iload_n 1, 1) := by decide +kernel
theorem dX7_shape_69 : decode cX7_shape 69 = .ok (.iload_n 2, 1) := by decide +kernel
theorem dX7_shape_70 : decode cX7_shape 70 = .ok (.iload_n 3, 1) := by decide +kernel
theorem dX7_shape_71 : decode cX7_shape 71 = .ok (.iload 4, 2) := by decide +kernel
theorem dX7_shape_73 : decode cX7_shape 73 = .ok (.iload 5, 2) := by decide +kernel
theorem dX7_shape_75 : decode cX7_shape 75 = .ok (.invokevirtual 74, 3) := by decide +kernel
theorem dX7_shape_78 : decode cX7_shape 78 = .ok (.aload_n 0, 1) := by decide +kernel
theorem dX7_shape_79 : decode cX7_shape 79 = .ok (.getfield 21, 3) := by decide +kernel
theorem dX7_shape_82 : decode cX7_shape 82 = .ok (.invokevirtual 78, 3) := by decide +kernel
theorem dX7_shape_85 : decode cX7_shape 85 = .ok (.iconst 1, 1) := by decide +kernel
theorem dX7_shape_86 : decode cX7_shape 86 = .ok (.ireturn, 1) := by decide +kernel
theorem dX7_fold_0 : decode cX7_fold 0 = .ok (.iload_n 1, 1) := by decide +kernel
theorem dX7_fold_1 : decode cX7_fold 1 = .ok (.iconst 0, 1) := by decide +kernel
theorem dX7_fold_2 : decode cX7_fold 2 = .ok (.bipush 7, 2) := by decide +kernel
theorem dX7_fold_4 : decode cX7_fold 4 = .ok (.invokestatic 66, 3) := by decide +kernel
theorem dX7_fold_7 : decode cX7_fold 7 = .ok (.ifCond .ne 6, 3) := by decide +kernel
theorem dX7_fold_10 : decode cX7_fold 10 = .ok (.bipush (-102), 2) := by decide +kernel
theorem dX7_fold_12 : decode cX7_fold 12 = .ok (.ireturn, 1) := by decide +kernel
theorem dX7_fold_13 : decode cX7_fold 13 = .ok (.aload_n 0, 1) := by decide +kernel
theorem dX7_fold_14 : decode cX7_fold 14 = .ok (.getfield 70, 3) := by decide +kernel
theorem dX7_fold_17 : decode cX7_fold 17 = .ok (.ifCond .gt 20, 3) := by decide +kernel
theorem dX7_fold_20 : decode cX7_fold 20 = .ok (.aload_n 0, 1) := by decide +kernel
theorem dX7_fold_21 : decode cX7_fold 21 = .ok (.getfield 81, 3) := by decide +kernel
theorem dX7_fold_24 : decode cX7_fold 24 = .ok (.ifCond .gt 13, 3) := by decide +kernel
theorem dX7_fold_27 : decode cX7_fold 27 = .ok (.aload_n 0, 1) := by decide +kernel
theorem dX7_fold_28 : decode cX7_fold 28 = .ok (.getfield 21, 3) := by decide +kernel
theorem dX7_fold_31 : decode cX7_fold 31 = .ok (.invokevirtual 84, 3) := by decide +kernel
theorem dX7_fold_34 : decode cX7_fold 34 = .ok (.ifCond .le 6, 3) := by decide +kernel
theorem dX7_fold_37 : decode cX7_fold 37 = .ok (.bipush (-103), 2) := by decide +kernel
theorem dX7_fold_39 : decode cX7_fold 39 = .ok (.ireturn, 1) := by decide +kernel
theorem dX7_fold_40 : decode cX7_fold 40 = .ok (.aload_n 0, 1) := by decide +kernel
theorem dX7_fold_41 : decode cX7_fold 41 = .ok (.getfield 12, 3) := by decide +kernel
theorem dX7_fold_44 : decode cX7_fold 44 = .ok (.getfield 88, 3) := by decide +kernel
theorem dX7_fold_47 : decode cX7_fold 47 = .ok (.bipush 6, 2) := by decide +kernel
theorem dX7_fold_49 : decode cX7_fold 49 = .ok (.if_icmp .lt 6, 3) := by decide +kernel
theorem dX7_fold_52 : decode cX7_fold 52 = .ok (.bipush (-104), 2) := by decide +kernel
theorem dX7_fold_54 : decode cX7_fold 54 = .ok (.ireturn, 1) := by decide +kernel
theorem dX7_fold_55 : decode cX7_fold 55 = .ok (.aload_n 0, 1) := by decide +kernel
theorem dX7_fold_56 : decode cX7_fold 56 = .ok (.getfield 12, 3) := by decide +kernel
theorem dX7_fold_59 : decode cX7_fold 59 = .ok (.iload_n 1, 1) := by decide +kernel
theorem dX7_fold_60 : decode cX7_fold 60 = .ok (.iload_n 2, 1) := by decide +kernel
theorem dX7_fold_61 : decode cX7_fold 61 = .ok (.invokevirtual 91, 3) := by decide +kernel
theorem dX7_fold_64 : decode cX7_fold 64 = .ok (.istore_n 3, 1) := by decide +kernel
theorem dX7_fold_65 : decode cX7_fold 65 = .ok (.aload_n 0, 1) := by decide +kernel
theorem dX7_fold_66 : decode cX7_fold 66 = .ok (.getfield 21, 3) := by decide +kernel
theorem dX7_fold_69 : decode cX7_fold 69 = .ok (.iload_n 3, 1) := by decide +kernel
theorem dX7_fold_70 : decode cX7_fold 70 = .ok (.invokevirtual 95, 3) := by decide +kernel
theorem dX7_fold_73 : decode cX7_fold 73 = .ok (.iload_n 3, 1) := by decide +kernel
theorem dX7_fold_74 : decode cX7_fold 74 = .ok (.ireturn, 1) := by decide +kernel
theorem dX7_row_0 : decode cX7_row 0 = .ok (.iload_n 1, 1) := by decide +kernel
theorem dX7_row_1 : decode cX7_row 1 = .ok (.invokestatic 99, 3) := by decide +kernel
theorem dX7_row_4 : decode cX7_row 4 = .ok (.ifCond .ne 6, 3) := by decide +kernel
theorem dX7_row_7 : decode cX7_row 7 = .ok (.bipush (-101), 2) := by decide +kernel
theorem dX7_row_9 : decode cX7_row 9 = .ok (.ireturn, 1) := by decide +kernel
theorem dX7_row_10 : decode cX7_row 10 = .ok (.iload_n 2, 1) := by decide +kernel
theorem dX7_row_11 : decode cX7_row 11 = .ok (.sipush (-1000), 3) := by decide +kernel
theorem dX7_row_14 : decode cX7_row 14 = .ok (.sipush 1000, 3) := by decide +kernel
theorem dX7_row_17 : decode cX7_row 17 = .ok (.invokestatic 66, 3) := by decide +kernel
theorem dX7_row_20 : decode cX7_row 20 = .ok (.ifCond .ne 6, 3) := by decide +kernel
theorem dX7_row_23 : decode cX7_row 23 = .ok (.bipush (-102), 2) := by decide +kernel
theorem dX7_row_25 : decode cX7_row 25 = .ok (.ireturn, 1) := by decide +kernel
theorem dX7_row_26 : decode cX7_row 26 = .ok (.aload_n 0, 1) := by decide +kernel
theorem dX7_row_27 : decode cX7_row 27 = .ok (.getfield 70, 3) := by decide +kernel
theorem dX7_row_30 : decode cX7_row 30 = .ok (.sipush 450, 3) := by decide +kernel
theorem dX7_row_33 : decode cX7_row 33 = .ok (.if_icmp .lt 6, 3) := by decide +kernel
theorem dX7_row_36 : decode cX7_row 36 = .ok (.bipush (-104), 2) := by decide +kernel
theorem dX7_row_38 : decode cX7_row 38 = .ok (.ireturn, 1) := by decide +kernel
theorem dX7_row_39 : decode cX7_row 39 = .ok (.aload_n 0, 1) := by decide +kernel
theorem dX7_row_40 : decode cX7_row 40 = .ok (.getfield 70, 3) := by decide +kernel
theorem dX7_row_43 : decode cX7_row 43 = .ok (.aload_n 0, 1) := by decide +kernel
theorem dX7_row_44 : decode cX7_row 44 = .ok (.getfield 21, 3) := by decide +kernel
theorem dX7_row_47 : decode cX7_row 47 = .ok (.iload_n 1, 1) := by decide +kernel
theorem dX7_row_48 : decode cX7_row 48 = .ok (.invokevirtual 103, 3) := by decide +kernel
theorem dX7_row_51 : decode cX7_row 51 = .ok (.invokestatic 107, 3) := by decide +kernel
theorem dX7_row_54 : decode cX7_row 54 = .ok (.istore_n 3, 1) := by decide +kernel
theorem dX7_row_55 : decode cX7_row 55 = .ok (.aload_n 0, 1) := by decide +kernel
theorem dX7_row_56 : decode cX7_row 56 = .ok (.iload_n 1, 1) := by decide +kernel
theorem dX7_row_57 : decode cX7_row 57 = .ok (.iload_n 3, 1) := by decide +kernel
theorem dX7_row_58 : decode cX7_row 58 = .ok (.invokevirtual 111, 3) := by decide +kernel
theorem dX7_row_61 : decode cX7_row 61 = .ok (.istore 4, 2) := by decide +kernel
theorem dX7_row_63 : decode cX7_row 63 = .ok (.aload_n 0, 1) := by decide +kernel
theorem dX7_row_64 : decode cX7_row 64 = .ok (.getfield 21, 3) := by decide +kernel
theorem dX7_row_67 : decode cX7_row 67 = .ok (.iload_n 1, 1) := by decide +kernel
theorem dX7_row_68 : decode cX7_row 68 = .ok (.iload_n 3, 1) := by decide +kernel
theorem dX7_row_69 : decode cX7_row 69 = .ok (.aload_n 0, 1) := by decide +kernel
theorem dX7_row_70 : decode cX7_row 70 = .ok (.getfield 70, 3) := by decide +kernel
theorem dX7_row_73 : decode cX7_row 73 = .ok (.iload_n 2, 1) := by decide +kernel
theorem dX7_row_74 : decode cX7_row 74 = .ok (.invokevirtual 114, 3) := by decide +kernel
theorem dX7_row_77 : decode cX7_row 77 = .ok (.aload_n 0, 1) := by decide +kernel
theorem dX7_row_78 : decode cX7_row 78 = .ok (.getfield 35, 3) := by decide +kernel
theorem dX7_row_81 : decode cX7_row 81 = .ok (.iload_n 1, 1) := by decide +kernel
theorem dX7_row_82 : decode cX7_row 82 = .ok (.iload_n 2, 1) := by decide +kernel
theorem dX7_row_83 : decode cX7_row 83 = .ok (.invokevirtual 118, 3) := by decide +kernel
theorem dX7_row_86 : decode cX7_row 86 = .ok (.aload_n 0, 1) := by decide +kernel
theorem dX7_row_87 : decode cX7_row 87 = .ok (.getfield 59, 3) := by decide +kernel
theorem dX7_row_90 : decode cX7_row 90 = .ok (.iload 4, 2) := by decide +kernel
theorem dX7_row_92 : decode cX7_row 92 = .ok (.dup2, 1) := by decide +kernel
theorem dX7_row_93 : decode cX7_row 93 = .ok (.iaload, 1) := by decide +kernel
theorem dX7_row_94 : decode cX7_row 94 = .ok (.iconst 1, 1) := by decide +kernel
theorem dX7_row_95 : decode cX7_row 95 = .ok (.iadd, 1) := by decide +kernel
theorem dX7_row_96 : decode cX7_row 96 = .ok (.iastore, 1) := by decide +kernel
theorem dX7_row_97 : decode cX7_row 97 = .ok (.aload_n 0, 1) := by decide +kernel
theorem dX7_row_98 : decode cX7_row 98 = .ok (.dup, 1) := by decide +kernel
theorem dX7_row_99 : decode cX7_row 99 = .ok (.getfield 70, 3) := by decide +kernel
theorem dX7_row_102 : decode cX7_row 102 = .ok (.iconst 1, 1) := by decide +kernel
theorem dX7_row_103 : decode cX7_row 103 = .ok (.iadd, 1) := by decide +kernel
theorem dX7_row_104 : decode cX7_row 104 = .ok (.putfield 70, 3) := by decide +kernel
theorem dX7_row_107 : decode cX7_row 107 = .ok (.aload_n 0, 1) := by decide +kernel
theorem dX7_row_108 : decode cX7_row 108 = .ok (.dup, 1) := by decide +kernel
theorem dX7_row_109 : decode cX7_row 109 = .ok (.getfield 122, 3) := by decide +kernel
theorem dX7_row_112 : decode cX7_row 112 = .ok (.iconst 1, 1) := by decide +kernel
theorem dX7_row_113 : decode cX7_row 113 = .ok (.iadd, 1) := by decide +kernel
theorem dX7_row_114 : decode cX7_row 114 = .ok (.putfield 122, 3) := by decide +kernel
theorem dX7_row_117 : decode cX7_row 117 = .ok (.aload_n 0, 1) := by decide +kernel
theorem dX7_row_118 : decode cX7_row 118 = .ok (.getfield 28, 3) := by decide +kernel
theorem dX7_row_121 : decode cX7_row 121 = .ok (.iload_n 1, 1) := by decide +kernel
theorem dX7_row_122 : decode cX7_row 122 = .ok (.invokevirtual 125, 3) := by decide +kernel
theorem dX7_row_125 : decode cX7_row 125 = .ok (.aload_n 0, 1) := by decide +kernel
theorem dX7_row_126 : decode cX7_row 126 = .ok (.getfield 122, 3) := by decide +kernel
theorem dX7_row_129 : decode cX7_row 129 = .ok (.aload_n 0, 1) := by decide +kernel
theorem dX7_row_130 : decode cX7_row 130 = .ok (.getfield 127, 3) := by decide +kernel
theorem dX7_row_133 : decode cX7_row 133 = .ok (.if_icmp .lt 7, 3) := by decide +kernel
theorem dX7_row_136 : decode cX7_row 136 = .ok (.aload_n 0, 1) := by decide +kernel
theorem dX7_row_137 : decode cX7_row 137 = .ok (.invokevirtual 130, 3) := by decide +kernel
theorem dX7_row_140 : decode cX7_row 140 = .ok (.iload 4, 2) := by decide +kernel
theorem dX7_row_142 : decode cX7_row 142 = .ok (.ireturn, 1) := by decide +kernel
theorem dX7_state_0 : decode cX7_state 0 = .ok (.aload_n 0, 1) := by decide +kernel
theorem dX7_state_1 : decode cX7_state 1 = .ok (.iload_n 1, 1) := by decide +kernel
theorem dX7_state_2 : decode cX7_state 2 = .ok (.invokevirtual 133, 3) := by decide +kernel
theorem dX7_state_5 : decode cX7_state 5 = .ok (.ifCond .eq 10, 3) := by decide +kernel
theorem dX7_state_8 : decode cX7_state 8 = .ok (.iload_n 2, 1) := by decide +kernel
theorem dX7_state_9 : decode cX7_state 9 = .ok (.invokestatic 99, 3) := by decide +kernel
theorem dX7_state_12 : decode cX7_state 12 = .ok (.ifCond .ne 7, 3) := by decide +kernel
theorem dX7_state_15 : decode cX7_state 15 = .ok (.ldc2_w 136, 3) := by decide +kernel
theorem dX7_state_18 : decode cX7_state 18 = .ok (.lreturn, 1) := by decide +kernel
theorem dX7_state_19 : decode cX7_state 19 = .ok (.aload_n 0, 1) := by decide +kernel
theorem dX7_state_20 : decode cX7_state 20 = .ok (.getfield 21, 3) := by decide +kernel
theorem dX7_state_23 : decode cX7_state 23 = .ok (.iload_n 2, 1) := by decide +kernel
theorem dX7_state_24 : decode cX7_state 24 = .ok (.iload_n 1, 1) := by decide +kernel
theorem dX7_state_25 : decode cX7_state 25 = .ok (.invokevirtual 138, 3) := by decide +kernel
theorem dX7_state_28 : decode cX7_state 28 = .ok (.lreturn, 1) := by decide +kernel
theorem dX7_part_0 : decode cX7_part 0 = .ok (.aload_n 0, 1) := by decide +kernel
theorem dX7_part_1 : decode cX7_part 1 = .ok (.iload_n 1, 1) := by decide +kernel
theorem dX7_part_2 : decode cX7_part 2 = .ok (.invokevirtual 133, 3) := by decide +kernel
theorem dX7_part_5 : decode cX7_part 5 = .ok (.ifCond .eq 22, 3) := by decide +kernel
theorem dX7_part_8 : decode cX7_part 8 = .ok (.iload_n 2, 1) := by decide +kernel
theorem dX7_part_9 : decode cX7_part 9 = .ok (.invokestatic 99, 3) := by decide +kernel
theorem dX7_part_12 : decode cX7_part 12 = .ok (.ifCond .eq 15, 3) := by decide +kernel
theorem dX7_part_15 : decode cX7_part 15 = .ok (.aload_n 0, 1) := by decide +kernel
theorem dX7_part_16 : decode cX7_part 16 = .ok (.getfield 21, 3) := by decide +kernel
theorem dX7_part_19 : decode cX7_part 19 = .ok (.iload_n 2, 1) := by decide +kernel
theorem dX7_part_20 : decode cX7_part 20 = .ok (.iload_n 3, 1) := by decide +kernel
theorem dX7_part_21 : decode cX7_part 21 = .ok (.invokevirtual 142, 3) := by decide +kernel
theorem dX7_part_24 : decode cX7_part 24 = .ok (.ifCond .ne 7, 3) := by decide +kernel
theorem dX7_part_27 : decode cX7_part 27 = .ok (.ldc2_w 136, 3) := by decide +kernel
theorem dX7_part_30 : decode cX7_part 30 = .ok (.lreturn, 1) := by decide +kernel
theorem dX7_part_31 : decode cX7_part 31 = .ok (.aload_n 0, 1) := by decide +kernel
theorem dX7_part_32 : decode cX7_part 32 = .ok (.getfield 21, 3) := by decide +kernel
theorem dX7_part_35 : decode cX7_part 35 = .ok (.iload_n 2, 1) := by decide +kernel
theorem dX7_part_36 : decode cX7_part 36 = .ok (.iload_n 3, 1) := by decide +kernel
theorem dX7_part_37 : decode cX7_part 37 = .ok (.iload_n 1, 1) := by decide +kernel
theorem dX7_part_38 : decode cX7_part 38 = .ok (.invokevirtual 146, 3) := by decide +kernel
theorem dX7_part_41 : decode cX7_part 41 = .ok (.lreturn, 1) := by decide +kernel
theorem dX7_parts_0 : decode cX7_parts 0 = .ok (.iload_n 1, 1) := by decide +kernel
theorem dX7_parts_1 : decode cX7_parts 1 = .ok (.invokestatic 99, 3) := by decide +kernel
theorem dX7_parts_4 : decode cX7_parts 4 = .ok (.ifCond .eq 14, 3) := by decide +kernel
theorem dX7_parts_7 : decode cX7_parts 7 = .ok (.aload_n 0, 1) := by decide +kernel
theorem dX7_parts_8 : decode cX7_parts 8 = .ok (.getfield 21, 3) := by decide +kernel
theorem dX7_parts_11 : decode cX7_parts 11 = .ok (.iload_n 1, 1) := by decide +kernel
theorem dX7_parts_12 : decode cX7_parts 12 = .ok (.invokevirtual 103, 3) := by decide +kernel
theorem dX7_parts_15 : decode cX7_parts 15 = .ok (.goto 5, 3) := by decide +kernel
theorem dX7_parts_18 : decode cX7_parts 18 = .ok (.bipush (-101), 2) := by decide +kernel
theorem dX7_parts_20 : decode cX7_parts 20 = .ok (.ireturn, 1) := by decide +kernel
theorem dX7_place_0 : decode cX7_place 0 = .ok (.iload_n 1, 1) := by decide +kernel
theorem dX7_place_1 : decode cX7_place 1 = .ok (.invokestatic 99, 3) := by decide +kernel
theorem dX7_place_4 : decode cX7_place 4 = .ok (.ifCond .ne 6, 3) := by decide +kernel
theorem dX7_place_7 : decode cX7_place 7 = .ok (.bipush (-101), 2) := by decide +kernel
theorem dX7_place_9 : decode cX7_place 9 = .ok (.ireturn, 1) := by decide +kernel
theorem dX7_place_10 : decode cX7_place 10 = .ok (.aload_n 0, 1) := by decide +kernel
theorem dX7_place_11 : decode cX7_place 11 = .ok (.getfield 21, 3) := by decide +kernel
theorem dX7_place_14 : decode cX7_place 14 = .ok (.iload_n 1, 1) := by decide +kernel
theorem dX7_place_15 : decode cX7_place 15 = .ok (.iload_n 2, 1) := by decide +kernel
theorem dX7_place_16 : decode cX7_place 16 = .ok (.invokevirtual 142, 3) := by decide +kernel
theorem dX7_place_19 : decode cX7_place 19 = .ok (.ifCond .eq 12, 3) := by decide +kernel
theorem dX7_place_22 : decode cX7_place 22 = .ok (.aload_n 0, 1) := by decide +kernel
theorem dX7_place_23 : decode cX7_place 23 = .ok (.iload_n 1, 1) := by decide +kernel
theorem dX7_place_24 : decode cX7_place 24 = .ok (.iload_n 2, 1) := by decide +kernel
theorem dX7_place_25 : decode cX7_place 25 = .ok (.invokevirtual 111, 3) := by decide +kernel
theorem dX7_place_28 : decode cX7_place 28 = .ok (.goto 4, 3) := by decide +kernel
theorem dX7_place_31 : decode cX7_place 31 = .ok (.iconst (-1), 1) := by decide +kernel
theorem dX7_place_32 : decode cX7_place 32 = .ok (.ireturn, 1) := by decide +kernel
theorem dX7_split_0 : decode cX7_split 0 = .ok (.iload_n 1, 1) := by decide +kernel
theorem dX7_split_1 : decode cX7_split 1 = .ok (.invokestatic 99, 3) := by decide +kernel
theorem dX7_split_4 : decode cX7_split 4 = .ok (.ifCond .ne 6, 3) := by decide +kernel
theorem dX7_split_7 : decode cX7_split 7 = .ok (.bipush (-101), 2) := by decide +kernel
theorem dX7_split_9 : decode cX7_split 9 = .ok (.ireturn, 1) := by decide +kernel
theorem dX7_split_10 : decode cX7_split 10 = .ok (.iload_n 2, 1) := by decide +kernel
theorem dX7_split_11 : decode cX7_split 11 = .ok (.iconst 2, 1) := by decide +kernel
theorem dX7_split_12 : decode cX7_split 12 = .ok (.aload_n 0, 1) := by decide +kernel
theorem dX7_split_13 : decode cX7_split 13 = .ok (.getfield 150, 3) := by decide +kernel
theorem dX7_split_16 : decode cX7_split 16 = .ok (.invokestatic 66, 3) := by decide +kernel
theorem dX7_split_19 : decode cX7_split 19 = .ok (.ifCond .ne 6, 3) := by decide +kernel
theorem dX7_split_22 : decode cX7_split 22 = .ok (.bipush (-102), 2) := by decide +kernel
theorem dX7_split_24 : decode cX7_split 24 = .ok (.ireturn, 1) := by decide +kernel
theorem dX7_split_25 : decode cX7_split 25 = .ok (.aload_n 0, 1) := by decide +kernel
theorem dX7_split_26 : decode cX7_split 26 = .ok (.getfield 21, 3) := by decide +kernel
theorem dX7_split_29 : decode cX7_split 29 = .ok (.iload_n 1, 1) := by decide +kernel
theorem dX7_split_30 : decode cX7_split 30 = .ok (.invokevirtual 153, 3) := by decide +kernel
theorem dX7_split_33 : decode cX7_split 33 = .ok (.ifCond .ne 13, 3) := by decide +kernel
theorem dX7_split_36 : decode cX7_split 36 = .ok (.aload_n 0, 1) := by decide +kernel
theorem dX7_split_37 : decode cX7_split 37 = .ok (.getfield 12, 3) := by decide +kernel
theorem dX7_split_40 : decode cX7_split 40 = .ok (.invokevirtual 156, 3) := by decide +kernel
theorem dX7_split_43 : decode cX7_split 43 = .ok (.ifCond .ne 6, 3) := by decide +kernel
theorem dX7_split_46 : decode cX7_split 46 = .ok (.bipush (-103), 2) := by decide +kernel
theorem dX7_split_48 : decode cX7_split 48 = .ok (.ireturn, 1) := by decide +kernel
theorem dX7_split_49 : decode cX7_split 49 = .ok (.aload_n 0, 1) := by decide +kernel
theorem dX7_split_50 : decode cX7_split 50 = .ok (.getfield 21, 3) := by decide +kernel
theorem dX7_split_53 : decode cX7_split 53 = .ok (.iload_n 1, 1) := by decide +kernel
theorem dX7_split_54 : decode cX7_split 54 = .ok (.iload_n 2, 1) := by decide +kernel
theorem dX7_split_55 : decode cX7_split 55 = .ok (.invokevirtual 160, 3) := by decide +kernel
theorem dX7_split_58 : decode cX7_split 58 = .ok (.iconst 1, 1) := by decide +kernel
theorem dX7_split_59 : decode cX7_split 59 = .ok (.ireturn, 1) := by decide +kernel
theorem dX7_back_0 : decode cX7_back 0 = .ok (.iload_n 1, 1) := by decide +kernel
theorem dX7_back_1 : decode cX7_back 1 = .ok (.invokestatic 99, 3) := by decide +kernel
theorem dX7_back_4 : decode cX7_back 4 = .ok (.ifCond .ne 6, 3) := by decide +kernel
theorem dX7_back_7 : decode cX7_back 7 = .ok (.bipush (-101), 2) := by decide +kernel
theorem dX7_back_9 : decode cX7_back 9 = .ok (.ireturn, 1) := by decide +kernel
theorem dX7_back_10 : decode cX7_back 10 = .ok (.aload_n 0, 1) := by decide +kernel
theorem dX7_back_11 : decode cX7_back 11 = .ok (.getfield 21, 3) := by decide +kernel
theorem dX7_back_14 : decode cX7_back 14 = .ok (.iload_n 1, 1) := by decide +kernel
theorem dX7_back_15 : decode cX7_back 15 = .ok (.invokevirtual 153, 3) := by decide +kernel
theorem dX7_back_18 : decode cX7_back 18 = .ok (.ifCond .ne 6, 3) := by decide +kernel
theorem dX7_back_21 : decode cX7_back 21 = .ok (.bipush (-103), 2) := by decide +kernel
theorem dX7_back_23 : decode cX7_back 23 = .ok (.ireturn, 1) := by decide +kernel
theorem dX7_back_24 : decode cX7_back 24 = .ok (.aload_n 0, 1) := by decide +kernel
theorem dX7_back_25 : decode cX7_back 25 = .ok (.getfield 21, 3) := by decide +kernel
theorem dX7_back_28 : decode cX7_back 28 = .ok (.iload_n 1, 1) := by decide +kernel
theorem dX7_back_29 : decode cX7_back 29 = .ok (.invokevirtual 163, 3) := by decide +kernel
theorem dX7_back_32 : decode cX7_back 32 = .ok (.ireturn, 1) := by decide +kernel
theorem dX7_tree_0 : decode cX7_tree 0 = .ok (.iload_n 1, 1) := by decide +kernel
theorem dX7_tree_1 : decode cX7_tree 1 = .ok (.invokestatic 99, 3) := by decide +kernel
theorem dX7_tree_4 : decode cX7_tree 4 = .ok (.ifCond .ne 6, 3) := by decide +kernel
theorem dX7_tree_7 : decode cX7_tree 7 = .ok (.bipush (-101), 2) := by decide +kernel
theorem dX7_tree_9 : decode cX7_tree 9 = .ok (.ireturn, 1) := by decide +kernel
theorem dX7_tree_10 : decode cX7_tree 10 = .ok (.iload_n 2, 1) := by decide +kernel
theorem dX7_tree_11 : decode cX7_tree 11 = .ok (.ifCond .ge 7, 3) := by decide +kernel
theorem dX7_tree_14 : decode cX7_tree 14 = .ok (.iconst (-1), 1) := by decide +kernel
theorem dX7_tree_15 : decode cX7_tree 15 = .ok (.goto 15, 3) := by decide +kernel
theorem dX7_tree_18 : decode cX7_tree 18 = .ok (.aload_n 0, 1) := by decide +kernel
theorem dX7_tree_19 : decode cX7_tree 19 = .ok (.getfield 21, 3) := by decide +kernel
theorem dX7_tree_22 : decode cX7_tree 22 = .ok (.iload_n 1, 1) := by decide +kernel
theorem dX7_tree_23 : decode cX7_tree 23 = .ok (.invokevirtual 103, 3) := by decide +kernel
theorem dX7_tree_26 : decode cX7_tree 26 = .ok (.iload_n 2, 1) := by decide +kernel
theorem dX7_tree_27 : decode cX7_tree 27 = .ok (.invokestatic 166, 3) := by decide +kernel
theorem dX7_tree_30 : decode cX7_tree 30 = .ok (.ireturn, 1) := by decide +kernel
theorem dX7_counter_0 : decode cX7_counter 0 = .ok (.iload_n 1, 1) := by decide +kernel
theorem dX7_counter_1 : decode cX7_counter 1 = .ok (.iconst 0, 1) := by decide +kernel
theorem dX7_counter_2 : decode cX7_counter 2 = .ok (.aload_n 0, 1) := by decide +kernel
theorem dX7_counter_3 : decode cX7_counter 3 = .ok (.getfield 28, 3) := by decide +kernel
theorem dX7_counter_6 : decode cX7_counter 6 = .ok (.getfield 169, 3) := by decide +kernel
theorem dX7_counter_9 : decode cX7_counter 9 = .ok (.iconst 1, 1) := by decide +kernel
theorem dX7_counter_10 : decode cX7_counter 10 = .ok (.isub, 1) := by decide +kernel
theorem dX7_counter_11 : decode cX7_counter 11 = .ok (.invokestatic 66, 3) := by decide +kernel
theorem dX7_counter_14 : decode cX7_counter 14 = .ok (.ifCond .ne 6, 3) := by decide +kernel
theorem dX7_counter_17 : decode cX7_counter 17 = .ok (.bipush (-102), 2) := by decide +kernel
theorem dX7_counter_19 : decode cX7_counter 19 = .ok (.ireturn, 1) := by decide +kernel
theorem dX7_counter_20 : decode cX7_counter 20 = .ok (.iload_n 2, 1) := by decide +kernel
theorem dX7_counter_21 : decode cX7_counter 21 = .ok (.tableswitch 54 0 2 #[27, 36, 45], 27) := by decide +kernel
theorem dX7_counter_48 : decode cX7_counter 48 = .ok (.aload_n 0, 1) := by decide +kernel
theorem dX7_counter_49 : decode cX7_counter 49 = .ok (.getfield 28, 3) := by decide +kernel
theorem dX7_counter_52 : decode cX7_counter 52 = .ok (.iload_n 1, 1) := by decide +kernel
theorem dX7_counter_53 : decode cX7_counter 53 = .ok (.invokevirtual 172, 3) := by decide +kernel
theorem dX7_counter_56 : decode cX7_counter 56 = .ok (.ireturn, 1) := by decide +kernel
theorem dX7_counter_57 : decode cX7_counter 57 = .ok (.aload_n 0, 1) := by decide +kernel
theorem dX7_counter_58 : decode cX7_counter 58 = .ok (.getfield 28, 3) := by decide +kernel
theorem dX7_counter_61 : decode cX7_counter 61 = .ok (.iload_n 1, 1) := by decide +kernel
theorem dX7_counter_62 : decode cX7_counter 62 = .ok (.invokevirtual 175, 3) := by decide +kernel
theorem dX7_counter_65 : decode cX7_counter 65 = .ok (.ireturn, 1) := by decide +kernel
theorem dX7_counter_66 : decode cX7_counter 66 = .ok (.aload_n 0, 1) := by decide +kernel
theorem dX7_counter_67 : decode cX7_counter 67 = .ok (.getfield 28, 3) := by decide +kernel
theorem dX7_counter_70 : decode cX7_counter 70 = .ok (.iload_n 1, 1) := by decide +kernel
theorem dX7_counter_71 : decode cX7_counter 71 = .ok (.invokevirtual 178, 3) := by decide +kernel
theorem dX7_counter_74 : decode cX7_counter 74 = .ok (.ireturn, 1) := by decide +kernel
theorem dX7_counter_75 : decode cX7_counter 75 = .ok (.bipush (-102), 2) := by decide +kernel
theorem dX7_counter_77 : decode cX7_counter 77 = .ok (.ireturn, 1) := by decide +kernel
theorem dX7_hot_0 : decode cX7_hot 0 = .ok (.iload_n 1, 1) := by decide +kernel
theorem dX7_hot_1 : decode cX7_hot 1 = .ok (.invokestatic 99, 3) := by decide +kernel
theorem dX7_hot_4 : decode cX7_hot 4 = .ok (.ifCond .ne 6, 3) := by decide +kernel
theorem dX7_hot_7 : decode cX7_hot 7 = .ok (.bipush (-101), 2) := by decide +kernel
theorem dX7_hot_9 : decode cX7_hot 9 = .ok (.ireturn, 1) := by decide +kernel
theorem dX7_hot_10 : decode cX7_hot 10 = .ok (.aload_n 0, 1) := by decide +kernel
theorem dX7_hot_11 : decode cX7_hot 11 = .ok (.getfield 28, 3) := by decide +kernel
theorem dX7_hot_14 : decode cX7_hot 14 = .ok (.iload_n 1, 1) := by decide +kernel
theorem dX7_hot_15 : decode cX7_hot 15 = .ok (.invokevirtual 181, 3) := by decide +kernel
theorem dX7_hot_18 : decode cX7_hot 18 = .ok (.aload_n 0, 1) := by decide +kernel
theorem dX7_hot_19 : decode cX7_hot 19 = .ok (.getfield 184, 3) := by decide +kernel
theorem dX7_hot_22 : decode cX7_hot 22 = .ok (.if_icmp .lt 5, 3) := by decide +kernel
theorem dX7_hot_25 : decode cX7_hot 25 = .ok (.iconst 2, 1) := by decide +kernel
theorem dX7_hot_26 : decode cX7_hot 26 = .ok (.ireturn, 1) := by decide +kernel
theorem dX7_hot_27 : decode cX7_hot 27 = .ok (.aload_n 0, 1) := by decide +kernel
theorem dX7_hot_28 : decode cX7_hot 28 = .ok (.getfield 28, 3) := by decide +kernel
theorem dX7_hot_31 : decode cX7_hot 31 = .ok (.iload_n 1, 1) := by decide +kernel
theorem dX7_hot_32 : decode cX7_hot 32 = .ok (.invokevirtual 187, 3) := by decide +kernel
theorem dX7_hot_35 : decode cX7_hot 35 = .ok (.aload_n 0, 1) := by decide +kernel
theorem dX7_hot_36 : decode cX7_hot 36 = .ok (.getfield 184, 3) := by decide +kernel
theorem dX7_hot_39 : decode cX7_hot 39 = .ok (.if_icmp .lt 7, 3) := by decide +kernel
theorem dX7_hot_42 : decode cX7_hot 42 = .ok (.iconst 1, 1) := by decide +kernel
theorem dX7_hot_43 : decode cX7_hot 43 = .ok (.goto 4, 3) := by decide +kernel
theorem dX7_hot_46 : decode cX7_hot 46 = .ok (.iconst 0, 1) := by decide +kernel
theorem dX7_hot_47 : decode cX7_hot 47 = .ok (.ireturn, 1) := by decide +kernel
theorem dX7_splitKey_0 : decode cX7_splitKey 0 = .ok (.iconst 0, 1) := by decide +kernel
theorem dX7_splitKey_1 : decode cX7_splitKey 1 = .ok (.istore_n 2, 1) := by decide +kernel
theorem dX7_splitKey_2 : decode cX7_splitKey 2 = .ok (.iconst 0, 1) := by decide +kernel
theorem dX7_splitKey_3 : decode cX7_splitKey 3 = .ok (.istore_n 3, 1) := by decide +kernel
theorem dX7_splitKey_4 : decode cX7_splitKey 4 = .ok (.iload_n 3, 1) := by decide +kernel
theorem dX7_splitKey_5 : decode cX7_splitKey 5 = .ok (.bipush 100, 2) := by decide +kernel
theorem dX7_splitKey_7 : decode cX7_splitKey 7 = .ok (.if_icmp .ge 30, 3) := by decide +kernel
theorem dX7_splitKey_10 : decode cX7_splitKey 10 = .ok (.aload_n 0, 1) := by decide +kernel
theorem dX7_splitKey_11 : decode cX7_splitKey 11 = .ok (.getfield 21, 3) := by decide +kernel
theorem dX7_splitKey_14 : decode cX7_splitKey 14 = .ok (.iload_n 3, 1) := by decide +kernel
theorem dX7_splitKey_15 : decode cX7_splitKey 15 = .ok (.invokevirtual 153, 3) := by decide +kernel
theorem dX7_splitKey_18 : decode cX7_splitKey 18 = .ok (.ifCond .eq 13, 3) := by decide +kernel
theorem dX7_splitKey_21 : decode cX7_splitKey 21 = .ok (.iload_n 2, 1) := by decide +kernel
theorem dX7_splitKey_22 : decode cX7_splitKey 22 = .ok (.iload_n 1, 1) := by decide +kernel
theorem dX7_splitKey_23 : decode cX7_splitKey 23 = .ok (.if_icmp .ne 5, 3) := by decide +kernel
theorem dX7_splitKey_26 : decode cX7_splitKey 26 = .ok (.iload_n 3, 1) := by decide +kernel
theorem dX7_splitKey_27 : decode cX7_splitKey 27 = .ok (.ireturn, 1) := by decide +kernel
theorem dX7_splitKey_28 : decode cX7_splitKey 28 = .ok (.iinc 2 1, 3) := by decide +kernel
theorem dX7_splitKey_31 : decode cX7_splitKey 31 = .ok (.iinc 3 1, 3) := by decide +kernel
theorem dX7_splitKey_34 : decode cX7_splitKey 34 = .ok (.goto (-30), 3) := by decide +kernel
theorem dX7_splitKey_37 : decode cX7_splitKey 37 = .ok (.iconst (-1), 1) := by decide +kernel
theorem dX7_splitKey_38 : decode cX7_splitKey 38 = .ok (.ireturn, 1) := by decide +kernel
theorem dX7_load_0 : decode cX7_load 0 = .ok (.aload_n 0, 1) := by decide +kernel
theorem dX7_load_1 : decode cX7_load 1 = .ok (.iload_n 1, 1) := by decide +kernel
theorem dX7_load_2 : decode cX7_load 2 = .ok (.invokevirtual 190, 3) := by decide +kernel
theorem dX7_load_5 : decode cX7_load 5 = .ok (.ifCond .eq 12, 3) := by decide +kernel
theorem dX7_load_8 : decode cX7_load 8 = .ok (.aload_n 0, 1) := by decide +kernel
theorem dX7_load_9 : decode cX7_load 9 = .ok (.getfield 59, 3) := by decide +kernel
theorem dX7_load_12 : decode cX7_load 12 = .ok (.iload_n 1, 1) := by decide +kernel
theorem dX7_load_13 : decode cX7_load 13 = .ok (.iaload, 1) := by decide +kernel
theorem dX7_load_14 : decode cX7_load 14 = .ok (.goto 5, 3) := by decide +kernel
theorem dX7_load_17 : decode cX7_load 17 = .ok (.bipush (-101), 2) := by decide +kernel
theorem dX7_load_19 : decode cX7_load 19 = .ok (.ireturn, 1) := by decide +kernel
theorem dX7_small_0 : decode cX7_small 0 = .ok (.iload_n 1, 1) := by decide +kernel
theorem dX7_small_1 : decode cX7_small 1 = .ok (.invokestatic 99, 3) := by decide +kernel
theorem dX7_small_4 : decode cX7_small 4 = .ok (.ifCond .ne 6, 3) := by decide +kernel
theorem dX7_small_7 : decode cX7_small 7 = .ok (.bipush (-101), 2) := by decide +kernel
theorem dX7_small_9 : decode cX7_small 9 = .ok (.ireturn, 1) := by decide +kernel
theorem dX7_small_10 : decode cX7_small 10 = .ok (.iload_n 2, 1) := by decide +kernel
theorem dX7_small_11 : decode cX7_small 11 = .ok (.sipush (-1000), 3) := by decide +kernel
theorem dX7_small_14 : decode cX7_small 14 = .ok (.sipush 1000, 3) := by decide +kernel
theorem dX7_small_17 : decode cX7_small 17 = .ok (.invokestatic 66, 3) := by decide +kernel
theorem dX7_small_20 : decode cX7_small 20 = .ok (.ifCond .ne 6, 3) := by decide +kernel
theorem dX7_small_23 : decode cX7_small 23 = .ok (.bipush (-102), 2) := by decide +kernel
theorem dX7_small_25 : decode cX7_small 25 = .ok (.ireturn, 1) := by decide +kernel
theorem dX7_small_26 : decode cX7_small 26 = .ok (.aload_n 0, 1) := by decide +kernel
theorem dX7_small_27 : decode cX7_small 27 = .ok (.getfield 35, 3) := by decide +kernel
theorem dX7_small_30 : decode cX7_small 30 = .ok (.getfield 193, 3) := by decide +kernel
theorem dX7_small_33 : decode cX7_small 33 = .ok (.bipush 60, 2) := by decide +kernel
theorem dX7_small_35 : decode cX7_small 35 = .ok (.if_icmp .lt 6, 3) := by decide +kernel
theorem dX7_small_38 : decode cX7_small 38 = .ok (.bipush (-104), 2) := by decide +kernel
theorem dX7_small_40 : decode cX7_small 40 = .ok (.ireturn, 1) := by decide +kernel
theorem dX7_small_41 : decode cX7_small 41 = .ok (.aload_n 0, 1) := by decide +kernel
theorem dX7_small_42 : decode cX7_small 42 = .ok (.getfield 35, 3) := by decide +kernel
theorem dX7_small_45 : decode cX7_small 45 = .ok (.iload_n 1, 1) := by decide +kernel
theorem dX7_small_46 : decode cX7_small 46 = .ok (.iload_n 2, 1) := by decide +kernel
theorem dX7_small_47 : decode cX7_small 47 = .ok (.invokevirtual 194, 3) := by decide +kernel
theorem dX7_small_50 : decode cX7_small 50 = .ok (.aload_n 0, 1) := by decide +kernel
theorem dX7_small_51 : decode cX7_small 51 = .ok (.getfield 35, 3) := by decide +kernel
theorem dX7_small_54 : decode cX7_small 54 = .ok (.getfield 193, 3) := by decide +kernel
theorem dX7_small_57 : decode cX7_small 57 = .ok (.ireturn, 1) := by decide +kernel
theorem dX7_copies_0 : decode cX7_copies 0 = .ok (.aload_n 0, 1) := by decide +kernel
theorem dX7_copies_1 : decode cX7_copies 1 = .ok (.iload_n 1, 1) := by decide +kernel
theorem dX7_copies_2 : decode cX7_copies 2 = .ok (.invokevirtual 190, 3) := by decide +kernel
theorem dX7_copies_5 : decode cX7_copies 5 = .ok (.ifCond .ne 6, 3) := by decide +kernel
theorem dX7_copies_8 : decode cX7_copies 8 = .ok (.bipush (-101), 2) := by decide +kernel
theorem dX7_copies_10 : decode cX7_copies 10 = .ok (.ireturn, 1) := by decide +kernel
theorem dX7_copies_11 : decode cX7_copies 11 = .ok (.iconst 0, 1) := by decide +kernel
theorem dX7_copies_12 : decode cX7_copies 12 = .ok (.istore_n 2, 1) := by decide +kernel
theorem dX7_copies_13 : decode cX7_copies 13 = .ok (.iconst 0, 1) := by decide +kernel
theorem dX7_copies_14 : decode cX7_copies 14 = .ok (.istore_n 3, 1) := by decide +kernel
theorem dX7_copies_15 : decode cX7_copies 15 = .ok (.iload_n 3, 1) := by decide +kernel
theorem dX7_copies_16 : decode cX7_copies 16 = .ok (.aload_n 0, 1) := by decide +kernel
theorem dX7_copies_17 : decode cX7_copies 17 = .ok (.getfield 35, 3) := by decide +kernel
theorem dX7_copies_20 : decode cX7_copies 20 = .ok (.getfield 193, 3) := by decide +kernel
theorem dX7_copies_23 : decode cX7_copies 23 = .ok (.if_icmp .ge 29, 3) := by decide +kernel
theorem dX7_copies_26 : decode cX7_copies 26 = .ok (.aload_n 0, 1) := by decide +kernel
theorem dX7_copies_27 : decode cX7_copies 27 = .ok (.aload_n 0, 1) := by decide +kernel
theorem dX7_copies_28 : decode cX7_copies 28 = .ok (.getfield 35, 3) := by decide +kernel
theorem dX7_copies_31 : decode cX7_copies 31 = .ok (.getfield 196, 3) := by decide +kernel
theorem dX7_copies_34 : decode cX7_copies 34 = .ok (.iload_n 3, 1) := by decide +kernel
theorem dX7_copies_35 : decode cX7_copies 35 = .ok (.iaload, 1) := by decide +kernel
theorem dX7_copies_36 : decode cX7_copies 36 = .ok (.iload_n 1, 1) := by decide +kernel
theorem dX7_copies_37 : decode cX7_copies 37 = .ok (.invokevirtual 199, 3) := by decide +kernel
theorem dX7_copies_40 : decode cX7_copies 40 = .ok (.ifCond .eq 6, 3) := by decide +kernel
theorem dX7_copies_43 : decode cX7_copies 43 = .ok (.iinc 2 1, 3) := by decide +kernel
theorem dX7_copies_46 : decode cX7_copies 46 = .ok (.iinc 3 1, 3) := by decide +kernel
theorem dX7_copies_49 : decode cX7_copies 49 = .ok (.goto (-34), 3) := by decide +kernel
theorem dX7_copies_52 : decode cX7_copies 52 = .ok (.iload_n 2, 1) := by decide +kernel
theorem dX7_copies_53 : decode cX7_copies 53 = .ok (.ireturn, 1) := by decide +kernel
theorem dX7_out_0 : decode cX7_out 0 = .ok (.aload_n 0, 1) := by decide +kernel
theorem dX7_out_1 : decode cX7_out 1 = .ok (.getfield 35, 3) := by decide +kernel
theorem dX7_out_4 : decode cX7_out 4 = .ok (.getfield 202, 3) := by decide +kernel
theorem dX7_out_7 : decode cX7_out 7 = .ok (.lreturn, 1) := by decide +kernel
theorem dX7_timer_0 : decode cX7_timer 0 = .ok (.iload_n 1, 1) := by decide +kernel
theorem dX7_timer_1 : decode cX7_timer 1 = .ok (.invokestatic 99, 3) := by decide +kernel
theorem dX7_timer_4 : decode cX7_timer 4 = .ok (.ifCond .ne 6, 3) := by decide +kernel
theorem dX7_timer_7 : decode cX7_timer 7 = .ok (.bipush (-101), 2) := by decide +kernel
theorem dX7_timer_9 : decode cX7_timer 9 = .ok (.ireturn, 1) := by decide +kernel
theorem dX7_timer_10 : decode cX7_timer 10 = .ok (.iload_n 2, 1) := by decide +kernel
theorem dX7_timer_11 : decode cX7_timer 11 = .ok (.aload_n 0, 1) := by decide +kernel
theorem dX7_timer_12 : decode cX7_timer 12 = .ok (.getfield 42, 3) := by decide +kernel
theorem dX7_timer_15 : decode cX7_timer 15 = .ok (.getfield 206, 3) := by decide +kernel
theorem dX7_timer_18 : decode cX7_timer 18 = .ok (.if_icmp .le 9, 3) := by decide +kernel
theorem dX7_timer_21 : decode cX7_timer 21 = .ok (.iload_n 2, 1) := by decide +kernel
theorem dX7_timer_22 : decode cX7_timer 22 = .ok (.ldc 209, 2) := by decide +kernel
theorem dX7_timer_24 : decode cX7_timer 24 = .ok (.if_icmp .le 6, 3) := by decide +kernel
theorem dX7_timer_27 : decode cX7_timer 27 = .ok (.bipush (-102), 2) := by decide +kernel
theorem dX7_timer_29 : decode cX7_timer 29 = .ok (.ireturn, 1) := by decide +kernel
theorem dX7_timer_30 : decode cX7_timer 30 = .ok (.aload_n 0, 1) := by decide +kernel
theorem dX7_timer_31 : decode cX7_timer 31 = .ok (.getfield 42, 3) := by decide +kernel
theorem dX7_timer_34 : decode cX7_timer 34 = .ok (.getfield 210, 3) := by decide +kernel
theorem dX7_timer_37 : decode cX7_timer 37 = .ok (.bipush 40, 2) := by decide +kernel
theorem dX7_timer_39 : decode cX7_timer 39 = .ok (.if_icmp .lt 6, 3) := by decide +kernel
theorem dX7_timer_42 : decode cX7_timer 42 = .ok (.bipush (-104), 2) := by decide +kernel
theorem dX7_timer_44 : decode cX7_timer 44 = .ok (.ireturn, 1) := by decide +kernel
theorem dX7_timer_45 : decode cX7_timer 45 = .ok (.aload_n 0, 1) := by decide +kernel
theorem dX7_timer_46 : decode cX7_timer 46 = .ok (.getfield 42, 3) := by decide +kernel
theorem dX7_timer_49 : decode cX7_timer 49 = .ok (.iload_n 1, 1) := by decide +kernel
theorem dX7_timer_50 : decode cX7_timer 50 = .ok (.iload_n 2, 1) := by decide +kernel
theorem dX7_timer_51 : decode cX7_timer 51 = .ok (.invokevirtual 211, 3) := by decide +kernel
theorem dX7_timer_54 : decode cX7_timer 54 = .ok (.aload_n 0, 1) := by decide +kernel
theorem dX7_timer_55 : decode cX7_timer 55 = .ok (.getfield 42, 3) := by decide +kernel
theorem dX7_timer_58 : decode cX7_timer 58 = .ok (.getfield 210, 3) := by decide +kernel
theorem dX7_timer_61 : decode cX7_timer 61 = .ok (.ireturn, 1) := by decide +kernel
theorem dX7_tick_0 : decode cX7_tick 0 = .ok (.iload_n 1, 1) := by decide +kernel
theorem dX7_tick_1 : decode cX7_tick 1 = .ok (.aload_n 0, 1) := by decide +kernel
theorem dX7_tick_2 : decode cX7_tick 2 = .ok (.getfield 42, 3) := by decide +kernel
theorem dX7_tick_5 : decode cX7_tick 5 = .ok (.getfield 206, 3) := by decide +kernel
theorem dX7_tick_8 : decode cX7_tick 8 = .ok (.ldc 209, 2) := by decide +kernel
theorem dX7_tick_10 : decode cX7_tick 10 = .ok (.invokestatic 66, 3) := by decide +kernel
theorem dX7_tick_13 : decode cX7_tick 13 = .ok (.ifCond .ne 6, 3) := by decide +kernel
theorem dX7_tick_16 : decode cX7_tick 16 = .ok (.bipush (-102), 2) := by decide +kernel
theorem dX7_tick_18 : decode cX7_tick 18 = .ok (.ireturn, 1) := by decide +kernel
theorem dX7_tick_19 : decode cX7_tick 19 = .ok (.aload_n 0, 1) := by decide +kernel
theorem dX7_tick_20 : decode cX7_tick 20 = .ok (.getfield 42, 3) := by decide +kernel
theorem dX7_tick_23 : decode cX7_tick 23 = .ok (.iload_n 1, 1) := by decide +kernel
theorem dX7_tick_24 : decode cX7_tick 24 = .ok (.invokevirtual 212, 3) := by decide +kernel
theorem dX7_tick_27 : decode cX7_tick 27 = .ok (.istore_n 2, 1) := by decide +kernel
theorem dX7_tick_28 : decode cX7_tick 28 = .ok (.iconst 0, 1) := by decide +kernel
theorem dX7_tick_29 : decode cX7_tick 29 = .ok (.istore_n 3, 1) := by decide +kernel
theorem dX7_tick_30 : decode cX7_tick 30 = .ok (.iload_n 3, 1) := by decide +kernel
theorem dX7_tick_31 : decode cX7_tick 31 = .ok (.iload_n 2, 1) := by decide +kernel
theorem dX7_tick_32 : decode cX7_tick 32 = .ok (.if_icmp .ge 31, 3) := by decide +kernel
theorem dX7_tick_35 : decode cX7_tick 35 = .ok (.aload_n 0, 1) := by decide +kernel
theorem dX7_tick_36 : decode cX7_tick 36 = .ok (.aload_n 0, 1) := by decide +kernel
theorem dX7_tick_37 : decode cX7_tick 37 = .ok (.getfield 42, 3) := by decide +kernel
theorem dX7_tick_40 : decode cX7_tick 40 = .ok (.getfield 215, 3) := by decide +kernel
theorem dX7_tick_43 : decode cX7_tick 43 = .ok (.iload_n 3, 1) := by decide +kernel
theorem dX7_tick_44 : decode cX7_tick 44 = .ok (.iaload, 1) := by decide +kernel
theorem dX7_tick_45 : decode cX7_tick 45 = .ok (.aload_n 0, 1) := by decide +kernel
theorem dX7_tick_46 : decode cX7_tick 46 = .ok (.getfield 42, 3) := by decide +kernel
theorem dX7_tick_49 : decode cX7_tick 49 = .ok (.getfield 216, 3) := by decide +kernel
theorem dX7_tick_52 : decode cX7_tick 52 = .ok (.iload_n 3, 1) := by decide +kernel
theorem dX7_tick_53 : decode cX7_tick 53 = .ok (.iaload, 1) := by decide +kernel
theorem dX7_tick_54 : decode cX7_tick 54 = .ok (.invokevirtual 219, 3) := by decide +kernel
theorem dX7_tick_57 : decode cX7_tick 57 = .ok (.iinc 3 1, 3) := by decide +kernel
theorem dX7_tick_60 : decode cX7_tick 60 = .ok (.goto (-30), 3) := by decide +kernel
theorem dX7_tick_63 : decode cX7_tick 63 = .ok (.aload_n 0, 1) := by decide +kernel
theorem dX7_tick_64 : decode cX7_tick 64 = .ok (.getfield 42, 3) := by decide +kernel
theorem dX7_tick_67 : decode cX7_tick 67 = .ok (.iload_n 2, 1) := by decide +kernel
theorem dX7_tick_68 : decode cX7_tick 68 = .ok (.invokevirtual 222, 3) := by decide +kernel
theorem dX7_tick_71 : decode cX7_tick 71 = .ok (.aload_n 0, 1) := by decide +kernel
theorem dX7_tick_72 : decode cX7_tick 72 = .ok (.getfield 42, 3) := by decide +kernel
theorem dX7_tick_75 : decode cX7_tick 75 = .ok (.iload_n 1, 1) := by decide +kernel
theorem dX7_tick_76 : decode cX7_tick 76 = .ok (.putfield 206, 3) := by decide +kernel
theorem dX7_tick_79 : decode cX7_tick 79 = .ok (.iload_n 2, 1) := by decide +kernel
theorem dX7_tick_80 : decode cX7_tick 80 = .ok (.ireturn, 1) := by decide +kernel
theorem dX7_log_0 : decode cX7_log 0 = .ok (.iload_n 1, 1) := by decide +kernel
theorem dX7_log_1 : decode cX7_log 1 = .ok (.iconst 0, 1) := by decide +kernel
theorem dX7_log_2 : decode cX7_log 2 = .ok (.aload_n 0, 1) := by decide +kernel
theorem dX7_log_3 : decode cX7_log 3 = .ok (.getfield 49, 3) := by decide +kernel
theorem dX7_log_6 : decode cX7_log 6 = .ok (.getfield 225, 3) := by decide +kernel
theorem dX7_log_9 : decode cX7_log 9 = .ok (.iconst 1, 1) := by decide +kernel
theorem dX7_log_10 : decode cX7_log 10 = .ok (.isub, 1) := by decide +kernel
theorem dX7_log_11 : decode cX7_log 11 = .ok (.invokestatic 66, 3) := by decide +kernel
theorem dX7_log_14 : decode cX7_log 14 = .ok (.ifCond .eq 13, 3) := by decide +kernel
theorem dX7_log_17 : decode cX7_log 17 = .ok (.iload_n 2, 1) := by decide +kernel
theorem dX7_log_18 : decode cX7_log 18 = .ok (.iconst 0, 1) := by decide +kernel
theorem dX7_log_19 : decode cX7_log 19 = .ok (.bipush 7, 2) := by decide +kernel
theorem dX7_log_21 : decode cX7_log 21 = .ok (.invokestatic 66, 3) := by decide +kernel
theorem dX7_log_24 : decode cX7_log 24 = .ok (.ifCond .ne 7, 3) := by decide +kernel
theorem dX7_log_27 : decode cX7_log 27 = .ok (.ldc2_w 136, 3) := by decide +kernel
theorem dX7_log_30 : decode cX7_log 30 = .ok (.lreturn, 1) := by decide +kernel
theorem dX7_log_31 : decode cX7_log 31 = .ok (.aload_n 0, 1) := by decide +kernel
theorem dX7_log_32 : decode cX7_log 32 = .ok (.getfield 49, 3) := by decide +kernel
theorem dX7_log_35 : decode cX7_log 35 = .ok (.iload_n 1, 1) := by decide +kernel
theorem dX7_log_36 : decode cX7_log 36 = .ok (.iload_n 2, 1) := by decide +kernel
theorem dX7_log_37 : decode cX7_log 37 = .ok (.invokevirtual 228, 3) := by decide +kernel
theorem dX7_log_40 : decode cX7_log 40 = .ok (.lreturn, 1) := by decide +kernel
theorem dX7_mark_0 : decode cX7_mark 0 = .ok (.aload_n 0, 1) := by decide +kernel
theorem dX7_mark_1 : decode cX7_mark 1 = .ok (.getfield 81, 3) := by decide +kernel
theorem dX7_mark_4 : decode cX7_mark 4 = .ok (.iconst 4, 1) := by decide +kernel
theorem dX7_mark_5 : decode cX7_mark 5 = .ok (.if_icmp .lt 6, 3) := by decide +kernel
theorem dX7_mark_8 : decode cX7_mark 8 = .ok (.bipush (-104), 2) := by decide +kernel
theorem dX7_mark_10 : decode cX7_mark 10 = .ok (.ireturn, 1) := by decide +kernel
theorem dX7_mark_11 : decode cX7_mark 11 = .ok (.aload_n 0, 1) := by decide +kernel
theorem dX7_mark_12 : decode cX7_mark 12 = .ok (.getfield 81, 3) := by decide +kernel
theorem dX7_mark_15 : decode cX7_mark 15 = .ok (.istore_n 1, 1) := by decide +kernel
theorem dX7_mark_16 : decode cX7_mark 16 = .ok (.aload_n 0, 1) := by decide +kernel
theorem dX7_mark_17 : decode cX7_mark 17 = .ok (.getfield 55, 3) := by decide +kernel
theorem dX7_mark_20 : decode cX7_mark 20 = .ok (.iload_n 1, 1) := by decide +kernel
theorem dX7_mark_21 : decode cX7_mark 21 = .ok (.aaload, 1) := by decide +kernel
theorem dX7_mark_22 : decode cX7_mark 22 = .ok (.ifnonnull 13, 3) := by decide +kernel
theorem dX7_mark_25 : decode cX7_mark 25 = .ok (.new 53, 3) := by decide +kernel
theorem dX7_mark_28 : decode cX7_mark 28 = .ok (.dup, 1) := by decide +kernel
theorem dX7_mark_29 : decode cX7_mark 29 = .ok (.invokespecial 231, 3) := by decide +kernel
theorem dX7_mark_32 : decode cX7_mark 32 = .ok (.goto 9, 3) := by decide +kernel
theorem dX7_mark_35 : decode cX7_mark 35 = .ok (.aload_n 0, 1) := by decide +kernel
theorem dX7_mark_36 : decode cX7_mark 36 = .ok (.getfield 55, 3) := by decide +kernel
theorem dX7_mark_39 : decode cX7_mark 39 = .ok (.iload_n 1, 1) := by decide +kernel
theorem dX7_mark_40 : decode cX7_mark 40 = .ok (.aaload, 1) := by decide +kernel
theorem dX7_mark_41 : decode cX7_mark 41 = .ok (.astore_n 2, 1) := by decide +kernel
theorem dX7_mark_42 : decode cX7_mark 42 = .ok (.aload_n 0, 1) := by decide +kernel
theorem dX7_mark_43 : decode cX7_mark 43 = .ok (.getfield 55, 3) := by decide +kernel
theorem dX7_mark_46 : decode cX7_mark 46 = .ok (.iload_n 1, 1) := by decide +kernel
theorem dX7_mark_47 : decode cX7_mark 47 = .ok (.aload_n 2, 1) := by decide +kernel
theorem dX7_mark_48 : decode cX7_mark 48 = .ok (.aastore, 1) := by decide +kernel
theorem dX7_mark_49 : decode cX7_mark 49 = .ok (.aload_n 2, 1) := by decide +kernel
theorem dX7_mark_50 : decode cX7_mark 50 = .ok (.aload_n 0, 1) := by decide +kernel
theorem dX7_mark_51 : decode cX7_mark 51 = .ok (.getfield 70, 3) := by decide +kernel
theorem dX7_mark_54 : decode cX7_mark 54 = .ok (.putfield 232, 3) := by decide +kernel
theorem dX7_mark_57 : decode cX7_mark 57 = .ok (.aload_n 2, 1) := by decide +kernel
theorem dX7_mark_58 : decode cX7_mark 58 = .ok (.getfield 233, 3) := by decide +kernel
theorem dX7_mark_61 : decode cX7_mark 61 = .ok (.aload_n 0, 1) := by decide +kernel
theorem dX7_mark_62 : decode cX7_mark 62 = .ok (.getfield 35, 3) := by decide +kernel
theorem dX7_mark_65 : decode cX7_mark 65 = .ok (.invokevirtual 234, 3) := by decide +kernel
theorem dX7_mark_68 : decode cX7_mark 68 = .ok (.aload_n 2, 1) := by decide +kernel
theorem dX7_mark_69 : decode cX7_mark 69 = .ok (.getfield 238, 3) := by decide +kernel
theorem dX7_mark_72 : decode cX7_mark 72 = .ok (.aload_n 0, 1) := by decide +kernel
theorem dX7_mark_73 : decode cX7_mark 73 = .ok (.getfield 42, 3) := by decide +kernel
theorem dX7_mark_76 : decode cX7_mark 76 = .ok (.invokevirtual 239, 3) := by decide +kernel
theorem dX7_mark_79 : decode cX7_mark 79 = .ok (.aload_n 0, 1) := by decide +kernel
theorem dX7_mark_80 : decode cX7_mark 80 = .ok (.getfield 21, 3) := by decide +kernel
theorem dX7_mark_83 : decode cX7_mark 83 = .ok (.aload_n 2, 1) := by decide +kernel
theorem dX7_mark_84 : decode cX7_mark 84 = .ok (.invokevirtual 242, 3) := by decide +kernel
theorem dX7_mark_87 : decode cX7_mark 87 = .ok (.aload_n 0, 1) := by decide +kernel
theorem dX7_mark_88 : decode cX7_mark 88 = .ok (.dup, 1) := by decide +kernel
theorem dX7_mark_89 : decode cX7_mark 89 = .ok (.getfield 81, 3) := by decide +kernel
theorem dX7_mark_92 : decode cX7_mark 92 = .ok (.iconst 1, 1) := by decide +kernel
theorem dX7_mark_93 : decode cX7_mark 93 = .ok (.iadd, 1) := by decide +kernel
theorem dX7_mark_94 : decode cX7_mark 94 = .ok (.putfield 81, 3) := by decide +kernel
theorem dX7_mark_97 : decode cX7_mark 97 = .ok (.iload_n 1, 1) := by decide +kernel
theorem dX7_mark_98 : decode cX7_mark 98 = .ok (.ireturn, 1) := by decide +kernel
theorem dX7_restore_0 : decode cX7_restore 0 = .ok (.iload_n 1, 1) := by decide +kernel
theorem dX7_restore_1 : decode cX7_restore 1 = .ok (.iconst 0, 1) := by decide +kernel
theorem dX7_restore_2 : decode cX7_restore 2 = .ok (.aload_n 0, 1) := by decide +kernel
theorem dX7_restore_3 : decode cX7_restore 3 = .ok (.getfield 81, 3) := by decide +kernel
theorem dX7_restore_6 : decode cX7_restore 6 = .ok (.iconst 1, 1) := by decide +kernel
theorem dX7_restore_7 : decode cX7_restore 7 = .ok (.isub, 1) := by decide +kernel
theorem dX7_restore_8 : decode cX7_restore 8 = .ok (.invokestatic 66, 3) := by decide +kernel
theorem dX7_restore_11 : decode cX7_restore 11 = .ok (.ifCond .ne 6, 3) := by decide +kernel
theorem dX7_restore_14 : decode cX7_restore 14 = .ok (.bipush (-101), 2) := by decide +kernel
theorem dX7_restore_16 : decode cX7_restore 16 = .ok (.ireturn, 1) := by decide +kernel
theorem dX7_restore_17 : decode cX7_restore 17 = .ok (.aload_n 0, 1) := by decide +kernel
theorem dX7_restore_18 : decode cX7_restore 18 = .ok (.getfield 55, 3) := by decide +kernel
theorem dX7_restore_21 : decode cX7_restore 21 = .ok (.iload_n 1, 1) := by decide +kernel
theorem dX7_restore_22 : decode cX7_restore 22 = .ok (.aaload, 1) := by decide +kernel
theorem dX7_restore_23 : decode cX7_restore 23 = .ok (.astore_n 2, 1) := by decide +kernel
theorem dX7_restore_24 : decode cX7_restore 24 = .ok (.aload_n 2, 1) := by decide +kernel
theorem dX7_restore_25 : decode cX7_restore 25 = .ok (.ifnonnull 6, 3) := by decide +kernel
theorem dX7_restore_28 : decode cX7_restore 28 = .ok (.bipush (-101), 2) := by decide +kernel
theorem dX7_restore_30 : decode cX7_restore 30 = .ok (.ireturn, 1) := by decide +kernel
theorem dX7_restore_31 : decode cX7_restore 31 = .ok (.aload_n 0, 1) := by decide +kernel
theorem dX7_restore_32 : decode cX7_restore 32 = .ok (.aload_n 2, 1) := by decide +kernel
theorem dX7_restore_33 : decode cX7_restore 33 = .ok (.getfield 232, 3) := by decide +kernel
theorem dX7_restore_36 : decode cX7_restore 36 = .ok (.putfield 70, 3) := by decide +kernel
theorem dX7_restore_39 : decode cX7_restore 39 = .ok (.aload_n 0, 1) := by decide +kernel
theorem dX7_restore_40 : decode cX7_restore 40 = .ok (.getfield 35, 3) := by decide +kernel
theorem dX7_restore_43 : decode cX7_restore 43 = .ok (.aload_n 2, 1) := by decide +kernel
theorem dX7_restore_44 : decode cX7_restore 44 = .ok (.getfield 233, 3) := by decide +kernel
theorem dX7_restore_47 : decode cX7_restore 47 = .ok (.invokevirtual 234, 3) := by decide +kernel
theorem dX7_restore_50 : decode cX7_restore 50 = .ok (.aload_n 0, 1) := by decide +kernel
theorem dX7_restore_51 : decode cX7_restore 51 = .ok (.getfield 42, 3) := by decide +kernel
theorem dX7_restore_54 : decode cX7_restore 54 = .ok (.aload_n 2, 1) := by decide +kernel
theorem dX7_restore_55 : decode cX7_restore 55 = .ok (.getfield 238, 3) := by decide +kernel
theorem dX7_restore_58 : decode cX7_restore 58 = .ok (.invokevirtual 239, 3) := by decide +kernel
theorem dX7_restore_61 : decode cX7_restore 61 = .ok (.aload_n 0, 1) := by decide +kernel
theorem dX7_restore_62 : decode cX7_restore 62 = .ok (.getfield 21, 3) := by decide +kernel
theorem dX7_restore_65 : decode cX7_restore 65 = .ok (.aload_n 2, 1) := by decide +kernel
theorem dX7_restore_66 : decode cX7_restore 66 = .ok (.invokevirtual 246, 3) := by decide +kernel
theorem dX7_restore_69 : decode cX7_restore 69 = .ok (.aload_n 0, 1) := by decide +kernel
theorem dX7_restore_70 : decode cX7_restore 70 = .ok (.invokevirtual 249, 3) := by decide +kernel
theorem dX7_restore_73 : decode cX7_restore 73 = .ok (.aload_n 0, 1) := by decide +kernel
theorem dX7_restore_74 : decode cX7_restore 74 = .ok (.getfield 70, 3) := by decide +kernel
theorem dX7_restore_77 : decode cX7_restore 77 = .ok (.ireturn, 1) := by decide +kernel
theorem dX7_told_0 : decode cX7_told 0 = .ok (.iload_n 1, 1) := by decide +kernel
theorem dX7_told_1 : decode cX7_told 1 = .ok (.tableswitch 165 0 13 #[71, 76, 81, 86, 91, 96, 104, 112, 120, 128, 136, 144, 149, 157], 71) := by decide +kernel
theorem dX7_told_72 : decode cX7_told 72 = .ok (.aload_n 0, 1) := by decide +kernel
theorem dX7_told_73 : decode cX7_told 73 = .ok (.getfield 70, 3) := by decide +kernel
theorem dX7_told_76 : decode cX7_told 76 = .ok (.ireturn, 1) := by decide +kernel
theorem dX7_told_77 : decode cX7_told 77 = .ok (.aload_n 0, 1) := by decide +kernel
theorem dX7_told_78 : decode cX7_told 78 = .ok (.getfield 122, 3) := by decide +kernel
theorem dX7_told_81 : decode cX7_told 81 = .ok (.ireturn, 1) := by decide +kernel
theorem dX7_told_82 : decode cX7_told 82 = .ok (.aload_n 0, 1) := by decide +kernel
theorem dX7_told_83 : decode cX7_told 83 = .ok (.getfield 252, 3) := by decide +kernel
theorem dX7_told_86 : decode cX7_told 86 = .ok (.ireturn, 1) := by decide +kernel
theorem dX7_told_87 : decode cX7_told 87 = .ok (.aload_n 0, 1) := by decide +kernel
theorem dX7_told_88 : decode cX7_told 88 = .ok (.getfield 255, 3) := by decide +kernel
theorem dX7_told_91 : decode cX7_told 91 = .ok (.ireturn, 1) := by decide +kernel
theorem dX7_told_92 : decode cX7_told 92 = .ok (.aload_n 0, 1) := by decide +kernel
theorem dX7_told_93 : decode cX7_told 93 = .ok (.getfield 258, 3) := by decide +kernel
theorem dX7_told_96 : decode cX7_told 96 = .ok (.ireturn, 1) := by decide +kernel
theorem dX7_told_97 : decode cX7_told 97 = .ok (.aload_n 0, 1) := by decide +kernel
theorem dX7_told_98 : decode cX7_told 98 = .ok (.getfield 35, 3) := by decide +kernel
theorem dX7_told_101 : decode cX7_told 101 = .ok (.getfield 261, 3) := by decide +kernel
theorem dX7_told_104 : decode cX7_told 104 = .ok (.ireturn, 1) := by decide +kernel
theorem dX7_told_105 : decode cX7_told 105 = .ok (.aload_n 0, 1) := by decide +kernel
theorem dX7_told_106 : decode cX7_told 106 = .ok (.getfield 21, 3) := by decide +kernel
theorem dX7_told_109 : decode cX7_told 109 = .ok (.getfield 264, 3) := by decide +kernel
theorem dX7_told_112 : decode cX7_told 112 = .ok (.ireturn, 1) := by decide +kernel
theorem dX7_told_113 : decode cX7_told 113 = .ok (.aload_n 0, 1) := by decide +kernel
theorem dX7_told_114 : decode cX7_told 114 = .ok (.getfield 42, 3) := by decide +kernel
theorem dX7_told_117 : decode cX7_told 117 = .ok (.getfield 210, 3) := by decide +kernel
theorem dX7_told_120 : decode cX7_told 120 = .ok (.ireturn, 1) := by decide +kernel
theorem dX7_told_121 : decode cX7_told 121 = .ok (.aload_n 0, 1) := by decide +kernel
theorem dX7_told_122 : decode cX7_told 122 = .ok (.getfield 42, 3) := by decide +kernel
theorem dX7_told_125 : decode cX7_told 125 = .ok (.getfield 206, 3) := by decide +kernel
theorem dX7_told_128 : decode cX7_told 128 = .ok (.ireturn, 1) := by decide +kernel
theorem dX7_told_129 : decode cX7_told 129 = .ok (.aload_n 0, 1) := by decide +kernel
theorem dX7_told_130 : decode cX7_told 130 = .ok (.getfield 49, 3) := by decide +kernel
theorem dX7_told_133 : decode cX7_told 133 = .ok (.getfield 225, 3) := by decide +kernel
theorem dX7_told_136 : decode cX7_told 136 = .ok (.ireturn, 1) := by decide +kernel
theorem dX7_told_137 : decode cX7_told 137 = .ok (.aload_n 0, 1) := by decide +kernel
theorem dX7_told_138 : decode cX7_told 138 = .ok (.getfield 12, 3) := by decide +kernel
theorem dX7_told_141 : decode cX7_told 141 = .ok (.getfield 88, 3) := by decide +kernel
theorem dX7_told_144 : decode cX7_told 144 = .ok (.ireturn, 1) := by decide +kernel
theorem dX7_told_145 : decode cX7_told 145 = .ok (.aload_n 0, 1) := by decide +kernel
theorem dX7_told_146 : decode cX7_told 146 = .ok (.getfield 81, 3) := by decide +kernel
theorem dX7_told_149 : decode cX7_told 149 = .ok (.ireturn, 1) := by decide +kernel
theorem dX7_told_150 : decode cX7_told 150 = .ok (.aload_n 0, 1) := by decide +kernel
theorem dX7_told_151 : decode cX7_told 151 = .ok (.getfield 21, 3) := by decide +kernel
theorem dX7_told_154 : decode cX7_told 154 = .ok (.invokevirtual 84, 3) := by decide +kernel
theorem dX7_told_157 : decode cX7_told 157 = .ok (.ireturn, 1) := by decide +kernel
theorem dX7_told_158 : decode cX7_told 158 = .ok (.aload_n 0, 1) := by decide +kernel
theorem dX7_told_159 : decode cX7_told 159 = .ok (.getfield 35, 3) := by decide +kernel
theorem dX7_told_162 : decode cX7_told 162 = .ok (.getfield 193, 3) := by decide +kernel
theorem dX7_told_165 : decode cX7_told 165 = .ok (.ireturn, 1) := by decide +kernel
theorem dX7_told_166 : decode cX7_told 166 = .ok (.bipush (-102), 2) := by decide +kernel
theorem dX7_told_168 : decode cX7_told 168 = .ok (.ireturn, 1) := by decide +kernel
theorem dX7_clear_0 : decode cX7_clear 0 = .ok (.aload_n 0, 1) := by decide +kernel
theorem dX7_clear_1 : decode cX7_clear 1 = .ok (.getfield 70, 3) := by decide +kernel
theorem dX7_clear_4 : decode cX7_clear 4 = .ok (.istore_n 1, 1) := by decide +kernel
theorem dX7_clear_5 : decode cX7_clear 5 = .ok (.aload_n 0, 1) := by decide +kernel
theorem dX7_clear_6 : decode cX7_clear 6 = .ok (.invokevirtual 63, 3) := by decide +kernel
theorem dX7_clear_9 : decode cX7_clear 9 = .ok (.iload_n 1, 1) := by decide +kernel
theorem dX7_clear_10 : decode cX7_clear 10 = .ok (.ireturn, 1) := by decide +kernel
theorem dX7_begin_0 : decode cX7_begin 0 = .ok (.aload_n 0, 1) := by decide +kernel
theorem dX7_begin_1 : decode cX7_begin 1 = .ok (.iconst 4, 1) := by decide +kernel
theorem dX7_begin_2 : decode cX7_begin 2 = .ok (.bipush 32, 2) := by decide +kernel
theorem dX7_begin_4 : decode cX7_begin 4 = .ok (.bipush 8, 2) := by decide +kernel
theorem dX7_begin_6 : decode cX7_begin 6 = .ok (.iconst 2, 1) := by decide +kernel
theorem dX7_begin_7 : decode cX7_begin 7 = .ok (.iconst 4, 1) := by decide +kernel
theorem dX7_begin_8 : decode cX7_begin 8 = .ok (.invokevirtual 74, 3) := by decide +kernel
theorem dX7_begin_11 : decode cX7_begin 11 = .ok (.aload_n 0, 1) := by decide +kernel
theorem dX7_begin_12 : decode cX7_begin 12 = .ok (.getfield 12, 3) := by decide +kernel
theorem dX7_begin_15 : decode cX7_begin 15 = .ok (.iconst 0, 1) := by decide +kernel
theorem dX7_begin_16 : decode cX7_begin 16 = .ok (.putfield 88, 3) := by decide +kernel
theorem dX7_begin_19 : decode cX7_begin 19 = .ok (.aload_n 0, 1) := by decide +kernel
theorem dX7_begin_20 : decode cX7_begin 20 = .ok (.getfield 21, 3) := by decide +kernel
theorem dX7_begin_23 : decode cX7_begin 23 = .ok (.invokevirtual 267, 3) := by decide +kernel
theorem dX7_begin_26 : decode cX7_begin 26 = .ok (.aload_n 0, 1) := by decide +kernel
theorem dX7_begin_27 : decode cX7_begin 27 = .ok (.getfield 35, 3) := by decide +kernel
theorem dX7_begin_30 : decode cX7_begin 30 = .ok (.invokevirtual 270, 3) := by decide +kernel
theorem dX7_begin_33 : decode cX7_begin 33 = .ok (.aload_n 0, 1) := by decide +kernel
theorem dX7_begin_34 : decode cX7_begin 34 = .ok (.getfield 42, 3) := by decide +kernel
theorem dX7_begin_37 : decode cX7_begin 37 = .ok (.invokevirtual 271, 3) := by decide +kernel
theorem dX7_begin_40 : decode cX7_begin 40 = .ok (.aload_n 0, 1) := by decide +kernel
theorem dX7_begin_41 : decode cX7_begin 41 = .ok (.iconst 0, 1) := by decide +kernel
theorem dX7_begin_42 : decode cX7_begin 42 = .ok (.putfield 81, 3) := by decide +kernel
theorem dX7_begin_45 : decode cX7_begin 45 = .ok (.aload_n 0, 1) := by decide +kernel
theorem dX7_begin_46 : decode cX7_begin 46 = .ok (.iconst 0, 1) := by decide +kernel
theorem dX7_begin_47 : decode cX7_begin 47 = .ok (.putfield 70, 3) := by decide +kernel
theorem dX7_begin_50 : decode cX7_begin 50 = .ok (.aload_n 0, 1) := by decide +kernel
theorem dX7_begin_51 : decode cX7_begin 51 = .ok (.iconst 0, 1) := by decide +kernel
theorem dX7_begin_52 : decode cX7_begin 52 = .ok (.putfield 252, 3) := by decide +kernel
theorem dX7_begin_55 : decode cX7_begin 55 = .ok (.aload_n 0, 1) := by decide +kernel
theorem dX7_begin_56 : decode cX7_begin 56 = .ok (.iconst 0, 1) := by decide +kernel
theorem dX7_begin_57 : decode cX7_begin 57 = .ok (.putfield 255, 3) := by decide +kernel
theorem dX7_begin_60 : decode cX7_begin 60 = .ok (.aload_n 0, 1) := by decide +kernel
theorem dX7_begin_61 : decode cX7_begin 61 = .ok (.iconst 0, 1) := by decide +kernel
theorem dX7_begin_62 : decode cX7_begin 62 = .ok (.putfield 258, 3) := by decide +kernel
theorem dX7_begin_65 : decode cX7_begin 65 = .ok (.aload_n 0, 1) := by decide +kernel
theorem dX7_begin_66 : decode cX7_begin 66 = .ok (.invokevirtual 249, 3) := by decide +kernel
theorem dX7_begin_69 : decode cX7_begin 69 = .ok (.return_, 1) := by decide +kernel
theorem dX7_beginWork_0 : decode cX7_beginWork 0 = .ok (.aload_n 0, 1) := by decide +kernel
theorem dX7_beginWork_1 : decode cX7_beginWork 1 = .ok (.getfield 28, 3) := by decide +kernel
theorem dX7_beginWork_4 : decode cX7_beginWork 4 = .ok (.iconst 0, 1) := by decide +kernel
theorem dX7_beginWork_5 : decode cX7_beginWork 5 = .ok (.putfield 272, 3) := by decide +kernel
theorem dX7_beginWork_8 : decode cX7_beginWork 8 = .ok (.aload_n 0, 1) := by decide +kernel
theorem dX7_beginWork_9 : decode cX7_beginWork 9 = .ok (.getfield 49, 3) := by decide +kernel
theorem dX7_beginWork_12 : decode cX7_beginWork 12 = .ok (.iconst 0, 1) := by decide +kernel
theorem dX7_beginWork_13 : decode cX7_beginWork 13 = .ok (.putfield 225, 3) := by decide +kernel
theorem dX7_beginWork_16 : decode cX7_beginWork 16 = .ok (.aload_n 0, 1) := by decide +kernel
theorem dX7_beginWork_17 : decode cX7_beginWork 17 = .ok (.iconst 0, 1) := by decide +kernel
theorem dX7_beginWork_18 : decode cX7_beginWork 18 = .ok (.putfield 122, 3) := by decide +kernel
theorem dX7_beginWork_21 : decode cX7_beginWork 21 = .ok (.aload_n 0, 1) := by decide +kernel
theorem dX7_beginWork_22 : decode cX7_beginWork 22 = .ok (.getfield 59, 3) := by decide +kernel
theorem dX7_beginWork_25 : decode cX7_beginWork 25 = .ok (.iconst 0, 1) := by decide +kernel
theorem dX7_beginWork_26 : decode cX7_beginWork 26 = .ok (.invokestatic 275, 3) := by decide +kernel
theorem dX7_beginWork_29 : decode cX7_beginWork 29 = .ok (.return_, 1) := by decide +kernel
theorem dX7_setShape_0 : decode cX7_setShape 0 = .ok (.aload_n 0, 1) := by decide +kernel
theorem dX7_setShape_1 : decode cX7_setShape 1 = .ok (.iload_n 1, 1) := by decide +kernel
theorem dX7_setShape_2 : decode cX7_setShape 2 = .ok (.putfield 150, 3) := by decide +kernel
theorem dX7_setShape_5 : decode cX7_setShape 5 = .ok (.aload_n 0, 1) := by decide +kernel
theorem dX7_setShape_6 : decode cX7_setShape 6 = .ok (.iload_n 2, 1) := by decide +kernel
theorem dX7_setShape_7 : decode cX7_setShape 7 = .ok (.putfield 127, 3) := by decide +kernel
theorem dX7_setShape_10 : decode cX7_setShape 10 = .ok (.aload_n 0, 1) := by decide +kernel
theorem dX7_setShape_11 : decode cX7_setShape 11 = .ok (.iload_n 3, 1) := by decide +kernel
theorem dX7_setShape_12 : decode cX7_setShape 12 = .ok (.putfield 184, 3) := by decide +kernel
theorem dX7_setShape_15 : decode cX7_setShape 15 = .ok (.aload_n 0, 1) := by decide +kernel
theorem dX7_setShape_16 : decode cX7_setShape 16 = .ok (.iload 4, 2) := by decide +kernel
theorem dX7_setShape_18 : decode cX7_setShape 18 = .ok (.putfield 281, 3) := by decide +kernel
theorem dX7_setShape_21 : decode cX7_setShape 21 = .ok (.aload_n 0, 1) := by decide +kernel
theorem dX7_setShape_22 : decode cX7_setShape 22 = .ok (.getfield 28, 3) := by decide +kernel
theorem dX7_setShape_25 : decode cX7_setShape 25 = .ok (.iload 5, 2) := by decide +kernel
theorem dX7_setShape_27 : decode cX7_setShape 27 = .ok (.putfield 169, 3) := by decide +kernel
theorem dX7_setShape_30 : decode cX7_setShape 30 = .ok (.return_, 1) := by decide +kernel
theorem dX7_isWithin_0 : decode cX7_isWithin 0 = .ok (.iload_n 0, 1) := by decide +kernel
theorem dX7_isWithin_1 : decode cX7_isWithin 1 = .ok (.iload_n 1, 1) := by decide +kernel
theorem dX7_isWithin_2 : decode cX7_isWithin 2 = .ok (.if_icmp .lt 12, 3) := by decide +kernel
theorem dX7_isWithin_5 : decode cX7_isWithin 5 = .ok (.iload_n 0, 1) := by decide +kernel
theorem dX7_isWithin_6 : decode cX7_isWithin 6 = .ok (.iload_n 2, 1) := by decide +kernel
theorem dX7_isWithin_7 : decode cX7_isWithin 7 = .ok (.if_icmp .gt 7, 3) := by decide +kernel
theorem dX7_isWithin_10 : decode cX7_isWithin 10 = .ok (.iconst 1, 1) := by decide +kernel
theorem dX7_isWithin_11 : decode cX7_isWithin 11 = .ok (.goto 4, 3) := by decide +kernel
theorem dX7_isWithin_14 : decode cX7_isWithin 14 = .ok (.iconst 0, 1) := by decide +kernel
theorem dX7_isWithin_15 : decode cX7_isWithin 15 = .ok (.ireturn, 1) := by decide +kernel
theorem dX7_isKey_0 : decode cX7_isKey 0 = .ok (.iload_n 0, 1) := by decide +kernel
theorem dX7_isKey_1 : decode cX7_isKey 1 = .ok (.iconst 0, 1) := by decide +kernel
theorem dX7_isKey_2 : decode cX7_isKey 2 = .ok (.bipush 99, 2) := by decide +kernel
theorem dX7_isKey_4 : decode cX7_isKey 4 = .ok (.invokestatic 66, 3) := by decide +kernel
theorem dX7_isKey_7 : decode cX7_isKey 7 = .ok (.ireturn, 1) := by decide +kernel
theorem dX7_isFold_0 : decode cX7_isFold 0 = .ok (.iload_n 1, 1) := by decide +kernel
theorem dX7_isFold_1 : decode cX7_isFold 1 = .ok (.iconst 0, 1) := by decide +kernel
theorem dX7_isFold_2 : decode cX7_isFold 2 = .ok (.aload_n 0, 1) := by decide +kernel
theorem dX7_isFold_3 : decode cX7_isFold 3 = .ok (.getfield 12, 3) := by decide +kernel
theorem dX7_isFold_6 : decode cX7_isFold 6 = .ok (.getfield 88, 3) := by decide +kernel
theorem dX7_isFold_9 : decode cX7_isFold 9 = .ok (.iconst 1, 1) := by decide +kernel
theorem dX7_isFold_10 : decode cX7_isFold 10 = .ok (.isub, 1) := by decide +kernel
theorem dX7_isFold_11 : decode cX7_isFold 11 = .ok (.invokestatic 66, 3) := by decide +kernel
theorem dX7_isFold_14 : decode cX7_isFold 14 = .ok (.ireturn, 1) := by decide +kernel
theorem dX7_isPlace_0 : decode cX7_isPlace 0 = .ok (.iload_n 1, 1) := by decide +kernel
theorem dX7_isPlace_1 : decode cX7_isPlace 1 = .ok (.iconst 0, 1) := by decide +kernel
theorem dX7_isPlace_2 : decode cX7_isPlace 2 = .ok (.aload_n 0, 1) := by decide +kernel
theorem dX7_isPlace_3 : decode cX7_isPlace 3 = .ok (.getfield 150, 3) := by decide +kernel
theorem dX7_isPlace_6 : decode cX7_isPlace 6 = .ok (.iconst 1, 1) := by decide +kernel
theorem dX7_isPlace_7 : decode cX7_isPlace 7 = .ok (.isub, 1) := by decide +kernel
theorem dX7_isPlace_8 : decode cX7_isPlace 8 = .ok (.invokestatic 66, 3) := by decide +kernel
theorem dX7_isPlace_11 : decode cX7_isPlace 11 = .ok (.ireturn, 1) := by decide +kernel
theorem dX7_remainder_0 : decode cX7_remainder 0 = .ok (.iload_n 1, 1) := by decide +kernel
theorem dX7_remainder_1 : decode cX7_remainder 1 = .ok (.ifCond .le 9, 3) := by decide +kernel
theorem dX7_remainder_4 : decode cX7_remainder 4 = .ok (.iload_n 0, 1) := by decide +kernel
theorem dX7_remainder_5 : decode cX7_remainder 5 = .ok (.iload_n 1, 1) := by decide +kernel
theorem dX7_remainder_6 : decode cX7_remainder 6 = .ok (.irem, 1) := by decide +kernel
theorem dX7_remainder_7 : decode cX7_remainder 7 = .ok (.goto 4, 3) := by decide +kernel
theorem dX7_remainder_10 : decode cX7_remainder 10 = .ok (.iconst 0, 1) := by decide +kernel
theorem dX7_remainder_11 : decode cX7_remainder 11 = .ok (.ireturn, 1) := by decide +kernel
theorem dX7_quotient_0 : decode cX7_quotient 0 = .ok (.iload_n 1, 1) := by decide +kernel
theorem dX7_quotient_1 : decode cX7_quotient 1 = .ok (.ifCond .le 9, 3) := by decide +kernel
theorem dX7_quotient_4 : decode cX7_quotient 4 = .ok (.iload_n 0, 1) := by decide +kernel
theorem dX7_quotient_5 : decode cX7_quotient 5 = .ok (.iload_n 1, 1) := by decide +kernel
theorem dX7_quotient_6 : decode cX7_quotient 6 = .ok (.idiv, 1) := by decide +kernel
theorem dX7_quotient_7 : decode cX7_quotient 7 = .ok (.goto 4, 3) := by decide +kernel
theorem dX7_quotient_10 : decode cX7_quotient 10 = .ok (.iconst 0, 1) := by decide +kernel
theorem dX7_quotient_11 : decode cX7_quotient 11 = .ok (.ireturn, 1) := by decide +kernel
theorem dX7_partOfRow_0 : decode cX7_partOfRow 0 = .ok (.iload_n 0, 1) := by decide +kernel
theorem dX7_partOfRow_1 : decode cX7_partOfRow 1 = .ok (.ldc_w 284, 3) := by decide +kernel
theorem dX7_partOfRow_4 : decode cX7_partOfRow 4 = .ok (.imul, 1) := by decide +kernel
theorem dX7_partOfRow_5 : decode cX7_partOfRow 5 = .ok (.bipush 16, 2) := by decide +kernel
theorem dX7_partOfRow_7 : decode cX7_partOfRow 7 = .ok (.iushr, 1) := by decide +kernel
theorem dX7_partOfRow_8 : decode cX7_partOfRow 8 = .ok (.iload_n 1, 1) := by decide +kernel
theorem dX7_partOfRow_9 : decode cX7_partOfRow 9 = .ok (.invokestatic 285, 3) := by decide +kernel
theorem dX7_partOfRow_12 : decode cX7_partOfRow 12 = .ok (.ireturn, 1) := by decide +kernel
theorem dX7_placeOfPart_0 : decode cX7_placeOfPart 0 = .ok (.iload_n 1, 1) := by decide +kernel
theorem dX7_placeOfPart_1 : decode cX7_placeOfPart 1 = .ok (.aload_n 0, 1) := by decide +kernel
theorem dX7_placeOfPart_2 : decode cX7_placeOfPart 2 = .ok (.getfield 150, 3) := by decide +kernel
theorem dX7_placeOfPart_5 : decode cX7_placeOfPart 5 = .ok (.invokestatic 285, 3) := by decide +kernel
theorem dX7_placeOfPart_8 : decode cX7_placeOfPart 8 = .ok (.iload_n 2, 1) := by decide +kernel
theorem dX7_placeOfPart_9 : decode cX7_placeOfPart 9 = .ok (.iadd, 1) := by decide +kernel
theorem dX7_placeOfPart_10 : decode cX7_placeOfPart 10 = .ok (.aload_n 0, 1) := by decide +kernel
theorem dX7_placeOfPart_11 : decode cX7_placeOfPart 11 = .ok (.getfield 150, 3) := by decide +kernel
theorem dX7_placeOfPart_14 : decode cX7_placeOfPart 14 = .ok (.invokestatic 285, 3) := by decide +kernel
theorem dX7_placeOfPart_17 : decode cX7_placeOfPart 17 = .ok (.ireturn, 1) := by decide +kernel
theorem dX7_hasPartAt_0 : decode cX7_hasPartAt 0 = .ok (.aload_n 0, 1) := by decide +kernel
theorem dX7_hasPartAt_1 : decode cX7_hasPartAt 1 = .ok (.getfield 21, 3) := by decide +kernel
theorem dX7_hasPartAt_4 : decode cX7_hasPartAt 4 = .ok (.iload_n 1, 1) := by decide +kernel
theorem dX7_hasPartAt_5 : decode cX7_hasPartAt 5 = .ok (.invokevirtual 103, 3) := by decide +kernel
theorem dX7_hasPartAt_8 : decode cX7_hasPartAt 8 = .ok (.istore_n 3, 1) := by decide +kernel
theorem dX7_hasPartAt_9 : decode cX7_hasPartAt 9 = .ok (.iconst 0, 1) := by decide +kernel
theorem dX7_hasPartAt_10 : decode cX7_hasPartAt 10 = .ok (.istore 4, 2) := by decide +kernel
theorem dX7_hasPartAt_12 : decode cX7_hasPartAt 12 = .ok (.iload 4, 2) := by decide +kernel
theorem dX7_hasPartAt_14 : decode cX7_hasPartAt 14 = .ok (.iload_n 3, 1) := by decide +kernel
theorem dX7_hasPartAt_15 : decode cX7_hasPartAt 15 = .ok (.if_icmp .ge 22, 3) := by decide +kernel
theorem dX7_hasPartAt_18 : decode cX7_hasPartAt 18 = .ok (.aload_n 0, 1) := by decide +kernel
theorem dX7_hasPartAt_19 : decode cX7_hasPartAt 19 = .ok (.iload_n 1, 1) := by decide +kernel
theorem dX7_hasPartAt_20 : decode cX7_hasPartAt 20 = .ok (.iload 4, 2) := by decide +kernel
theorem dX7_hasPartAt_22 : decode cX7_hasPartAt 22 = .ok (.invokevirtual 111, 3) := by decide +kernel
theorem dX7_hasPartAt_25 : decode cX7_hasPartAt 25 = .ok (.iload_n 2, 1) := by decide +kernel
theorem dX7_hasPartAt_26 : decode cX7_hasPartAt 26 = .ok (.if_icmp .ne 5, 3) := by decide +kernel
theorem dX7_hasPartAt_29 : decode cX7_hasPartAt 29 = .ok (.iconst 1, 1) := by decide +kernel
theorem dX7_hasPartAt_30 : decode cX7_hasPartAt 30 = .ok (.ireturn, 1) := by decide +kernel
theorem dX7_hasPartAt_31 : decode cX7_hasPartAt 31 = .ok (.iinc 4 1, 3) := by decide +kernel
theorem dX7_hasPartAt_34 : decode cX7_hasPartAt 34 = .ok (.goto (-22), 3) := by decide +kernel
theorem dX7_hasPartAt_37 : decode cX7_hasPartAt 37 = .ok (.iconst 0, 1) := by decide +kernel
theorem dX7_hasPartAt_38 : decode cX7_hasPartAt 38 = .ok (.ireturn, 1) := by decide +kernel
theorem dX7_joinOfTree_0 : decode cX7_joinOfTree 0 = .ok (.iconst 0, 1) := by decide +kernel
theorem dX7_joinOfTree_1 : decode cX7_joinOfTree 1 = .ok (.istore_n 2, 1) := by decide +kernel
theorem dX7_joinOfTree_2 : decode cX7_joinOfTree 2 = .ok (.iconst 1, 1) := by decide +kernel
theorem dX7_joinOfTree_3 : decode cX7_joinOfTree 3 = .ok (.istore_n 3, 1) := by decide +kernel
end
section
theorem dX7_joinOfTree_4 : decode cX7_joinOfTree 4 = .ok (.iload_n 3, 1) := by decide +kernel
theorem dX7_joinOfTree_5 : decode cX7_joinOfTree 5 = .ok (.iload_n 0, 1) := by decide +kernel
theorem dX7_joinOfTree_6 : decode cX7_joinOfTree 6 = .ok (.if_icmp .ge 51, 3) := by decide +kernel
theorem dX7_joinOfTree_9 : decode cX7_joinOfTree 9 = .ok (.iconst 0, 1) := by decide +kernel
theorem dX7_joinOfTree_10 : decode cX7_joinOfTree 10 = .ok (.istore 4, 2) := by decide +kernel
theorem dX7_joinOfTree_12 : decode cX7_joinOfTree 12 = .ok (.iload 4, 2) := by decide +kernel
theorem dX7_joinOfTree_14 : decode cX7_joinOfTree 14 = .ok (.iload_n 3, 1) := by decide +kernel
theorem dX7_joinOfTree_15 : decode cX7_joinOfTree 15 = .ok (.iadd, 1) := by decide +kernel
theorem dX7_joinOfTree_16 : decode cX7_joinOfTree 16 = .ok (.iload_n 0, 1) := by decide +kernel
theorem dX7_joinOfTree_17 : decode cX7_joinOfTree 17 = .ok (.if_icmp .ge 33, 3) := by decide +kernel
theorem dX7_joinOfTree_20 : decode cX7_joinOfTree 20 = .ok (.iload_n 2, 1) := by decide +kernel
theorem dX7_joinOfTree_21 : decode cX7_joinOfTree 21 = .ok (.iload_n 1, 1) := by decide +kernel
theorem dX7_joinOfTree_22 : decode cX7_joinOfTree 22 = .ok (.if_icmp .ne 14, 3) := by decide +kernel
theorem dX7_joinOfTree_25 : decode cX7_joinOfTree 25 = .ok (.bipush 8, 2) := by decide +kernel
theorem dX7_joinOfTree_27 : decode cX7_joinOfTree 27 = .ok (.iload 4, 2) := by decide +kernel
theorem dX7_joinOfTree_29 : decode cX7_joinOfTree 29 = .ok (.imul, 1) := by decide +kernel
theorem dX7_joinOfTree_30 : decode cX7_joinOfTree 30 = .ok (.iload 4, 2) := by decide +kernel
theorem dX7_joinOfTree_32 : decode cX7_joinOfTree 32 = .ok (.iadd, 1) := by decide +kernel
theorem dX7_joinOfTree_33 : decode cX7_joinOfTree 33 = .ok (.iload_n 3, 1) := by decide +kernel
theorem dX7_joinOfTree_34 : decode cX7_joinOfTree 34 = .ok (.iadd, 1) := by decide +kernel
theorem dX7_joinOfTree_35 : decode cX7_joinOfTree 35 = .ok (.ireturn, 1) := by decide +kernel
theorem dX7_joinOfTree_36 : decode cX7_joinOfTree 36 = .ok (.iinc 2 1, 3) := by decide +kernel
theorem dX7_joinOfTree_39 : decode cX7_joinOfTree 39 = .ok (.iload 4, 2) := by decide +kernel
theorem dX7_joinOfTree_41 : decode cX7_joinOfTree 41 = .ok (.iconst 2, 1) := by decide +kernel
theorem dX7_joinOfTree_42 : decode cX7_joinOfTree 42 = .ok (.iload_n 3, 1) := by decide +kernel
theorem dX7_joinOfTree_43 : decode cX7_joinOfTree 43 = .ok (.imul, 1) := by decide +kernel
theorem dX7_joinOfTree_44 : decode cX7_joinOfTree 44 = .ok (.iadd, 1) := by decide +kernel
theorem dX7_joinOfTree_45 : decode cX7_joinOfTree 45 = .ok (.istore 4, 2) := by decide +kernel
theorem dX7_joinOfTree_47 : decode cX7_joinOfTree 47 = .ok (.goto (-35), 3) := by decide +kernel
theorem dX7_joinOfTree_50 : decode cX7_joinOfTree 50 = .ok (.iload_n 3, 1) := by decide +kernel
theorem dX7_joinOfTree_51 : decode cX7_joinOfTree 51 = .ok (.iload_n 3, 1) := by decide +kernel
theorem dX7_joinOfTree_52 : decode cX7_joinOfTree 52 = .ok (.iadd, 1) := by decide +kernel
theorem dX7_joinOfTree_53 : decode cX7_joinOfTree 53 = .ok (.istore_n 3, 1) := by decide +kernel
theorem dX7_joinOfTree_54 : decode cX7_joinOfTree 54 = .ok (.goto (-50), 3) := by decide +kernel
theorem dX7_joinOfTree_57 : decode cX7_joinOfTree 57 = .ok (.iconst (-1), 1) := by decide +kernel
theorem dX7_joinOfTree_58 : decode cX7_joinOfTree 58 = .ok (.ireturn, 1) := by decide +kernel
theorem dX7_endRound_0 : decode cX7_endRound 0 = .ok (.aload_n 0, 1) := by decide +kernel
theorem dX7_endRound_1 : decode cX7_endRound 1 = .ok (.invokevirtual 288, 3) := by decide +kernel
theorem dX7_endRound_4 : decode cX7_endRound 4 = .ok (.aload_n 0, 1) := by decide +kernel
theorem dX7_endRound_5 : decode cX7_endRound 5 = .ok (.invokevirtual 291, 3) := by decide +kernel
theorem dX7_endRound_8 : decode cX7_endRound 8 = .ok (.aload_n 0, 1) := by decide +kernel
theorem dX7_endRound_9 : decode cX7_endRound 9 = .ok (.getfield 28, 3) := by decide +kernel
theorem dX7_endRound_12 : decode cX7_endRound 12 = .ok (.iconst 0, 1) := by decide +kernel
theorem dX7_endRound_13 : decode cX7_endRound 13 = .ok (.putfield 272, 3) := by decide +kernel
theorem dX7_endRound_16 : decode cX7_endRound 16 = .ok (.aload_n 0, 1) := by decide +kernel
theorem dX7_endRound_17 : decode cX7_endRound 17 = .ok (.iconst 0, 1) := by decide +kernel
theorem dX7_endRound_18 : decode cX7_endRound 18 = .ok (.putfield 122, 3) := by decide +kernel
theorem dX7_endRound_21 : decode cX7_endRound 21 = .ok (.aload_n 0, 1) := by decide +kernel
theorem dX7_endRound_22 : decode cX7_endRound 22 = .ok (.dup, 1) := by decide +kernel
theorem dX7_endRound_23 : decode cX7_endRound 23 = .ok (.getfield 252, 3) := by decide +kernel
theorem dX7_endRound_26 : decode cX7_endRound 26 = .ok (.iconst 1, 1) := by decide +kernel
theorem dX7_endRound_27 : decode cX7_endRound 27 = .ok (.iadd, 1) := by decide +kernel
theorem dX7_endRound_28 : decode cX7_endRound 28 = .ok (.putfield 252, 3) := by decide +kernel
theorem dX7_endRound_31 : decode cX7_endRound 31 = .ok (.return_, 1) := by decide +kernel
theorem dX7_splitHotKeys_0 : decode cX7_splitHotKeys 0 = .ok (.iconst 0, 1) := by decide +kernel
theorem dX7_splitHotKeys_1 : decode cX7_splitHotKeys 1 = .ok (.istore_n 1, 1) := by decide +kernel
theorem dX7_splitHotKeys_2 : decode cX7_splitHotKeys 2 = .ok (.iload_n 1, 1) := by decide +kernel
theorem dX7_splitHotKeys_3 : decode cX7_splitHotKeys 3 = .ok (.aload_n 0, 1) := by decide +kernel
theorem dX7_splitHotKeys_4 : decode cX7_splitHotKeys 4 = .ok (.getfield 28, 3) := by decide +kernel
theorem dX7_splitHotKeys_7 : decode cX7_splitHotKeys 7 = .ok (.getfield 272, 3) := by decide +kernel
theorem dX7_splitHotKeys_10 : decode cX7_splitHotKeys 10 = .ok (.if_icmp .ge 111, 3) := by decide +kernel
theorem dX7_splitHotKeys_13 : decode cX7_splitHotKeys 13 = .ok (.aload_n 0, 1) := by decide +kernel
theorem dX7_splitHotKeys_14 : decode cX7_splitHotKeys 14 = .ok (.getfield 28, 3) := by decide +kernel
theorem dX7_splitHotKeys_17 : decode cX7_splitHotKeys 17 = .ok (.iload_n 1, 1) := by decide +kernel
theorem dX7_splitHotKeys_18 : decode cX7_splitHotKeys 18 = .ok (.invokevirtual 172, 3) := by decide +kernel
theorem dX7_splitHotKeys_21 : decode cX7_splitHotKeys 21 = .ok (.istore_n 2, 1) := by decide +kernel
theorem dX7_splitHotKeys_22 : decode cX7_splitHotKeys 22 = .ok (.aload_n 0, 1) := by decide +kernel
theorem dX7_splitHotKeys_23 : decode cX7_splitHotKeys 23 = .ok (.getfield 28, 3) := by decide +kernel
theorem dX7_splitHotKeys_26 : decode cX7_splitHotKeys 26 = .ok (.iload_n 1, 1) := by decide +kernel
theorem dX7_splitHotKeys_27 : decode cX7_splitHotKeys 27 = .ok (.invokevirtual 294, 3) := by decide +kernel
theorem dX7_splitHotKeys_30 : decode cX7_splitHotKeys 30 = .ok (.aload_n 0, 1) := by decide +kernel
theorem dX7_splitHotKeys_31 : decode cX7_splitHotKeys 31 = .ok (.getfield 184, 3) := by decide +kernel
theorem dX7_splitHotKeys_34 : decode cX7_splitHotKeys 34 = .ok (.if_icmp .lt 81, 3) := by decide +kernel
theorem dX7_splitHotKeys_37 : decode cX7_splitHotKeys 37 = .ok (.aload_n 0, 1) := by decide +kernel
theorem dX7_splitHotKeys_38 : decode cX7_splitHotKeys 38 = .ok (.getfield 21, 3) := by decide +kernel
theorem dX7_splitHotKeys_41 : decode cX7_splitHotKeys 41 = .ok (.iload_n 2, 1) := by decide +kernel
theorem dX7_splitHotKeys_42 : decode cX7_splitHotKeys 42 = .ok (.invokevirtual 153, 3) := by decide +kernel
theorem dX7_splitHotKeys_45 : decode cX7_splitHotKeys 45 = .ok (.ifCond .ne 70, 3) := by decide +kernel
theorem dX7_splitHotKeys_48 : decode cX7_splitHotKeys 48 = .ok (.aload_n 0, 1) := by decide +kernel
theorem dX7_splitHotKeys_49 : decode cX7_splitHotKeys 49 = .ok (.getfield 12, 3) := by decide +kernel
theorem dX7_splitHotKeys_52 : decode cX7_splitHotKeys 52 = .ok (.invokevirtual 156, 3) := by decide +kernel
theorem dX7_splitHotKeys_55 : decode cX7_splitHotKeys 55 = .ok (.ifCond .eq 50, 3) := by decide +kernel
theorem dX7_splitHotKeys_58 : decode cX7_splitHotKeys 58 = .ok (.aload_n 0, 1) := by decide +kernel
theorem dX7_splitHotKeys_59 : decode cX7_splitHotKeys 59 = .ok (.getfield 28, 3) := by decide +kernel
theorem dX7_splitHotKeys_62 : decode cX7_splitHotKeys 62 = .ok (.iload_n 1, 1) := by decide +kernel
theorem dX7_splitHotKeys_63 : decode cX7_splitHotKeys 63 = .ok (.invokevirtual 175, 3) := by decide +kernel
theorem dX7_splitHotKeys_66 : decode cX7_splitHotKeys 66 = .ok (.aload_n 0, 1) := by decide +kernel
theorem dX7_splitHotKeys_67 : decode cX7_splitHotKeys 67 = .ok (.getfield 184, 3) := by decide +kernel
theorem dX7_splitHotKeys_70 : decode cX7_splitHotKeys 70 = .ok (.invokestatic 297, 3) := by decide +kernel
theorem dX7_splitHotKeys_73 : decode cX7_splitHotKeys 73 = .ok (.iconst 1, 1) := by decide +kernel
theorem dX7_splitHotKeys_74 : decode cX7_splitHotKeys 74 = .ok (.iadd, 1) := by decide +kernel
theorem dX7_splitHotKeys_75 : decode cX7_splitHotKeys 75 = .ok (.istore_n 3, 1) := by decide +kernel
theorem dX7_splitHotKeys_76 : decode cX7_splitHotKeys 76 = .ok (.aload_n 0, 1) := by decide +kernel
theorem dX7_splitHotKeys_77 : decode cX7_splitHotKeys 77 = .ok (.getfield 21, 3) := by decide +kernel
theorem dX7_splitHotKeys_80 : decode cX7_splitHotKeys 80 = .ok (.iload_n 2, 1) := by decide +kernel
theorem dX7_splitHotKeys_81 : decode cX7_splitHotKeys 81 = .ok (.aload_n 0, 1) := by decide +kernel
theorem dX7_splitHotKeys_82 : decode cX7_splitHotKeys 82 = .ok (.getfield 150, 3) := by decide +kernel
theorem dX7_splitHotKeys_85 : decode cX7_splitHotKeys 85 = .ok (.iload_n 3, 1) := by decide +kernel
theorem dX7_splitHotKeys_86 : decode cX7_splitHotKeys 86 = .ok (.invokestatic 300, 3) := by decide +kernel
theorem dX7_splitHotKeys_89 : decode cX7_splitHotKeys 89 = .ok (.invokevirtual 160, 3) := by decide +kernel
theorem dX7_splitHotKeys_92 : decode cX7_splitHotKeys 92 = .ok (.aload_n 0, 1) := by decide +kernel
theorem dX7_splitHotKeys_93 : decode cX7_splitHotKeys 93 = .ok (.dup, 1) := by decide +kernel
theorem dX7_splitHotKeys_94 : decode cX7_splitHotKeys 94 = .ok (.getfield 255, 3) := by decide +kernel
theorem dX7_splitHotKeys_97 : decode cX7_splitHotKeys 97 = .ok (.iconst 1, 1) := by decide +kernel
theorem dX7_splitHotKeys_98 : decode cX7_splitHotKeys 98 = .ok (.iadd, 1) := by decide +kernel
theorem dX7_splitHotKeys_99 : decode cX7_splitHotKeys 99 = .ok (.putfield 255, 3) := by decide +kernel
theorem dX7_splitHotKeys_102 : decode cX7_splitHotKeys 102 = .ok (.goto 13, 3) := by decide +kernel
theorem dX7_splitHotKeys_105 : decode cX7_splitHotKeys 105 = .ok (.aload_n 0, 1) := by decide +kernel
theorem dX7_splitHotKeys_106 : decode cX7_splitHotKeys 106 = .ok (.dup, 1) := by decide +kernel
theorem dX7_splitHotKeys_107 : decode cX7_splitHotKeys 107 = .ok (.getfield 258, 3) := by decide +kernel
theorem dX7_splitHotKeys_110 : decode cX7_splitHotKeys 110 = .ok (.iconst 1, 1) := by decide +kernel
theorem dX7_splitHotKeys_111 : decode cX7_splitHotKeys 111 = .ok (.iadd, 1) := by decide +kernel
theorem dX7_splitHotKeys_112 : decode cX7_splitHotKeys 112 = .ok (.putfield 258, 3) := by decide +kernel
theorem dX7_splitHotKeys_115 : decode cX7_splitHotKeys 115 = .ok (.iinc 1 1, 3) := by decide +kernel
theorem dX7_splitHotKeys_118 : decode cX7_splitHotKeys 118 = .ok (.goto (-116), 3) := by decide +kernel
theorem dX7_splitHotKeys_121 : decode cX7_splitHotKeys 121 = .ok (.return_, 1) := by decide +kernel
theorem dX7_joinCoolKeys_0 : decode cX7_joinCoolKeys 0 = .ok (.iconst 0, 1) := by decide +kernel
theorem dX7_joinCoolKeys_1 : decode cX7_joinCoolKeys 1 = .ok (.istore_n 1, 1) := by decide +kernel
theorem dX7_joinCoolKeys_2 : decode cX7_joinCoolKeys 2 = .ok (.iload_n 1, 1) := by decide +kernel
theorem dX7_joinCoolKeys_3 : decode cX7_joinCoolKeys 3 = .ok (.bipush 100, 2) := by decide +kernel
theorem dX7_joinCoolKeys_5 : decode cX7_joinCoolKeys 5 = .ok (.if_icmp .ge 59, 3) := by decide +kernel
theorem dX7_joinCoolKeys_8 : decode cX7_joinCoolKeys 8 = .ok (.aload_n 0, 1) := by decide +kernel
theorem dX7_joinCoolKeys_9 : decode cX7_joinCoolKeys 9 = .ok (.getfield 21, 3) := by decide +kernel
theorem dX7_joinCoolKeys_12 : decode cX7_joinCoolKeys 12 = .ok (.iload_n 1, 1) := by decide +kernel
theorem dX7_joinCoolKeys_13 : decode cX7_joinCoolKeys 13 = .ok (.invokevirtual 153, 3) := by decide +kernel
theorem dX7_joinCoolKeys_16 : decode cX7_joinCoolKeys 16 = .ok (.ifCond .eq 42, 3) := by decide +kernel
theorem dX7_joinCoolKeys_19 : decode cX7_joinCoolKeys 19 = .ok (.aload_n 0, 1) := by decide +kernel
theorem dX7_joinCoolKeys_20 : decode cX7_joinCoolKeys 20 = .ok (.getfield 28, 3) := by decide +kernel
theorem dX7_joinCoolKeys_23 : decode cX7_joinCoolKeys 23 = .ok (.iload_n 1, 1) := by decide +kernel
theorem dX7_joinCoolKeys_24 : decode cX7_joinCoolKeys 24 = .ok (.invokevirtual 187, 3) := by decide +kernel
theorem dX7_joinCoolKeys_27 : decode cX7_joinCoolKeys 27 = .ok (.aload_n 0, 1) := by decide +kernel
theorem dX7_joinCoolKeys_28 : decode cX7_joinCoolKeys 28 = .ok (.getfield 184, 3) := by decide +kernel
theorem dX7_joinCoolKeys_31 : decode cX7_joinCoolKeys 31 = .ok (.aload_n 0, 1) := by decide +kernel
theorem dX7_joinCoolKeys_32 : decode cX7_joinCoolKeys 32 = .ok (.getfield 281, 3) := by decide +kernel
theorem dX7_joinCoolKeys_35 : decode cX7_joinCoolKeys 35 = .ok (.isub, 1) := by decide +kernel
theorem dX7_joinCoolKeys_36 : decode cX7_joinCoolKeys 36 = .ok (.if_icmp .ge 22, 3) := by decide +kernel
theorem dX7_joinCoolKeys_39 : decode cX7_joinCoolKeys 39 = .ok (.aload_n 0, 1) := by decide +kernel
theorem dX7_joinCoolKeys_40 : decode cX7_joinCoolKeys 40 = .ok (.getfield 21, 3) := by decide +kernel
theorem dX7_joinCoolKeys_43 : decode cX7_joinCoolKeys 43 = .ok (.iload_n 1, 1) := by decide +kernel
theorem dX7_joinCoolKeys_44 : decode cX7_joinCoolKeys 44 = .ok (.invokevirtual 163, 3) := by decide +kernel
theorem dX7_joinCoolKeys_47 : decode cX7_joinCoolKeys 47 = .ok (.pop, 1) := by decide +kernel
theorem dX7_joinCoolKeys_48 : decode cX7_joinCoolKeys 48 = .ok (.aload_n 0, 1) := by decide +kernel
theorem dX7_joinCoolKeys_49 : decode cX7_joinCoolKeys 49 = .ok (.dup, 1) := by decide +kernel
theorem dX7_joinCoolKeys_50 : decode cX7_joinCoolKeys 50 = .ok (.getfield 255, 3) := by decide +kernel
theorem dX7_joinCoolKeys_53 : decode cX7_joinCoolKeys 53 = .ok (.iconst 1, 1) := by decide +kernel
theorem dX7_joinCoolKeys_54 : decode cX7_joinCoolKeys 54 = .ok (.iadd, 1) := by decide +kernel
theorem dX7_joinCoolKeys_55 : decode cX7_joinCoolKeys 55 = .ok (.putfield 255, 3) := by decide +kernel
theorem dX7_joinCoolKeys_58 : decode cX7_joinCoolKeys 58 = .ok (.iinc 1 1, 3) := by decide +kernel
theorem dX7_joinCoolKeys_61 : decode cX7_joinCoolKeys 61 = .ok (.goto (-59), 3) := by decide +kernel
theorem dX7_joinCoolKeys_64 : decode cX7_joinCoolKeys 64 = .ok (.return_, 1) := by decide +kernel
theorem dX7_ring_0 : decode cX7_ring 0 = .ok (.aload_n 0, 1) := by decide +kernel
theorem dX7_ring_1 : decode cX7_ring 1 = .ok (.getfield 49, 3) := by decide +kernel
theorem dX7_ring_4 : decode cX7_ring 4 = .ok (.iload_n 1, 1) := by decide +kernel
theorem dX7_ring_5 : decode cX7_ring 5 = .ok (.iload_n 2, 1) := by decide +kernel
theorem dX7_ring_6 : decode cX7_ring 6 = .ok (.invokevirtual 305, 3) := by decide +kernel
theorem dX7_ring_9 : decode cX7_ring 9 = .ok (.istore_n 3, 1) := by decide +kernel
theorem dX7_ring_10 : decode cX7_ring 10 = .ok (.iconst 0, 1) := by decide +kernel
theorem dX7_ring_11 : decode cX7_ring 11 = .ok (.istore 4, 2) := by decide +kernel
theorem dX7_ring_13 : decode cX7_ring 13 = .ok (.iload 4, 2) := by decide +kernel
theorem dX7_ring_15 : decode cX7_ring 15 = .ok (.aload_n 0, 1) := by decide +kernel
theorem dX7_ring_16 : decode cX7_ring 16 = .ok (.getfield 12, 3) := by decide +kernel
theorem dX7_ring_19 : decode cX7_ring 19 = .ok (.getfield 88, 3) := by decide +kernel
theorem dX7_ring_22 : decode cX7_ring 22 = .ok (.if_icmp .ge 29, 3) := by decide +kernel
theorem dX7_ring_25 : decode cX7_ring 25 = .ok (.aload_n 0, 1) := by decide +kernel
theorem dX7_ring_26 : decode cX7_ring 26 = .ok (.getfield 49, 3) := by decide +kernel
theorem dX7_ring_29 : decode cX7_ring 29 = .ok (.iload_n 3, 1) := by decide +kernel
theorem dX7_ring_30 : decode cX7_ring 30 = .ok (.iload 4, 2) := by decide +kernel
theorem dX7_ring_32 : decode cX7_ring 32 = .ok (.aload_n 0, 1) := by decide +kernel
theorem dX7_ring_33 : decode cX7_ring 33 = .ok (.getfield 21, 3) := by decide +kernel
theorem dX7_ring_36 : decode cX7_ring 36 = .ok (.iload_n 1, 1) := by decide +kernel
theorem dX7_ring_37 : decode cX7_ring 37 = .ok (.iload 4, 2) := by decide +kernel
theorem dX7_ring_39 : decode cX7_ring 39 = .ok (.invokevirtual 138, 3) := by decide +kernel
theorem dX7_ring_42 : decode cX7_ring 42 = .ok (.invokevirtual 308, 3) := by decide +kernel
theorem dX7_ring_45 : decode cX7_ring 45 = .ok (.iinc 4 1, 3) := by decide +kernel
theorem dX7_ring_48 : decode cX7_ring 48 = .ok (.goto (-35), 3) := by decide +kernel
theorem dX7_ring_51 : decode cX7_ring 51 = .ok (.aload_n 0, 1) := by decide +kernel
theorem dX7_ring_52 : decode cX7_ring 52 = .ok (.getfield 21, 3) := by decide +kernel
theorem dX7_ring_55 : decode cX7_ring 55 = .ok (.iload_n 1, 1) := by decide +kernel
theorem dX7_ring_56 : decode cX7_ring 56 = .ok (.invokevirtual 312, 3) := by decide +kernel
theorem dX7_ring_59 : decode cX7_ring 59 = .ok (.return_, 1) := by decide +kernel
end
section
theorem dX8_init_0 : decode cX8_init 0 = .ok (.aload_n 0, 1) := by decide +kernel
theorem dX8_init_1 : decode cX8_init 1 = .ok (.invokespecial 1, 3) := by decide +kernel
theorem dX8_init_4 : decode cX8_init 4 = .ok (.aload_n 0, 1) := by decide +kernel
theorem dX8_init_5 : decode cX8_init 5 = .ok (.bipush 6, 2) := by decide +kernel
theorem dX8_init_7 : decode cX8_init 7 = .ok (.newarray .int, 2) := by decide +kernel
theorem dX8_init_9 : decode cX8_init 9 = .ok (.putfield 7, 3) := by decide +kernel
theorem dX8_init_12 : decode cX8_init 12 = .ok (.aload_n 0, 1) := by decide +kernel
theorem dX8_init_13 : decode cX8_init 13 = .ok (.bipush 6, 2) := by decide +kernel
theorem dX8_init_15 : decode cX8_init 15 = .ok (.newarray .boolean, 2) := by decide +kernel
theorem dX8_init_17 : decode cX8_init 17 = .ok (.putfield 13, 3) := by decide +kernel
theorem dX8_init_20 : decode cX8_init 20 = .ok (.aload_n 0, 1) := by decide +kernel
theorem dX8_init_21 : decode cX8_init 21 = .ok (.sipush 4800, 3) := by decide +kernel
theorem dX8_init_24 : decode cX8_init 24 = .ok (.newarray .long, 2) := by decide +kernel
theorem dX8_init_26 : decode cX8_init 26 = .ok (.putfield 17, 3) := by decide +kernel
theorem dX8_init_29 : decode cX8_init 29 = .ok (.aload_n 0, 1) := by decide +kernel
theorem dX8_init_30 : decode cX8_init 30 = .ok (.sipush 800, 3) := by decide +kernel
theorem dX8_init_33 : decode cX8_init 33 = .ok (.newarray .int, 2) := by decide +kernel
theorem dX8_init_35 : decode cX8_init 35 = .ok (.putfield 21, 3) := by decide +kernel
theorem dX8_init_38 : decode cX8_init 38 = .ok (.aload_n 0, 1) := by decide +kernel
theorem dX8_init_39 : decode cX8_init 39 = .ok (.sipush 800, 3) := by decide +kernel
theorem dX8_init_42 : decode cX8_init 42 = .ok (.newarray .int, 2) := by decide +kernel
theorem dX8_init_44 : decode cX8_init 44 = .ok (.putfield 24, 3) := by decide +kernel
theorem dX8_init_47 : decode cX8_init 47 = .ok (.aload_n 0, 1) := by decide +kernel
theorem dX8_init_48 : decode cX8_init 48 = .ok (.sipush 800, 3) := by decide +kernel
theorem dX8_init_51 : decode cX8_init 51 = .ok (.newarray .boolean, 2) := by decide +kernel
theorem dX8_init_53 : decode cX8_init 53 = .ok (.putfield 27, 3) := by decide +kernel
theorem dX8_init_56 : decode cX8_init 56 = .ok (.aload_n 0, 1) := by decide +kernel
theorem dX8_init_57 : decode cX8_init 57 = .ok (.sipush 800, 3) := by decide +kernel
theorem dX8_init_60 : decode cX8_init 60 = .ok (.newarray .boolean, 2) := by decide +kernel
theorem dX8_init_62 : decode cX8_init 62 = .ok (.putfield 30, 3) := by decide +kernel
theorem dX8_init_65 : decode cX8_init 65 = .ok (.aload_n 0, 1) := by decide +kernel
theorem dX8_init_66 : decode cX8_init 66 = .ok (.bipush 100, 2) := by decide +kernel
theorem dX8_init_68 : decode cX8_init 68 = .ok (.newarray .int, 2) := by decide +kernel
theorem dX8_init_70 : decode cX8_init 70 = .ok (.putfield 33, 3) := by decide +kernel
theorem dX8_init_73 : decode cX8_init 73 = .ok (.aload_n 0, 1) := by decide +kernel
theorem dX8_init_74 : decode cX8_init 74 = .ok (.bipush 8, 2) := by decide +kernel
theorem dX8_init_76 : decode cX8_init 76 = .ok (.newarray .int, 2) := by decide +kernel
theorem dX8_init_78 : decode cX8_init 78 = .ok (.putfield 36, 3) := by decide +kernel
theorem dX8_init_81 : decode cX8_init 81 = .ok (.aload_n 0, 1) := by decide +kernel
theorem dX8_init_82 : decode cX8_init 82 = .ok (.bipush 12, 2) := by decide +kernel
theorem dX8_init_84 : decode cX8_init 84 = .ok (.newarray .int, 2) := by decide +kernel
theorem dX8_init_86 : decode cX8_init 86 = .ok (.putfield 39, 3) := by decide +kernel
theorem dX8_init_89 : decode cX8_init 89 = .ok (.aload_n 0, 1) := by decide +kernel
theorem dX8_init_90 : decode cX8_init 90 = .ok (.bipush 12, 2) := by decide +kernel
theorem dX8_init_92 : decode cX8_init 92 = .ok (.newarray .int, 2) := by decide +kernel
theorem dX8_init_94 : decode cX8_init 94 = .ok (.putfield 42, 3) := by decide +kernel
theorem dX8_init_97 : decode cX8_init 97 = .ok (.aload_n 0, 1) := by decide +kernel
theorem dX8_init_98 : decode cX8_init 98 = .ok (.bipush 12, 2) := by decide +kernel
theorem dX8_init_100 : decode cX8_init 100 = .ok (.newarray .int, 2) := by decide +kernel
theorem dX8_init_102 : decode cX8_init 102 = .ok (.putfield 45, 3) := by decide +kernel
theorem dX8_init_105 : decode cX8_init 105 = .ok (.aload_n 0, 1) := by decide +kernel
theorem dX8_init_106 : decode cX8_init 106 = .ok (.bipush 60, 2) := by decide +kernel
theorem dX8_init_108 : decode cX8_init 108 = .ok (.newarray .int, 2) := by decide +kernel
theorem dX8_init_110 : decode cX8_init 110 = .ok (.putfield 48, 3) := by decide +kernel
theorem dX8_init_113 : decode cX8_init 113 = .ok (.aload_n 0, 1) := by decide +kernel
theorem dX8_init_114 : decode cX8_init 114 = .ok (.bipush 60, 2) := by decide +kernel
theorem dX8_init_116 : decode cX8_init 116 = .ok (.newarray .int, 2) := by decide +kernel
theorem dX8_init_118 : decode cX8_init 118 = .ok (.putfield 51, 3) := by decide +kernel
theorem dX8_init_121 : decode cX8_init 121 = .ok (.aload_n 0, 1) := by decide +kernel
theorem dX8_init_122 : decode cX8_init 122 = .ok (.bipush 40, 2) := by decide +kernel
theorem dX8_init_124 : decode cX8_init 124 = .ok (.newarray .int, 2) := by decide +kernel
theorem dX8_init_126 : decode cX8_init 126 = .ok (.putfield 54, 3) := by decide +kernel
theorem dX8_init_129 : decode cX8_init 129 = .ok (.aload_n 0, 1) := by decide +kernel
theorem dX8_init_130 : decode cX8_init 130 = .ok (.bipush 40, 2) := by decide +kernel
theorem dX8_init_132 : decode cX8_init 132 = .ok (.newarray .int, 2) := by decide +kernel
theorem dX8_init_134 : decode cX8_init 134 = .ok (.putfield 57, 3) := by decide +kernel
theorem dX8_init_137 : decode cX8_init 137 = .ok (.aload_n 0, 1) := by decide +kernel
theorem dX8_init_138 : decode cX8_init 138 = .ok (.bipush 64, 2) := by decide +kernel
theorem dX8_init_140 : decode cX8_init 140 = .ok (.newarray .int, 2) := by decide +kernel
theorem dX8_init_142 : decode cX8_init 142 = .ok (.putfield 60, 3) := by decide +kernel
theorem dX8_init_145 : decode cX8_init 145 = .ok (.aload_n 0, 1) := by decide +kernel
theorem dX8_init_146 : decode cX8_init 146 = .ok (.bipush 64, 2) := by decide +kernel
theorem dX8_init_148 : decode cX8_init 148 = .ok (.newarray .int, 2) := by decide +kernel
theorem dX8_init_150 : decode cX8_init 150 = .ok (.putfield 63, 3) := by decide +kernel
theorem dX8_init_153 : decode cX8_init 153 = .ok (.aload_n 0, 1) := by decide +kernel
theorem dX8_init_154 : decode cX8_init 154 = .ok (.sipush 384, 3) := by decide +kernel
theorem dX8_init_157 : decode cX8_init 157 = .ok (.newarray .long, 2) := by decide +kernel
theorem dX8_init_159 : decode cX8_init 159 = .ok (.putfield 66, 3) := by decide +kernel
theorem dX8_init_162 : decode cX8_init 162 = .ok (.aload_n 0, 1) := by decide +kernel
theorem dX8_init_163 : decode cX8_init 163 = .ok (.sipush 2400, 3) := by decide +kernel
theorem dX8_init_166 : decode cX8_init 166 = .ok (.newarray .long, 2) := by decide +kernel
theorem dX8_init_168 : decode cX8_init 168 = .ok (.putfield 69, 3) := by decide +kernel
theorem dX8_init_171 : decode cX8_init 171 = .ok (.aload_n 0, 1) := by decide +kernel
theorem dX8_init_172 : decode cX8_init 172 = .ok (.sipush 400, 3) := by decide +kernel
theorem dX8_init_175 : decode cX8_init 175 = .ok (.newarray .int, 2) := by decide +kernel
theorem dX8_init_177 : decode cX8_init 177 = .ok (.putfield 72, 3) := by decide +kernel
theorem dX8_init_180 : decode cX8_init 180 = .ok (.aload_n 0, 1) := by decide +kernel
theorem dX8_init_181 : decode cX8_init 181 = .ok (.sipush 400, 3) := by decide +kernel
theorem dX8_init_184 : decode cX8_init 184 = .ok (.newarray .boolean, 2) := by decide +kernel
theorem dX8_init_186 : decode cX8_init 186 = .ok (.putfield 75, 3) := by decide +kernel
theorem dX8_init_189 : decode cX8_init 189 = .ok (.aload_n 0, 1) := by decide +kernel
theorem dX8_init_190 : decode cX8_init 190 = .ok (.iconst 4, 1) := by decide +kernel
theorem dX8_init_191 : decode cX8_init 191 = .ok (.newarray .int, 2) := by decide +kernel
theorem dX8_init_193 : decode cX8_init 193 = .ok (.putfield 78, 3) := by decide +kernel
theorem dX8_init_196 : decode cX8_init 196 = .ok (.aload_n 0, 1) := by decide +kernel
theorem dX8_init_197 : decode cX8_init 197 = .ok (.sipush 240, 3) := by decide +kernel
theorem dX8_init_200 : decode cX8_init 200 = .ok (.newarray .int, 2) := by decide +kernel
theorem dX8_init_202 : decode cX8_init 202 = .ok (.putfield 81, 3) := by decide +kernel
theorem dX8_init_205 : decode cX8_init 205 = .ok (.aload_n 0, 1) := by decide +kernel
theorem dX8_init_206 : decode cX8_init 206 = .ok (.sipush 240, 3) := by decide +kernel
theorem dX8_init_209 : decode cX8_init 209 = .ok (.newarray .int, 2) := by decide +kernel
theorem dX8_init_211 : decode cX8_init 211 = .ok (.putfield 84, 3) := by decide +kernel
theorem dX8_init_214 : decode cX8_init 214 = .ok (.aload_n 0, 1) := by decide +kernel
theorem dX8_init_215 : decode cX8_init 215 = .ok (.iconst 4, 1) := by decide +kernel
theorem dX8_init_216 : decode cX8_init 216 = .ok (.newarray .int, 2) := by decide +kernel
theorem dX8_init_218 : decode cX8_init 218 = .ok (.putfield 87, 3) := by decide +kernel
theorem dX8_init_221 : decode cX8_init 221 = .ok (.aload_n 0, 1) := by decide +kernel
theorem dX8_init_222 : decode cX8_init 222 = .ok (.sipush 160, 3) := by decide +kernel
theorem dX8_init_225 : decode cX8_init 225 = .ok (.newarray .int, 2) := by decide +kernel
theorem dX8_init_227 : decode cX8_init 227 = .ok (.putfield 90, 3) := by decide +kernel
theorem dX8_init_230 : decode cX8_init 230 = .ok (.aload_n 0, 1) := by decide +kernel
theorem dX8_init_231 : decode cX8_init 231 = .ok (.sipush 160, 3) := by decide +kernel
theorem dX8_init_234 : decode cX8_init 234 = .ok (.newarray .int, 2) := by decide +kernel
theorem dX8_init_236 : decode cX8_init 236 = .ok (.putfield 93, 3) := by decide +kernel
theorem dX8_init_239 : decode cX8_init 239 = .ok (.aload_n 0, 1) := by decide +kernel
theorem dX8_init_240 : decode cX8_init 240 = .ok (.iconst 4, 1) := by decide +kernel
theorem dX8_init_241 : decode cX8_init 241 = .ok (.newarray .int, 2) := by decide +kernel
theorem dX8_init_243 : decode cX8_init 243 = .ok (.putfield 96, 3) := by decide +kernel
theorem dX8_init_246 : decode cX8_init 246 = .ok (.aload_n 0, 1) := by decide +kernel
theorem dX8_init_247 : decode cX8_init 247 = .ok (.iconst 4, 1) := by decide +kernel
theorem dX8_init_248 : decode cX8_init 248 = .ok (.newarray .int, 2) := by decide +kernel
theorem dX8_init_250 : decode cX8_init 250 = .ok (.putfield 99, 3) := by decide +kernel
theorem dX8_init_253 : decode cX8_init 253 = .ok (.aload_n 0, 1) := by decide +kernel
theorem dX8_init_254 : decode cX8_init 254 = .ok (.iconst 4, 1) := by decide +kernel
theorem dX8_init_255 : decode cX8_init 255 = .ok (.newarray .int, 2) := by decide +kernel
theorem dX8_init_257 : decode cX8_init 257 = .ok (.putfield 102, 3) := by decide +kernel
theorem dX8_init_260 : decode cX8_init 260 = .ok (.aload_n 0, 1) := by decide +kernel
theorem dX8_init_261 : decode cX8_init 261 = .ok (.iconst 4, 1) := by decide +kernel
theorem dX8_init_262 : decode cX8_init 262 = .ok (.newarray .long, 2) := by decide +kernel
theorem dX8_init_264 : decode cX8_init 264 = .ok (.putfield 105, 3) := by decide +kernel
theorem dX8_init_267 : decode cX8_init 267 = .ok (.aload_n 0, 1) := by decide +kernel
theorem dX8_init_268 : decode cX8_init 268 = .ok (.bipush 6, 2) := by decide +kernel
theorem dX8_init_270 : decode cX8_init 270 = .ok (.newarray .long, 2) := by decide +kernel
theorem dX8_init_272 : decode cX8_init 272 = .ok (.putfield 108, 3) := by decide +kernel
theorem dX8_init_275 : decode cX8_init 275 = .ok (.aload_n 0, 1) := by decide +kernel
theorem dX8_init_276 : decode cX8_init 276 = .ok (.invokevirtual 111, 3) := by decide +kernel
theorem dX8_init_279 : decode cX8_init 279 = .ok (.return_, 1) := by decide +kernel
theorem dX8_in_0 : decode cX8_in 0 = .ok (.lload_n 0, 1) := by decide +kernel
theorem dX8_in_1 : decode cX8_in 1 = .ok (.lload_n 2, 1) := by decide +kernel
theorem dX8_in_2 : decode cX8_in 2 = .ok (.lcmp, 1) := by decide +kernel
theorem dX8_in_3 : decode cX8_in 3 = .ok (.ifCond .lt 14, 3) := by decide +kernel
theorem dX8_in_6 : decode cX8_in 6 = .ok (.lload_n 0, 1) := by decide +kernel
theorem dX8_in_7 : decode cX8_in 7 = .ok (.lload 4, 2) := by decide +kernel
theorem dX8_in_9 : decode cX8_in 9 = .ok (.lcmp, 1) := by decide +kernel
theorem dX8_in_10 : decode cX8_in 10 = .ok (.ifCond .gt 7, 3) := by decide +kernel
theorem dX8_in_13 : decode cX8_in 13 = .ok (.iconst 1, 1) := by decide +kernel
theorem dX8_in_14 : decode cX8_in 14 = .ok (.goto 4, 3) := by decide +kernel
theorem dX8_in_17 : decode cX8_in 17 = .ok (.iconst 0, 1) := by decide +kernel
theorem dX8_in_18 : decode cX8_in 18 = .ok (.ireturn, 1) := by decide +kernel
theorem dX8_begin_0 : decode cX8_begin 0 = .ok (.aload_n 0, 1) := by decide +kernel
theorem dX8_begin_1 : decode cX8_begin 1 = .ok (.iconst 4, 1) := by decide +kernel
theorem dX8_begin_2 : decode cX8_begin 2 = .ok (.putfield 114, 3) := by decide +kernel
theorem dX8_begin_5 : decode cX8_begin 5 = .ok (.aload_n 0, 1) := by decide +kernel
theorem dX8_begin_6 : decode cX8_begin 6 = .ok (.bipush 32, 2) := by decide +kernel
theorem dX8_begin_8 : decode cX8_begin 8 = .ok (.putfield 118, 3) := by decide +kernel
theorem dX8_begin_11 : decode cX8_begin 11 = .ok (.aload_n 0, 1) := by decide +kernel
theorem dX8_begin_12 : decode cX8_begin 12 = .ok (.bipush 8, 2) := by decide +kernel
theorem dX8_begin_14 : decode cX8_begin 14 = .ok (.putfield 121, 3) := by decide +kernel
theorem dX8_begin_17 : decode cX8_begin 17 = .ok (.aload_n 0, 1) := by decide +kernel
theorem dX8_begin_18 : decode cX8_begin 18 = .ok (.iconst 2, 1) := by decide +kernel
theorem dX8_begin_19 : decode cX8_begin 19 = .ok (.putfield 124, 3) := by decide +kernel
theorem dX8_begin_22 : decode cX8_begin 22 = .ok (.aload_n 0, 1) := by decide +kernel
theorem dX8_begin_23 : decode cX8_begin 23 = .ok (.iconst 4, 1) := by decide +kernel
theorem dX8_begin_24 : decode cX8_begin 24 = .ok (.putfield 127, 3) := by decide +kernel
theorem dX8_begin_27 : decode cX8_begin 27 = .ok (.aload_n 0, 1) := by decide +kernel
theorem dX8_begin_28 : decode cX8_begin 28 = .ok (.iconst 0, 1) := by decide +kernel
theorem dX8_begin_29 : decode cX8_begin 29 = .ok (.putfield 130, 3) := by decide +kernel
theorem dX8_begin_32 : decode cX8_begin 32 = .ok (.aload_n 0, 1) := by decide +kernel
theorem dX8_begin_33 : decode cX8_begin 33 = .ok (.iconst 0, 1) := by decide +kernel
theorem dX8_begin_34 : decode cX8_begin 34 = .ok (.putfield 133, 3) := by decide +kernel
theorem dX8_begin_37 : decode cX8_begin 37 = .ok (.aload_n 0, 1) := by decide +kernel
theorem dX8_begin_38 : decode cX8_begin 38 = .ok (.iconst 0, 1) := by decide +kernel
theorem dX8_begin_39 : decode cX8_begin 39 = .ok (.putfield 136, 3) := by decide +kernel
theorem dX8_begin_42 : decode cX8_begin 42 = .ok (.aload_n 0, 1) := by decide +kernel
theorem dX8_begin_43 : decode cX8_begin 43 = .ok (.iconst 0, 1) := by decide +kernel
theorem dX8_begin_44 : decode cX8_begin 44 = .ok (.putfield 139, 3) := by decide +kernel
theorem dX8_begin_47 : decode cX8_begin 47 = .ok (.aload_n 0, 1) := by decide +kernel
theorem dX8_begin_48 : decode cX8_begin 48 = .ok (.iconst 0, 1) := by decide +kernel
theorem dX8_begin_49 : decode cX8_begin 49 = .ok (.putfield 142, 3) := by decide +kernel
theorem dX8_begin_52 : decode cX8_begin 52 = .ok (.aload_n 0, 1) := by decide +kernel
theorem dX8_begin_53 : decode cX8_begin 53 = .ok (.iconst 0, 1) := by decide +kernel
theorem dX8_begin_54 : decode cX8_begin 54 = .ok (.putfield 145, 3) := by decide +kernel
theorem dX8_begin_57 : decode cX8_begin 57 = .ok (.aload_n 0, 1) := by decide +kernel
theorem dX8_begin_58 : decode cX8_begin 58 = .ok (.iconst 0, 1) := by decide +kernel
theorem dX8_begin_59 : decode cX8_begin 59 = .ok (.putfield 148, 3) := by decide +kernel
theorem dX8_begin_62 : decode cX8_begin 62 = .ok (.aload_n 0, 1) := by decide +kernel
theorem dX8_begin_63 : decode cX8_begin 63 = .ok (.iconst 0, 1) := by decide +kernel
theorem dX8_begin_64 : decode cX8_begin 64 = .ok (.putfield 151, 3) := by decide +kernel
theorem dX8_begin_67 : decode cX8_begin 67 = .ok (.aload_n 0, 1) := by decide +kernel
theorem dX8_begin_68 : decode cX8_begin 68 = .ok (.lconst 0, 1) := by decide +kernel
theorem dX8_begin_69 : decode cX8_begin 69 = .ok (.putfield 154, 3) := by decide +kernel
theorem dX8_begin_72 : decode cX8_begin 72 = .ok (.aload_n 0, 1) := by decide +kernel
theorem dX8_begin_73 : decode cX8_begin 73 = .ok (.iconst 0, 1) := by decide +kernel
theorem dX8_begin_74 : decode cX8_begin 74 = .ok (.putfield 158, 3) := by decide +kernel
theorem dX8_begin_77 : decode cX8_begin 77 = .ok (.aload_n 0, 1) := by decide +kernel
theorem dX8_begin_78 : decode cX8_begin 78 = .ok (.iconst 0, 1) := by decide +kernel
theorem dX8_begin_79 : decode cX8_begin 79 = .ok (.putfield 161, 3) := by decide +kernel
theorem dX8_begin_82 : decode cX8_begin 82 = .ok (.aload_n 0, 1) := by decide +kernel
theorem dX8_begin_83 : decode cX8_begin 83 = .ok (.iconst 0, 1) := by decide +kernel
theorem dX8_begin_84 : decode cX8_begin 84 = .ok (.putfield 164, 3) := by decide +kernel
theorem dX8_begin_87 : decode cX8_begin 87 = .ok (.iconst 0, 1) := by decide +kernel
theorem dX8_begin_88 : decode cX8_begin 88 = .ok (.istore_n 1, 1) := by decide +kernel
theorem dX8_begin_89 : decode cX8_begin 89 = .ok (.iload_n 1, 1) := by decide +kernel
theorem dX8_begin_90 : decode cX8_begin 90 = .ok (.bipush 100, 2) := by decide +kernel
theorem dX8_begin_92 : decode cX8_begin 92 = .ok (.if_icmp .ge 22, 3) := by decide +kernel
theorem dX8_begin_95 : decode cX8_begin 95 = .ok (.aload_n 0, 1) := by decide +kernel
theorem dX8_begin_96 : decode cX8_begin 96 = .ok (.getfield 33, 3) := by decide +kernel
theorem dX8_begin_99 : decode cX8_begin 99 = .ok (.iload_n 1, 1) := by decide +kernel
theorem dX8_begin_100 : decode cX8_begin 100 = .ok (.iconst 1, 1) := by decide +kernel
theorem dX8_begin_101 : decode cX8_begin 101 = .ok (.iastore, 1) := by decide +kernel
theorem dX8_begin_102 : decode cX8_begin 102 = .ok (.aload_n 0, 1) := by decide +kernel
theorem dX8_begin_103 : decode cX8_begin 103 = .ok (.iconst 0, 1) := by decide +kernel
theorem dX8_begin_104 : decode cX8_begin 104 = .ok (.iload_n 1, 1) := by decide +kernel
theorem dX8_begin_105 : decode cX8_begin 105 = .ok (.invokevirtual 167, 3) := by decide +kernel
theorem dX8_begin_108 : decode cX8_begin 108 = .ok (.iinc 1 1, 3) := by decide +kernel
theorem dX8_begin_111 : decode cX8_begin 111 = .ok (.goto (-22), 3) := by decide +kernel
theorem dX8_begin_114 : decode cX8_begin 114 = .ok (.aload_n 0, 1) := by decide +kernel
theorem dX8_begin_115 : decode cX8_begin 115 = .ok (.invokevirtual 171, 3) := by decide +kernel
theorem dX8_begin_118 : decode cX8_begin 118 = .ok (.return_, 1) := by decide +kernel
theorem dX8_freshRun_0 : decode cX8_freshRun 0 = .ok (.aload_n 0, 1) := by decide +kernel
theorem dX8_freshRun_1 : decode cX8_freshRun 1 = .ok (.iconst 0, 1) := by decide +kernel
theorem dX8_freshRun_2 : decode cX8_freshRun 2 = .ok (.putfield 174, 3) := by decide +kernel
theorem dX8_freshRun_5 : decode cX8_freshRun 5 = .ok (.iconst 0, 1) := by decide +kernel
theorem dX8_freshRun_6 : decode cX8_freshRun 6 = .ok (.istore_n 1, 1) := by decide +kernel
theorem dX8_freshRun_7 : decode cX8_freshRun 7 = .ok (.iload_n 1, 1) := by decide +kernel
theorem dX8_freshRun_8 : decode cX8_freshRun 8 = .ok (.bipush 8, 2) := by decide +kernel
theorem dX8_freshRun_10 : decode cX8_freshRun 10 = .ok (.if_icmp .ge 16, 3) := by decide +kernel
theorem dX8_freshRun_13 : decode cX8_freshRun 13 = .ok (.aload_n 0, 1) := by decide +kernel
theorem dX8_freshRun_14 : decode cX8_freshRun 14 = .ok (.getfield 36, 3) := by decide +kernel
theorem dX8_freshRun_17 : decode cX8_freshRun 17 = .ok (.iload_n 1, 1) := by decide +kernel
theorem dX8_freshRun_18 : decode cX8_freshRun 18 = .ok (.iconst 0, 1) := by decide +kernel
theorem dX8_freshRun_19 : decode cX8_freshRun 19 = .ok (.iastore, 1) := by decide +kernel
theorem dX8_freshRun_20 : decode cX8_freshRun 20 = .ok (.iinc 1 1, 3) := by decide +kernel
theorem dX8_freshRun_23 : decode cX8_freshRun 23 = .ok (.goto (-16), 3) := by decide +kernel
theorem dX8_freshRun_26 : decode cX8_freshRun 26 = .ok (.aload_n 0, 1) := by decide +kernel
theorem dX8_freshRun_27 : decode cX8_freshRun 27 = .ok (.invokevirtual 177, 3) := by decide +kernel
theorem dX8_freshRun_30 : decode cX8_freshRun 30 = .ok (.return_, 1) := by decide +kernel
theorem dX8_freshRound_0 : decode cX8_freshRound 0 = .ok (.aload_n 0, 1) := by decide +kernel
theorem dX8_freshRound_1 : decode cX8_freshRound 1 = .ok (.iconst 0, 1) := by decide +kernel
theorem dX8_freshRound_2 : decode cX8_freshRound 2 = .ok (.putfield 180, 3) := by decide +kernel
theorem dX8_freshRound_5 : decode cX8_freshRound 5 = .ok (.iconst 0, 1) := by decide +kernel
theorem dX8_freshRound_6 : decode cX8_freshRound 6 = .ok (.istore_n 1, 1) := by decide +kernel
theorem dX8_freshRound_7 : decode cX8_freshRound 7 = .ok (.iload_n 1, 1) := by decide +kernel
theorem dX8_freshRound_8 : decode cX8_freshRound 8 = .ok (.bipush 12, 2) := by decide +kernel
theorem dX8_freshRound_10 : decode cX8_freshRound 10 = .ok (.if_icmp .ge 30, 3) := by decide +kernel
theorem dX8_freshRound_13 : decode cX8_freshRound 13 = .ok (.aload_n 0, 1) := by decide +kernel
theorem dX8_freshRound_14 : decode cX8_freshRound 14 = .ok (.getfield 39, 3) := by decide +kernel
theorem dX8_freshRound_17 : decode cX8_freshRound 17 = .ok (.iload_n 1, 1) := by decide +kernel
theorem dX8_freshRound_18 : decode cX8_freshRound 18 = .ok (.iconst (-1), 1) := by decide +kernel
theorem dX8_freshRound_19 : decode cX8_freshRound 19 = .ok (.iastore, 1) := by decide +kernel
theorem dX8_freshRound_20 : decode cX8_freshRound 20 = .ok (.aload_n 0, 1) := by decide +kernel
theorem dX8_freshRound_21 : decode cX8_freshRound 21 = .ok (.getfield 42, 3) := by decide +kernel
theorem dX8_freshRound_24 : decode cX8_freshRound 24 = .ok (.iload_n 1, 1) := by decide +kernel
theorem dX8_freshRound_25 : decode cX8_freshRound 25 = .ok (.iconst 0, 1) := by decide +kernel
theorem dX8_freshRound_26 : decode cX8_freshRound 26 = .ok (.iastore, 1) := by decide +kernel
theorem dX8_freshRound_27 : decode cX8_freshRound 27 = .ok (.aload_n 0, 1) := by decide +kernel
theorem dX8_freshRound_28 : decode cX8_freshRound 28 = .ok (.getfield 45, 3) := by decide +kernel
theorem dX8_freshRound_31 : decode cX8_freshRound 31 = .ok (.iload_n 1, 1) := by decide +kernel
theorem dX8_freshRound_32 : decode cX8_freshRound 32 = .ok (.iconst 0, 1) := by decide +kernel
theorem dX8_freshRound_33 : decode cX8_freshRound 33 = .ok (.iastore, 1) := by decide +kernel
theorem dX8_freshRound_34 : decode cX8_freshRound 34 = .ok (.iinc 1 1, 3) := by decide +kernel
theorem dX8_freshRound_37 : decode cX8_freshRound 37 = .ok (.goto (-30), 3) := by decide +kernel
theorem dX8_freshRound_40 : decode cX8_freshRound 40 = .ok (.return_, 1) := by decide +kernel
theorem dX8_emptyOf_0 : decode cX8_emptyOf 0 = .ok (.aload_n 0, 1) := by decide +kernel
theorem dX8_emptyOf_1 : decode cX8_emptyOf 1 = .ok (.getfield 7, 3) := by decide +kernel
theorem dX8_emptyOf_4 : decode cX8_emptyOf 4 = .ok (.iload_n 1, 1) := by decide +kernel
theorem dX8_emptyOf_5 : decode cX8_emptyOf 5 = .ok (.iaload, 1) := by decide +kernel
theorem dX8_emptyOf_6 : decode cX8_emptyOf 6 = .ok (.istore_n 2, 1) := by decide +kernel
theorem dX8_emptyOf_7 : decode cX8_emptyOf 7 = .ok (.iload_n 2, 1) := by decide +kernel
theorem dX8_emptyOf_8 : decode cX8_emptyOf 8 = .ok (.bipush 6, 2) := by decide +kernel
theorem dX8_emptyOf_10 : decode cX8_emptyOf 10 = .ok (.if_icmp .ne 9, 3) := by decide +kernel
theorem dX8_emptyOf_13 : decode cX8_emptyOf 13 = .ok (.ldc2_w 183, 3) := by decide +kernel
theorem dX8_emptyOf_16 : decode cX8_emptyOf 16 = .ok (.goto 25, 3) := by decide +kernel
theorem dX8_emptyOf_19 : decode cX8_emptyOf 19 = .ok (.iload_n 2, 1) := by decide +kernel
theorem dX8_emptyOf_20 : decode cX8_emptyOf 20 = .ok (.iconst 2, 1) := by decide +kernel
theorem dX8_emptyOf_21 : decode cX8_emptyOf 21 = .ok (.if_icmp .eq 13, 3) := by decide +kernel
theorem dX8_emptyOf_24 : decode cX8_emptyOf 24 = .ok (.iload_n 2, 1) := by decide +kernel
theorem dX8_emptyOf_25 : decode cX8_emptyOf 25 = .ok (.iconst 3, 1) := by decide +kernel
theorem dX8_emptyOf_26 : decode cX8_emptyOf 26 = .ok (.if_icmp .eq 8, 3) := by decide +kernel
theorem dX8_emptyOf_29 : decode cX8_emptyOf 29 = .ok (.iload_n 2, 1) := by decide +kernel
theorem dX8_emptyOf_30 : decode cX8_emptyOf 30 = .ok (.iconst 5, 1) := by decide +kernel
theorem dX8_emptyOf_31 : decode cX8_emptyOf 31 = .ok (.if_icmp .ne 9, 3) := by decide +kernel
theorem dX8_emptyOf_34 : decode cX8_emptyOf 34 = .ok (.ldc2_w 185, 3) := by decide +kernel
theorem dX8_emptyOf_37 : decode cX8_emptyOf 37 = .ok (.goto 4, 3) := by decide +kernel
theorem dX8_emptyOf_40 : decode cX8_emptyOf 40 = .ok (.lconst 0, 1) := by decide +kernel
theorem dX8_emptyOf_41 : decode cX8_emptyOf 41 = .ok (.lreturn, 1) := by decide +kernel
theorem dX8_slot_0 : decode cX8_slot 0 = .ok (.bipush 100, 2) := by decide +kernel
theorem dX8_slot_2 : decode cX8_slot 2 = .ok (.iload_n 1, 1) := by decide +kernel
theorem dX8_slot_3 : decode cX8_slot 3 = .ok (.imul, 1) := by decide +kernel
theorem dX8_slot_4 : decode cX8_slot 4 = .ok (.iload_n 2, 1) := by decide +kernel
theorem dX8_slot_5 : decode cX8_slot 5 = .ok (.iadd, 1) := by decide +kernel
theorem dX8_slot_6 : decode cX8_slot 6 = .ok (.ireturn, 1) := by decide +kernel
theorem dX8_empty_0 : decode cX8_empty 0 = .ok (.aload_n 0, 1) := by decide +kernel
theorem dX8_empty_1 : decode cX8_empty 1 = .ok (.iload_n 1, 1) := by decide +kernel
theorem dX8_empty_2 : decode cX8_empty 2 = .ok (.iload_n 2, 1) := by decide +kernel
theorem dX8_empty_3 : decode cX8_empty 3 = .ok (.invokevirtual 187, 3) := by decide +kernel
theorem dX8_empty_6 : decode cX8_empty 6 = .ok (.istore_n 3, 1) := by decide +kernel
theorem dX8_empty_7 : decode cX8_empty 7 = .ok (.iconst 0, 1) := by decide +kernel
theorem dX8_empty_8 : decode cX8_empty 8 = .ok (.istore 4, 2) := by decide +kernel
theorem dX8_empty_10 : decode cX8_empty 10 = .ok (.iload 4, 2) := by decide +kernel
theorem dX8_empty_12 : decode cX8_empty 12 = .ok (.aload_n 0, 1) := by decide +kernel
theorem dX8_empty_13 : decode cX8_empty 13 = .ok (.getfield 130, 3) := by decide +kernel
theorem dX8_empty_16 : decode cX8_empty 16 = .ok (.if_icmp .ge 27, 3) := by decide +kernel
theorem dX8_empty_19 : decode cX8_empty 19 = .ok (.aload_n 0, 1) := by decide +kernel
theorem dX8_empty_20 : decode cX8_empty 20 = .ok (.getfield 17, 3) := by decide +kernel
theorem dX8_empty_23 : decode cX8_empty 23 = .ok (.bipush 6, 2) := by decide +kernel
theorem dX8_empty_25 : decode cX8_empty 25 = .ok (.iload_n 3, 1) := by decide +kernel
theorem dX8_empty_26 : decode cX8_empty 26 = .ok (.imul, 1) := by decide +kernel
theorem dX8_empty_27 : decode cX8_empty 27 = .ok (.iload 4, 2) := by decide +kernel
theorem dX8_empty_29 : decode cX8_empty 29 = .ok (.iadd, 1) := by decide +kernel
theorem dX8_empty_30 : decode cX8_empty 30 = .ok (.aload_n 0, 1) := by decide +kernel
theorem dX8_empty_31 : decode cX8_empty 31 = .ok (.iload 4, 2) := by decide +kernel
theorem dX8_empty_33 : decode cX8_empty 33 = .ok (.invokevirtual 191, 3) := by decide +kernel
theorem dX8_empty_36 : decode cX8_empty 36 = .ok (.lastore, 1) := by decide +kernel
theorem dX8_empty_37 : decode cX8_empty 37 = .ok (.iinc 4 1, 3) := by decide +kernel
theorem dX8_empty_40 : decode cX8_empty 40 = .ok (.goto (-30), 3) := by decide +kernel
theorem dX8_empty_43 : decode cX8_empty 43 = .ok (.aload_n 0, 1) := by decide +kernel
theorem dX8_empty_44 : decode cX8_empty 44 = .ok (.getfield 21, 3) := by decide +kernel
theorem dX8_empty_47 : decode cX8_empty 47 = .ok (.iload_n 3, 1) := by decide +kernel
theorem dX8_empty_48 : decode cX8_empty 48 = .ok (.iconst (-1), 1) := by decide +kernel
theorem dX8_empty_49 : decode cX8_empty 49 = .ok (.iastore, 1) := by decide +kernel
theorem dX8_empty_50 : decode cX8_empty 50 = .ok (.aload_n 0, 1) := by decide +kernel
theorem dX8_empty_51 : decode cX8_empty 51 = .ok (.getfield 27, 3) := by decide +kernel
theorem dX8_empty_54 : decode cX8_empty 54 = .ok (.iload_n 3, 1) := by decide +kernel
theorem dX8_empty_55 : decode cX8_empty 55 = .ok (.iconst 0, 1) := by decide +kernel
theorem dX8_empty_56 : decode cX8_empty 56 = .ok (.bastore, 1) := by decide +kernel
theorem dX8_empty_57 : decode cX8_empty 57 = .ok (.aload_n 0, 1) := by decide +kernel
theorem dX8_empty_58 : decode cX8_empty 58 = .ok (.getfield 30, 3) := by decide +kernel
theorem dX8_empty_61 : decode cX8_empty 61 = .ok (.iload_n 3, 1) := by decide +kernel
theorem dX8_empty_62 : decode cX8_empty 62 = .ok (.iconst 0, 1) := by decide +kernel
theorem dX8_empty_63 : decode cX8_empty 63 = .ok (.bastore, 1) := by decide +kernel
theorem dX8_empty_64 : decode cX8_empty 64 = .ok (.return_, 1) := by decide +kernel
theorem dX8_noKey_0 : decode cX8_noKey 0 = .ok (.iload_n 1, 1) := by decide +kernel
theorem dX8_noKey_1 : decode cX8_noKey 1 = .ok (.i2l, 1) := by decide +kernel
theorem dX8_noKey_2 : decode cX8_noKey 2 = .ok (.lconst 0, 1) := by decide +kernel
theorem dX8_noKey_3 : decode cX8_noKey 3 = .ok (.ldc2_w 195, 3) := by decide +kernel
theorem dX8_noKey_6 : decode cX8_noKey 6 = .ok (.invokestatic 197, 3) := by decide +kernel
theorem dX8_noKey_9 : decode cX8_noKey 9 = .ok (.ifCond .ne 7, 3) := by decide +kernel
theorem dX8_noKey_12 : decode cX8_noKey 12 = .ok (.iconst 1, 1) := by decide +kernel
theorem dX8_noKey_13 : decode cX8_noKey 13 = .ok (.goto 4, 3) := by decide +kernel
theorem dX8_noKey_16 : decode cX8_noKey 16 = .ok (.iconst 0, 1) := by decide +kernel
theorem dX8_noKey_17 : decode cX8_noKey 17 = .ok (.ireturn, 1) := by decide +kernel
theorem dX8_home_0 : decode cX8_home 0 = .ok (.iload_n 1, 1) := by decide +kernel
theorem dX8_home_1 : decode cX8_home 1 = .ok (.aload_n 0, 1) := by decide +kernel
theorem dX8_home_2 : decode cX8_home 2 = .ok (.getfield 114, 3) := by decide +kernel
theorem dX8_home_5 : decode cX8_home 5 = .ok (.irem, 1) := by decide +kernel
theorem dX8_home_6 : decode cX8_home 6 = .ok (.ireturn, 1) := by decide +kernel
theorem dX8_placeOf_0 : decode cX8_placeOf 0 = .ok (.aload_n 0, 1) := by decide +kernel
theorem dX8_placeOf_1 : decode cX8_placeOf 1 = .ok (.iload_n 1, 1) := by decide +kernel
theorem dX8_placeOf_2 : decode cX8_placeOf 2 = .ok (.invokevirtual 201, 3) := by decide +kernel
theorem dX8_placeOf_5 : decode cX8_placeOf 5 = .ok (.iload_n 2, 1) := by decide +kernel
theorem dX8_placeOf_6 : decode cX8_placeOf 6 = .ok (.iadd, 1) := by decide +kernel
theorem dX8_placeOf_7 : decode cX8_placeOf 7 = .ok (.aload_n 0, 1) := by decide +kernel
theorem dX8_placeOf_8 : decode cX8_placeOf 8 = .ok (.getfield 114, 3) := by decide +kernel
theorem dX8_placeOf_11 : decode cX8_placeOf 11 = .ok (.irem, 1) := by decide +kernel
theorem dX8_placeOf_12 : decode cX8_placeOf 12 = .ok (.ireturn, 1) := by decide +kernel
theorem dX8_shape_0 : decode cX8_shape 0 = .ok (.iload_n 1, 1) := by decide +kernel
theorem dX8_shape_1 : decode cX8_shape 1 = .ok (.i2l, 1) := by decide +kernel
theorem dX8_shape_2 : decode cX8_shape 2 = .ok (.ldc2_w 205, 3) := by decide +kernel
theorem dX8_shape_5 : decode cX8_shape 5 = .ok (.ldc2_w 207, 3) := by decide +kernel
theorem dX8_shape_8 : decode cX8_shape 8 = .ok (.invokestatic 197, 3) := by decide +kernel
theorem dX8_shape_11 : decode cX8_shape 11 = .ok (.ifCond .eq 59, 3) := by decide +kernel
theorem dX8_shape_14 : decode cX8_shape 14 = .ok (.iload_n 2, 1) := by decide +kernel
theorem dX8_shape_15 : decode cX8_shape 15 = .ok (.i2l, 1) := by decide +kernel
theorem dX8_shape_16 : decode cX8_shape 16 = .ok (.ldc2_w 207, 3) := by decide +kernel
theorem dX8_shape_19 : decode cX8_shape 19 = .ok (.ldc2_w 209, 3) := by decide +kernel
theorem dX8_shape_22 : decode cX8_shape 22 = .ok (.invokestatic 197, 3) := by decide +kernel
theorem dX8_shape_25 : decode cX8_shape 25 = .ok (.ifCond .eq 45, 3) := by decide +kernel
theorem dX8_shape_28 : decode cX8_shape 28 = .ok (.iload_n 3, 1) := by decide +kernel
theorem dX8_shape_29 : decode cX8_shape 29 = .ok (.i2l, 1) := by decide +kernel
theorem dX8_shape_30 : decode cX8_shape 30 = .ok (.lconst 1, 1) := by decide +kernel
theorem dX8_shape_31 : decode cX8_shape 31 = .ok (.iload_n 2, 1) := by decide +kernel
theorem dX8_shape_32 : decode cX8_shape 32 = .ok (.i2l, 1) := by decide +kernel
theorem dX8_shape_33 : decode cX8_shape 33 = .ok (.invokestatic 197, 3) := by decide +kernel
theorem dX8_shape_36 : decode cX8_shape 36 = .ok (.ifCond .eq 34, 3) := by decide +kernel
theorem dX8_shape_39 : decode cX8_shape 39 = .ok (.iload 4, 2) := by decide +kernel
theorem dX8_shape_41 : decode cX8_shape 41 = .ok (.i2l, 1) := by decide +kernel
theorem dX8_shape_42 : decode cX8_shape 42 = .ok (.lconst 0, 1) := by decide +kernel
theorem dX8_shape_43 : decode cX8_shape 43 = .ok (.iload_n 3, 1) := by decide +kernel
theorem dX8_shape_44 : decode cX8_shape 44 = .ok (.iconst 1, 1) := by decide +kernel
theorem dX8_shape_45 : decode cX8_shape 45 = .ok (.isub, 1) := by decide +kernel
theorem dX8_shape_46 : decode cX8_shape 46 = .ok (.i2l, 1) := by decide +kernel
theorem dX8_shape_47 : decode cX8_shape 47 = .ok (.invokestatic 197, 3) := by decide +kernel
theorem dX8_shape_50 : decode cX8_shape 50 = .ok (.ifCond .eq 20, 3) := by decide +kernel
theorem dX8_shape_53 : decode cX8_shape 53 = .ok (.iload 5, 2) := by decide +kernel
theorem dX8_shape_55 : decode cX8_shape 55 = .ok (.i2l, 1) := by decide +kernel
theorem dX8_shape_56 : decode cX8_shape 56 = .ok (.lconst 1, 1) := by decide +kernel
theorem dX8_shape_57 : decode cX8_shape 57 = .ok (.ldc2_w 211, 3) := by decide +kernel
theorem dX8_shape_60 : decode cX8_shape 60 = .ok (.invokestatic 197, 3) := by decide +kernel
theorem dX8_shape_63 : decode cX8_shape 63 = .ok (.ifCond .eq 7, 3) := by decide +kernel
theorem dX8_shape_66 : decode cX8_shape 66 = .ok (.iconst 1, 1) := by decide +kernel
theorem dX8_shape_67 : decode cX8_shape 67 = .ok (.goto 4, 3) := by decide +kernel
theorem dX8_shape_70 : decode cX8_shape 70 = .ok (.iconst 0, 1) := by decide +kernel
theorem dX8_shape_71 : decode cX8_shape 71 = .ok (.istore 6, 2) := by decide +kernel
theorem dX8_shape_73 : decode cX8_shape 73 = .ok (.iload 6, 2) := by decide +kernel
theorem dX8_shape_75 : decode cX8_shape 75 = .ok (.ifCond .ne 6, 3) := by decide +kernel
theorem dX8_shape_78 : decode cX8_shape 78 = .ok (.bipush (-102), 2) := by decide +kernel
theorem dX8_shape_80 : decode cX8_shape 80 = .ok (.ireturn, 1) := by decide +kernel
theorem dX8_shape_81 : decode cX8_shape 81 = .ok (.aload_n 0, 1) := by decide +kernel
theorem dX8_shape_82 : decode cX8_shape 82 = .ok (.getfield 133, 3) := by decide +kernel
theorem dX8_shape_85 : decode cX8_shape 85 = .ok (.ifCond .le 6, 3) := by decide +kernel
theorem dX8_shape_88 : decode cX8_shape 88 = .ok (.bipush (-103), 2) := by decide +kernel
theorem dX8_shape_90 : decode cX8_shape 90 = .ok (.ireturn, 1) := by decide +kernel
theorem dX8_shape_91 : decode cX8_shape 91 = .ok (.aload_n 0, 1) := by decide +kernel
theorem dX8_shape_92 : decode cX8_shape 92 = .ok (.iload_n 1, 1) := by decide +kernel
theorem dX8_shape_93 : decode cX8_shape 93 = .ok (.putfield 114, 3) := by decide +kernel
theorem dX8_shape_96 : decode cX8_shape 96 = .ok (.aload_n 0, 1) := by decide +kernel
theorem dX8_shape_97 : decode cX8_shape 97 = .ok (.iload_n 2, 1) := by decide +kernel
theorem dX8_shape_98 : decode cX8_shape 98 = .ok (.putfield 118, 3) := by decide +kernel
theorem dX8_shape_101 : decode cX8_shape 101 = .ok (.aload_n 0, 1) := by decide +kernel
theorem dX8_shape_102 : decode cX8_shape 102 = .ok (.iload_n 3, 1) := by decide +kernel
theorem dX8_shape_103 : decode cX8_shape 103 = .ok (.putfield 121, 3) := by decide +kernel
theorem dX8_shape_106 : decode cX8_shape 106 = .ok (.aload_n 0, 1) := by decide +kernel
theorem dX8_shape_107 : decode cX8_shape 107 = .ok (.iload 4, 2) := by decide +kernel
theorem dX8_shape_109 : decode cX8_shape 109 = .ok (.putfield 124, 3) := by decide +kernel
theorem dX8_shape_112 : decode cX8_shape 112 = .ok (.aload_n 0, 1) := by decide +kernel
theorem dX8_shape_113 : decode cX8_shape 113 = .ok (.iload 5, 2) := by decide +kernel
theorem dX8_shape_115 : decode cX8_shape 115 = .ok (.putfield 127, 3) := by decide +kernel
theorem dX8_shape_118 : decode cX8_shape 118 = .ok (.iconst 0, 1) := by decide +kernel
theorem dX8_shape_119 : decode cX8_shape 119 = .ok (.istore 7, 2) := by decide +kernel
theorem dX8_shape_121 : decode cX8_shape 121 = .ok (.iload 7, 2) := by decide +kernel
theorem dX8_shape_123 : decode cX8_shape 123 = .ok (.bipush 100, 2) := by decide +kernel
theorem dX8_shape_125 : decode cX8_shape 125 = .ok (.if_icmp .ge 17, 3) := by decide +kernel
theorem dX8_shape_128 : decode cX8_shape 128 = .ok (.aload_n 0, 1) := by decide +kernel
theorem dX8_shape_129 : decode cX8_shape 129 = .ok (.getfield 33, 3) := by decide +kernel
theorem dX8_shape_132 : decode cX8_shape 132 = .ok (.iload 7, 2) := by decide +kernel
theorem dX8_shape_134 : decode cX8_shape 134 = .ok (.iconst 1, 1) := by decide +kernel
theorem dX8_shape_135 : decode cX8_shape 135 = .ok (.iastore, 1) := by decide +kernel
theorem dX8_shape_136 : decode cX8_shape 136 = .ok (.iinc 7 1, 3) := by decide +kernel
theorem dX8_shape_139 : decode cX8_shape 139 = .ok (.goto (-18), 3) := by decide +kernel
theorem dX8_shape_142 : decode cX8_shape 142 = .ok (.iconst 1, 1) := by decide +kernel
theorem dX8_shape_143 : decode cX8_shape 143 = .ok (.ireturn, 1) := by decide +kernel
theorem dX8_splitKeys_0 : decode cX8_splitKeys 0 = .ok (.iconst 0, 1) := by decide +kernel
theorem dX8_splitKeys_1 : decode cX8_splitKeys 1 = .ok (.istore_n 1, 1) := by decide +kernel
theorem dX8_splitKeys_2 : decode cX8_splitKeys 2 = .ok (.iconst 0, 1) := by decide +kernel
theorem dX8_splitKeys_3 : decode cX8_splitKeys 3 = .ok (.istore_n 2, 1) := by decide +kernel
theorem dX8_splitKeys_4 : decode cX8_splitKeys 4 = .ok (.iload_n 2, 1) := by decide +kernel
theorem dX8_splitKeys_5 : decode cX8_splitKeys 5 = .ok (.bipush 100, 2) := by decide +kernel
theorem dX8_splitKeys_7 : decode cX8_splitKeys 7 = .ok (.if_icmp .ge 27, 3) := by decide +kernel
theorem dX8_splitKeys_10 : decode cX8_splitKeys 10 = .ok (.iload_n 1, 1) := by decide +kernel
theorem dX8_splitKeys_11 : decode cX8_splitKeys 11 = .ok (.aload_n 0, 1) := by decide +kernel
theorem dX8_splitKeys_12 : decode cX8_splitKeys 12 = .ok (.getfield 33, 3) := by decide +kernel
theorem dX8_splitKeys_15 : decode cX8_splitKeys 15 = .ok (.iload_n 2, 1) := by decide +kernel
theorem dX8_splitKeys_16 : decode cX8_splitKeys 16 = .ok (.iaload, 1) := by decide +kernel
theorem dX8_splitKeys_17 : decode cX8_splitKeys 17 = .ok (.iconst 1, 1) := by decide +kernel
theorem dX8_splitKeys_18 : decode cX8_splitKeys 18 = .ok (.if_icmp .le 7, 3) := by decide +kernel
theorem dX8_splitKeys_21 : decode cX8_splitKeys 21 = .ok (.iconst 1, 1) := by decide +kernel
theorem dX8_splitKeys_22 : decode cX8_splitKeys 22 = .ok (.goto 4, 3) := by decide +kernel
theorem dX8_splitKeys_25 : decode cX8_splitKeys 25 = .ok (.iconst 0, 1) := by decide +kernel
theorem dX8_splitKeys_26 : decode cX8_splitKeys 26 = .ok (.iadd, 1) := by decide +kernel
theorem dX8_splitKeys_27 : decode cX8_splitKeys 27 = .ok (.istore_n 1, 1) := by decide +kernel
theorem dX8_splitKeys_28 : decode cX8_splitKeys 28 = .ok (.iinc 2 1, 3) := by decide +kernel
theorem dX8_splitKeys_31 : decode cX8_splitKeys 31 = .ok (.goto (-27), 3) := by decide +kernel
theorem dX8_splitKeys_34 : decode cX8_splitKeys 34 = .ok (.iload_n 1, 1) := by decide +kernel
theorem dX8_splitKeys_35 : decode cX8_splitKeys 35 = .ok (.ireturn, 1) := by decide +kernel
theorem dX8_fold_0 : decode cX8_fold 0 = .ok (.iload_n 1, 1) := by decide +kernel
theorem dX8_fold_1 : decode cX8_fold 1 = .ok (.i2l, 1) := by decide +kernel
theorem dX8_fold_2 : decode cX8_fold 2 = .ok (.lconst 0, 1) := by decide +kernel
theorem dX8_fold_3 : decode cX8_fold 3 = .ok (.ldc2_w 183, 3) := by decide +kernel
theorem dX8_fold_6 : decode cX8_fold 6 = .ok (.invokestatic 197, 3) := by decide +kernel
theorem dX8_fold_9 : decode cX8_fold 9 = .ok (.ifCond .ne 6, 3) := by decide +kernel
theorem dX8_fold_12 : decode cX8_fold 12 = .ok (.bipush (-102), 2) := by decide +kernel
theorem dX8_fold_14 : decode cX8_fold 14 = .ok (.ireturn, 1) := by decide +kernel
theorem dX8_fold_15 : decode cX8_fold 15 = .ok (.aload_n 0, 1) := by decide +kernel
theorem dX8_fold_16 : decode cX8_fold 16 = .ok (.getfield 133, 3) := by decide +kernel
theorem dX8_fold_19 : decode cX8_fold 19 = .ok (.ifCond .gt 17, 3) := by decide +kernel
theorem dX8_fold_22 : decode cX8_fold 22 = .ok (.aload_n 0, 1) := by decide +kernel
theorem dX8_fold_23 : decode cX8_fold 23 = .ok (.getfield 164, 3) := by decide +kernel
theorem dX8_fold_26 : decode cX8_fold 26 = .ok (.ifCond .gt 10, 3) := by decide +kernel
theorem dX8_fold_29 : decode cX8_fold 29 = .ok (.aload_n 0, 1) := by decide +kernel
theorem dX8_fold_30 : decode cX8_fold 30 = .ok (.invokevirtual 213, 3) := by decide +kernel
theorem dX8_fold_33 : decode cX8_fold 33 = .ok (.ifCond .le 6, 3) := by decide +kernel
theorem dX8_fold_36 : decode cX8_fold 36 = .ok (.bipush (-103), 2) := by decide +kernel
theorem dX8_fold_38 : decode cX8_fold 38 = .ok (.ireturn, 1) := by decide +kernel
theorem dX8_fold_39 : decode cX8_fold 39 = .ok (.aload_n 0, 1) := by decide +kernel
theorem dX8_fold_40 : decode cX8_fold 40 = .ok (.getfield 130, 3) := by decide +kernel
theorem dX8_fold_43 : decode cX8_fold 43 = .ok (.bipush 6, 2) := by decide +kernel
theorem dX8_fold_45 : decode cX8_fold 45 = .ok (.if_icmp .ne 6, 3) := by decide +kernel
theorem dX8_fold_48 : decode cX8_fold 48 = .ok (.bipush (-104), 2) := by decide +kernel
theorem dX8_fold_50 : decode cX8_fold 50 = .ok (.ireturn, 1) := by decide +kernel
theorem dX8_fold_51 : decode cX8_fold 51 = .ok (.aload_n 0, 1) := by decide +kernel
theorem dX8_fold_52 : decode cX8_fold 52 = .ok (.getfield 7, 3) := by decide +kernel
theorem dX8_fold_55 : decode cX8_fold 55 = .ok (.aload_n 0, 1) := by decide +kernel
theorem dX8_fold_56 : decode cX8_fold 56 = .ok (.getfield 130, 3) := by decide +kernel
theorem dX8_fold_59 : decode cX8_fold 59 = .ok (.iload_n 1, 1) := by decide +kernel
theorem dX8_fold_60 : decode cX8_fold 60 = .ok (.iastore, 1) := by decide +kernel
theorem dX8_fold_61 : decode cX8_fold 61 = .ok (.aload_n 0, 1) := by decide +kernel
theorem dX8_fold_62 : decode cX8_fold 62 = .ok (.getfield 13, 3) := by decide +kernel
theorem dX8_fold_65 : decode cX8_fold 65 = .ok (.aload_n 0, 1) := by decide +kernel
theorem dX8_fold_66 : decode cX8_fold 66 = .ok (.getfield 130, 3) := by decide +kernel
theorem dX8_fold_69 : decode cX8_fold 69 = .ok (.iload_n 2, 1) := by decide +kernel
theorem dX8_fold_70 : decode cX8_fold 70 = .ok (.bastore, 1) := by decide +kernel
theorem dX8_fold_71 : decode cX8_fold 71 = .ok (.iconst 0, 1) := by decide +kernel
theorem dX8_fold_72 : decode cX8_fold 72 = .ok (.istore_n 3, 1) := by decide +kernel
theorem dX8_fold_73 : decode cX8_fold 73 = .ok (.iload_n 3, 1) := by decide +kernel
theorem dX8_fold_74 : decode cX8_fold 74 = .ok (.bipush 100, 2) := by decide +kernel
theorem dX8_fold_76 : decode cX8_fold 76 = .ok (.if_icmp .ge 52, 3) := by decide +kernel
theorem dX8_fold_79 : decode cX8_fold 79 = .ok (.aload_n 0, 1) := by decide +kernel
theorem dX8_fold_80 : decode cX8_fold 80 = .ok (.getfield 17, 3) := by decide +kernel
theorem dX8_fold_83 : decode cX8_fold 83 = .ok (.bipush 6, 2) := by decide +kernel
theorem dX8_fold_85 : decode cX8_fold 85 = .ok (.iload_n 3, 1) := by decide +kernel
theorem dX8_fold_86 : decode cX8_fold 86 = .ok (.imul, 1) := by decide +kernel
theorem dX8_fold_87 : decode cX8_fold 87 = .ok (.aload_n 0, 1) := by decide +kernel
theorem dX8_fold_88 : decode cX8_fold 88 = .ok (.getfield 130, 3) := by decide +kernel
theorem dX8_fold_91 : decode cX8_fold 91 = .ok (.iadd, 1) := by decide +kernel
theorem dX8_fold_92 : decode cX8_fold 92 = .ok (.aload_n 0, 1) := by decide +kernel
theorem dX8_fold_93 : decode cX8_fold 93 = .ok (.aload_n 0, 1) := by decide +kernel
theorem dX8_fold_94 : decode cX8_fold 94 = .ok (.getfield 130, 3) := by decide +kernel
theorem dX8_fold_97 : decode cX8_fold 97 = .ok (.invokevirtual 191, 3) := by decide +kernel
theorem dX8_fold_100 : decode cX8_fold 100 = .ok (.lastore, 1) := by decide +kernel
theorem dX8_fold_101 : decode cX8_fold 101 = .ok (.aload_n 0, 1) := by decide +kernel
theorem dX8_fold_102 : decode cX8_fold 102 = .ok (.getfield 21, 3) := by decide +kernel
theorem dX8_fold_105 : decode cX8_fold 105 = .ok (.iload_n 3, 1) := by decide +kernel
theorem dX8_fold_106 : decode cX8_fold 106 = .ok (.iconst (-1), 1) := by decide +kernel
theorem dX8_fold_107 : decode cX8_fold 107 = .ok (.iastore, 1) := by decide +kernel
theorem dX8_fold_108 : decode cX8_fold 108 = .ok (.aload_n 0, 1) := by decide +kernel
theorem dX8_fold_109 : decode cX8_fold 109 = .ok (.getfield 27, 3) := by decide +kernel
theorem dX8_fold_112 : decode cX8_fold 112 = .ok (.iload_n 3, 1) := by decide +kernel
theorem dX8_fold_113 : decode cX8_fold 113 = .ok (.iconst 0, 1) := by decide +kernel
theorem dX8_fold_114 : decode cX8_fold 114 = .ok (.bastore, 1) := by decide +kernel
theorem dX8_fold_115 : decode cX8_fold 115 = .ok (.aload_n 0, 1) := by decide +kernel
theorem dX8_fold_116 : decode cX8_fold 116 = .ok (.getfield 30, 3) := by decide +kernel
theorem dX8_fold_119 : decode cX8_fold 119 = .ok (.iload_n 3, 1) := by decide +kernel
theorem dX8_fold_120 : decode cX8_fold 120 = .ok (.iconst 0, 1) := by decide +kernel
theorem dX8_fold_121 : decode cX8_fold 121 = .ok (.bastore, 1) := by decide +kernel
theorem dX8_fold_122 : decode cX8_fold 122 = .ok (.iinc 3 1, 3) := by decide +kernel
theorem dX8_fold_125 : decode cX8_fold 125 = .ok (.goto (-52), 3) := by decide +kernel
theorem dX8_fold_128 : decode cX8_fold 128 = .ok (.aload_n 0, 1) := by decide +kernel
theorem dX8_fold_129 : decode cX8_fold 129 = .ok (.dup, 1) := by decide +kernel
theorem dX8_fold_130 : decode cX8_fold 130 = .ok (.getfield 130, 3) := by decide +kernel
theorem dX8_fold_133 : decode cX8_fold 133 = .ok (.iconst 1, 1) := by decide +kernel
theorem dX8_fold_134 : decode cX8_fold 134 = .ok (.iadd, 1) := by decide +kernel
theorem dX8_fold_135 : decode cX8_fold 135 = .ok (.putfield 130, 3) := by decide +kernel
theorem dX8_fold_138 : decode cX8_fold 138 = .ok (.aload_n 0, 1) := by decide +kernel
theorem dX8_fold_139 : decode cX8_fold 139 = .ok (.getfield 130, 3) := by decide +kernel
theorem dX8_fold_142 : decode cX8_fold 142 = .ok (.iconst 1, 1) := by decide +kernel
theorem dX8_fold_143 : decode cX8_fold 143 = .ok (.isub, 1) := by decide +kernel
theorem dX8_fold_144 : decode cX8_fold 144 = .ok (.ireturn, 1) := by decide +kernel
theorem dX8_folded_0 : decode cX8_folded 0 = .ok (.iload_n 0, 1) := by decide +kernel
theorem dX8_folded_1 : decode cX8_folded 1 = .ok (.tableswitch 119 0 6 #[43, 47, 52, 74, 96, 105, 108], 43) := by decide +kernel
theorem dX8_folded_44 : decode cX8_folded 44 = .ok (.lload_n 1, 1) := by decide +kernel
theorem dX8_folded_45 : decode cX8_folded 45 = .ok (.lconst 1, 1) := by decide +kernel
theorem dX8_folded_46 : decode cX8_folded 46 = .ok (.ladd, 1) := by decide +kernel
theorem dX8_folded_47 : decode cX8_folded 47 = .ok (.lreturn, 1) := by decide +kernel
theorem dX8_folded_48 : decode cX8_folded 48 = .ok (.lload_n 1, 1) := by decide +kernel
theorem dX8_folded_49 : decode cX8_folded 49 = .ok (.iload_n 3, 1) := by decide +kernel
theorem dX8_folded_50 : decode cX8_folded 50 = .ok (.i2l, 1) := by decide +kernel
theorem dX8_folded_51 : decode cX8_folded 51 = .ok (.ladd, 1) := by decide +kernel
theorem dX8_folded_52 : decode cX8_folded 52 = .ok (.lreturn, 1) := by decide +kernel
theorem dX8_folded_53 : decode cX8_folded 53 = .ok (.lload_n 1, 1) := by decide +kernel
theorem dX8_folded_54 : decode cX8_folded 54 = .ok (.ldc2_w 185, 3) := by decide +kernel
theorem dX8_folded_57 : decode cX8_folded 57 = .ok (.lcmp, 1) := by decide +kernel
theorem dX8_folded_58 : decode cX8_folded 58 = .ok (.ifCond .eq 10, 3) := by decide +kernel
theorem dX8_folded_61 : decode cX8_folded 61 = .ok (.iload_n 3, 1) := by decide +kernel
theorem dX8_folded_62 : decode cX8_folded 62 = .ok (.i2l, 1) := by decide +kernel
theorem dX8_folded_63 : decode cX8_folded 63 = .ok (.lload_n 1, 1) := by decide +kernel
theorem dX8_folded_64 : decode cX8_folded 64 = .ok (.lcmp, 1) := by decide +kernel
theorem dX8_folded_65 : decode cX8_folded 65 = .ok (.ifCond .ge 8, 3) := by decide +kernel
theorem dX8_folded_68 : decode cX8_folded 68 = .ok (.iload_n 3, 1) := by decide +kernel
theorem dX8_folded_69 : decode cX8_folded 69 = .ok (.i2l, 1) := by decide +kernel
theorem dX8_folded_70 : decode cX8_folded 70 = .ok (.goto 4, 3) := by decide +kernel
theorem dX8_folded_73 : decode cX8_folded 73 = .ok (.lload_n 1, 1) := by decide +kernel
theorem dX8_folded_74 : decode cX8_folded 74 = .ok (.lreturn, 1) := by decide +kernel
theorem dX8_folded_75 : decode cX8_folded 75 = .ok (.lload_n 1, 1) := by decide +kernel
theorem dX8_folded_76 : decode cX8_folded 76 = .ok (.ldc2_w 185, 3) := by decide +kernel
theorem dX8_folded_79 : decode cX8_folded 79 = .ok (.lcmp, 1) := by decide +kernel
theorem dX8_folded_80 : decode cX8_folded 80 = .ok (.ifCond .eq 10, 3) := by decide +kernel
theorem dX8_folded_83 : decode cX8_folded 83 = .ok (.iload_n 3, 1) := by decide +kernel
theorem dX8_folded_84 : decode cX8_folded 84 = .ok (.i2l, 1) := by decide +kernel
theorem dX8_folded_85 : decode cX8_folded 85 = .ok (.lload_n 1, 1) := by decide +kernel
theorem dX8_folded_86 : decode cX8_folded 86 = .ok (.lcmp, 1) := by decide +kernel
theorem dX8_folded_87 : decode cX8_folded 87 = .ok (.ifCond .le 8, 3) := by decide +kernel
theorem dX8_folded_90 : decode cX8_folded 90 = .ok (.iload_n 3, 1) := by decide +kernel
theorem dX8_folded_91 : decode cX8_folded 91 = .ok (.i2l, 1) := by decide +kernel
theorem dX8_folded_92 : decode cX8_folded 92 = .ok (.goto 4, 3) := by decide +kernel
theorem dX8_folded_95 : decode cX8_folded 95 = .ok (.lload_n 1, 1) := by decide +kernel
theorem dX8_folded_96 : decode cX8_folded 96 = .ok (.lreturn, 1) := by decide +kernel
theorem dX8_folded_97 : decode cX8_folded 97 = .ok (.lload_n 1, 1) := by decide +kernel
theorem dX8_folded_98 : decode cX8_folded 98 = .ok (.lconst 1, 1) := by decide +kernel
theorem dX8_folded_99 : decode cX8_folded 99 = .ok (.iload_n 3, 1) := by decide +kernel
theorem dX8_folded_100 : decode cX8_folded 100 = .ok (.bipush 15, 2) := by decide +kernel
theorem dX8_folded_102 : decode cX8_folded 102 = .ok (.iand, 1) := by decide +kernel
theorem dX8_folded_103 : decode cX8_folded 103 = .ok (.lshl, 1) := by decide +kernel
theorem dX8_folded_104 : decode cX8_folded 104 = .ok (.lor, 1) := by decide +kernel
theorem dX8_folded_105 : decode cX8_folded 105 = .ok (.lreturn, 1) := by decide +kernel
theorem dX8_folded_106 : decode cX8_folded 106 = .ok (.iload_n 3, 1) := by decide +kernel
theorem dX8_folded_107 : decode cX8_folded 107 = .ok (.i2l, 1) := by decide +kernel
theorem dX8_folded_108 : decode cX8_folded 108 = .ok (.lreturn, 1) := by decide +kernel
theorem dX8_folded_109 : decode cX8_folded 109 = .ok (.ldc2_w 217, 3) := by decide +kernel
theorem dX8_folded_112 : decode cX8_folded 112 = .ok (.lload_n 1, 1) := by decide +kernel
theorem dX8_folded_113 : decode cX8_folded 113 = .ok (.lmul, 1) := by decide +kernel
theorem dX8_folded_114 : decode cX8_folded 114 = .ok (.iload_n 3, 1) := by decide +kernel
theorem dX8_folded_115 : decode cX8_folded 115 = .ok (.i2l, 1) := by decide +kernel
theorem dX8_folded_116 : decode cX8_folded 116 = .ok (.ladd, 1) := by decide +kernel
theorem dX8_folded_117 : decode cX8_folded 117 = .ok (.l2i, 1) := by decide +kernel
theorem dX8_folded_118 : decode cX8_folded 118 = .ok (.i2l, 1) := by decide +kernel
theorem dX8_folded_119 : decode cX8_folded 119 = .ok (.lreturn, 1) := by decide +kernel
theorem dX8_folded_120 : decode cX8_folded 120 = .ok (.lload_n 1, 1) := by decide +kernel
theorem dX8_folded_121 : decode cX8_folded 121 = .ok (.iload 4, 2) := by decide +kernel
theorem dX8_folded_123 : decode cX8_folded 123 = .ok (.ifCond .eq 7, 3) := by decide +kernel
theorem dX8_folded_126 : decode cX8_folded 126 = .ok (.lconst 1, 1) := by decide +kernel
theorem dX8_folded_127 : decode cX8_folded 127 = .ok (.goto 4, 3) := by decide +kernel
theorem dX8_folded_130 : decode cX8_folded 130 = .ok (.lconst 0, 1) := by decide +kernel
theorem dX8_folded_131 : decode cX8_folded 131 = .ok (.ladd, 1) := by decide +kernel
theorem dX8_folded_132 : decode cX8_folded 132 = .ok (.lreturn, 1) := by decide +kernel
theorem dX8_partOfRow_0 : decode cX8_partOfRow 0 = .ok (.iload_n 1, 1) := by decide +kernel
theorem dX8_partOfRow_1 : decode cX8_partOfRow 1 = .ok (.ldc 219, 2) := by decide +kernel
theorem dX8_partOfRow_3 : decode cX8_partOfRow 3 = .ok (.imul, 1) := by decide +kernel
theorem dX8_partOfRow_4 : decode cX8_partOfRow 4 = .ok (.bipush 16, 2) := by decide +kernel
theorem dX8_partOfRow_6 : decode cX8_partOfRow 6 = .ok (.iushr, 1) := by decide +kernel
theorem dX8_partOfRow_7 : decode cX8_partOfRow 7 = .ok (.iload_n 2, 1) := by decide +kernel
theorem dX8_partOfRow_8 : decode cX8_partOfRow 8 = .ok (.irem, 1) := by decide +kernel
theorem dX8_partOfRow_9 : decode cX8_partOfRow 9 = .ok (.ireturn, 1) := by decide +kernel
theorem dX8_row_0 : decode cX8_row 0 = .ok (.aload_n 0, 1) := by decide +kernel
theorem dX8_row_1 : decode cX8_row 1 = .ok (.iload_n 1, 1) := by decide +kernel
theorem dX8_row_2 : decode cX8_row 2 = .ok (.invokevirtual 220, 3) := by decide +kernel
theorem dX8_row_5 : decode cX8_row 5 = .ok (.ifCond .eq 6, 3) := by decide +kernel
theorem dX8_row_8 : decode cX8_row 8 = .ok (.bipush (-101), 2) := by decide +kernel
theorem dX8_row_10 : decode cX8_row 10 = .ok (.ireturn, 1) := by decide +kernel
theorem dX8_row_11 : decode cX8_row 11 = .ok (.iload_n 2, 1) := by decide +kernel
theorem dX8_row_12 : decode cX8_row 12 = .ok (.i2l, 1) := by decide +kernel
theorem dX8_row_13 : decode cX8_row 13 = .ok (.ldc2_w 224, 3) := by decide +kernel
theorem dX8_row_16 : decode cX8_row 16 = .ok (.ldc2_w 226, 3) := by decide +kernel
theorem dX8_row_19 : decode cX8_row 19 = .ok (.invokestatic 197, 3) := by decide +kernel
theorem dX8_row_22 : decode cX8_row 22 = .ok (.ifCond .ne 6, 3) := by decide +kernel
theorem dX8_row_25 : decode cX8_row 25 = .ok (.bipush (-102), 2) := by decide +kernel
theorem dX8_row_27 : decode cX8_row 27 = .ok (.ireturn, 1) := by decide +kernel
theorem dX8_row_28 : decode cX8_row 28 = .ok (.aload_n 0, 1) := by decide +kernel
theorem dX8_row_29 : decode cX8_row 29 = .ok (.getfield 133, 3) := by decide +kernel
theorem dX8_row_32 : decode cX8_row 32 = .ok (.sipush 450, 3) := by decide +kernel
theorem dX8_row_35 : decode cX8_row 35 = .ok (.if_icmp .ne 6, 3) := by decide +kernel
theorem dX8_row_38 : decode cX8_row 38 = .ok (.bipush (-104), 2) := by decide +kernel
theorem dX8_row_40 : decode cX8_row 40 = .ok (.ireturn, 1) := by decide +kernel
theorem dX8_row_41 : decode cX8_row 41 = .ok (.aload_n 0, 1) := by decide +kernel
theorem dX8_row_42 : decode cX8_row 42 = .ok (.getfield 33, 3) := by decide +kernel
theorem dX8_row_45 : decode cX8_row 45 = .ok (.iload_n 1, 1) := by decide +kernel
theorem dX8_row_46 : decode cX8_row 46 = .ok (.iaload, 1) := by decide +kernel
theorem dX8_row_47 : decode cX8_row 47 = .ok (.iconst 1, 1) := by decide +kernel
theorem dX8_row_48 : decode cX8_row 48 = .ok (.if_icmp .le 20, 3) := by decide +kernel
theorem dX8_row_51 : decode cX8_row 51 = .ok (.aload_n 0, 1) := by decide +kernel
theorem dX8_row_52 : decode cX8_row 52 = .ok (.aload_n 0, 1) := by decide +kernel
theorem dX8_row_53 : decode cX8_row 53 = .ok (.getfield 133, 3) := by decide +kernel
theorem dX8_row_56 : decode cX8_row 56 = .ok (.aload_n 0, 1) := by decide +kernel
theorem dX8_row_57 : decode cX8_row 57 = .ok (.getfield 33, 3) := by decide +kernel
theorem dX8_row_60 : decode cX8_row 60 = .ok (.iload_n 1, 1) := by decide +kernel
theorem dX8_row_61 : decode cX8_row 61 = .ok (.iaload, 1) := by decide +kernel
theorem dX8_row_62 : decode cX8_row 62 = .ok (.invokevirtual 228, 3) := by decide +kernel
theorem dX8_row_65 : decode cX8_row 65 = .ok (.goto 4, 3) := by decide +kernel
theorem dX8_row_68 : decode cX8_row 68 = .ok (.iconst 0, 1) := by decide +kernel
theorem dX8_row_69 : decode cX8_row 69 = .ok (.istore_n 3, 1) := by decide +kernel
theorem dX8_row_70 : decode cX8_row 70 = .ok (.aload_n 0, 1) := by decide +kernel
theorem dX8_row_71 : decode cX8_row 71 = .ok (.iload_n 3, 1) := by decide +kernel
theorem dX8_row_72 : decode cX8_row 72 = .ok (.iload_n 1, 1) := by decide +kernel
theorem dX8_row_73 : decode cX8_row 73 = .ok (.invokevirtual 187, 3) := by decide +kernel
theorem dX8_row_76 : decode cX8_row 76 = .ok (.istore 4, 2) := by decide +kernel
theorem dX8_row_78 : decode cX8_row 78 = .ok (.aload_n 0, 1) := by decide +kernel
theorem dX8_row_79 : decode cX8_row 79 = .ok (.getfield 27, 3) := by decide +kernel
theorem dX8_row_82 : decode cX8_row 82 = .ok (.iload 4, 2) := by decide +kernel
theorem dX8_row_84 : decode cX8_row 84 = .ok (.baload, 1) := by decide +kernel
theorem dX8_row_85 : decode cX8_row 85 = .ok (.ifCond .eq 18, 3) := by decide +kernel
theorem dX8_row_88 : decode cX8_row 88 = .ok (.iload_n 2, 1) := by decide +kernel
theorem dX8_row_89 : decode cX8_row 89 = .ok (.aload_n 0, 1) := by decide +kernel
theorem dX8_row_90 : decode cX8_row 90 = .ok (.getfield 24, 3) := by decide +kernel
theorem dX8_row_93 : decode cX8_row 93 = .ok (.iload 4, 2) := by decide +kernel
theorem dX8_row_95 : decode cX8_row 95 = .ok (.iaload, 1) := by decide +kernel
theorem dX8_row_96 : decode cX8_row 96 = .ok (.if_icmp .ge 7, 3) := by decide +kernel
theorem dX8_row_99 : decode cX8_row 99 = .ok (.iconst 1, 1) := by decide +kernel
theorem dX8_row_100 : decode cX8_row 100 = .ok (.goto 4, 3) := by decide +kernel
theorem dX8_row_103 : decode cX8_row 103 = .ok (.iconst 0, 1) := by decide +kernel
theorem dX8_row_104 : decode cX8_row 104 = .ok (.istore 5, 2) := by decide +kernel
theorem dX8_row_106 : decode cX8_row 106 = .ok (.iconst 0, 1) := by decide +kernel
theorem dX8_row_107 : decode cX8_row 107 = .ok (.istore 6, 2) := by decide +kernel
theorem dX8_row_109 : decode cX8_row 109 = .ok (.iload 6, 2) := by decide +kernel
theorem dX8_row_111 : decode cX8_row 111 = .ok (.aload_n 0, 1) := by decide +kernel
theorem dX8_row_112 : decode cX8_row 112 = .ok (.getfield 130, 3) := by decide +kernel
theorem dX8_row_115 : decode cX8_row 115 = .ok (.if_icmp .ge 48, 3) := by decide +kernel
theorem dX8_row_118 : decode cX8_row 118 = .ok (.aload_n 0, 1) := by decide +kernel
theorem dX8_row_119 : decode cX8_row 119 = .ok (.getfield 17, 3) := by decide +kernel
theorem dX8_row_122 : decode cX8_row 122 = .ok (.bipush 6, 2) := by decide +kernel
theorem dX8_row_124 : decode cX8_row 124 = .ok (.iload 4, 2) := by decide +kernel
theorem dX8_row_126 : decode cX8_row 126 = .ok (.imul, 1) := by decide +kernel
theorem dX8_row_127 : decode cX8_row 127 = .ok (.iload 6, 2) := by decide +kernel
theorem dX8_row_129 : decode cX8_row 129 = .ok (.iadd, 1) := by decide +kernel
theorem dX8_row_130 : decode cX8_row 130 = .ok (.aload_n 0, 1) := by decide +kernel
theorem dX8_row_131 : decode cX8_row 131 = .ok (.getfield 7, 3) := by decide +kernel
theorem dX8_row_134 : decode cX8_row 134 = .ok (.iload 6, 2) := by decide +kernel
theorem dX8_row_136 : decode cX8_row 136 = .ok (.iaload, 1) := by decide +kernel
theorem dX8_row_137 : decode cX8_row 137 = .ok (.aload_n 0, 1) := by decide +kernel
theorem dX8_row_138 : decode cX8_row 138 = .ok (.getfield 17, 3) := by decide +kernel
theorem dX8_row_141 : decode cX8_row 141 = .ok (.bipush 6, 2) := by decide +kernel
theorem dX8_row_143 : decode cX8_row 143 = .ok (.iload 4, 2) := by decide +kernel
theorem dX8_row_145 : decode cX8_row 145 = .ok (.imul, 1) := by decide +kernel
theorem dX8_row_146 : decode cX8_row 146 = .ok (.iload 6, 2) := by decide +kernel
theorem dX8_row_148 : decode cX8_row 148 = .ok (.iadd, 1) := by decide +kernel
theorem dX8_row_149 : decode cX8_row 149 = .ok (.laload, 1) := by decide +kernel
theorem dX8_row_150 : decode cX8_row 150 = .ok (.iload_n 2, 1) := by decide +kernel
theorem dX8_row_151 : decode cX8_row 151 = .ok (.iload 5, 2) := by decide +kernel
theorem dX8_row_153 : decode cX8_row 153 = .ok (.invokestatic 231, 3) := by decide +kernel
theorem dX8_row_156 : decode cX8_row 156 = .ok (.lastore, 1) := by decide +kernel
theorem dX8_row_157 : decode cX8_row 157 = .ok (.iinc 6 1, 3) := by decide +kernel
theorem dX8_row_160 : decode cX8_row 160 = .ok (.goto (-51), 3) := by decide +kernel
theorem dX8_row_163 : decode cX8_row 163 = .ok (.aload_n 0, 1) := by decide +kernel
theorem dX8_row_164 : decode cX8_row 164 = .ok (.getfield 21, 3) := by decide +kernel
theorem dX8_row_167 : decode cX8_row 167 = .ok (.iload 4, 2) := by decide +kernel
theorem dX8_row_169 : decode cX8_row 169 = .ok (.aload_n 0, 1) := by decide +kernel
theorem dX8_row_170 : decode cX8_row 170 = .ok (.getfield 133, 3) := by decide +kernel
theorem dX8_row_173 : decode cX8_row 173 = .ok (.iastore, 1) := by decide +kernel
theorem dX8_row_174 : decode cX8_row 174 = .ok (.aload_n 0, 1) := by decide +kernel
theorem dX8_row_175 : decode cX8_row 175 = .ok (.getfield 24, 3) := by decide +kernel
theorem dX8_row_178 : decode cX8_row 178 = .ok (.iload 4, 2) := by decide +kernel
theorem dX8_row_180 : decode cX8_row 180 = .ok (.iload_n 2, 1) := by decide +kernel
theorem dX8_row_181 : decode cX8_row 181 = .ok (.iastore, 1) := by decide +kernel
theorem dX8_row_182 : decode cX8_row 182 = .ok (.aload_n 0, 1) := by decide +kernel
theorem dX8_row_183 : decode cX8_row 183 = .ok (.getfield 27, 3) := by decide +kernel
theorem dX8_row_186 : decode cX8_row 186 = .ok (.iload 4, 2) := by decide +kernel
theorem dX8_row_188 : decode cX8_row 188 = .ok (.iconst 1, 1) := by decide +kernel
theorem dX8_row_189 : decode cX8_row 189 = .ok (.bastore, 1) := by decide +kernel
theorem dX8_row_190 : decode cX8_row 190 = .ok (.aload_n 0, 1) := by decide +kernel
theorem dX8_row_191 : decode cX8_row 191 = .ok (.getfield 30, 3) := by decide +kernel
theorem dX8_row_194 : decode cX8_row 194 = .ok (.iload 4, 2) := by decide +kernel
theorem dX8_row_196 : decode cX8_row 196 = .ok (.iconst 1, 1) := by decide +kernel
theorem dX8_row_197 : decode cX8_row 197 = .ok (.bastore, 1) := by decide +kernel
theorem dX8_row_198 : decode cX8_row 198 = .ok (.iconst 0, 1) := by decide +kernel
theorem dX8_row_199 : decode cX8_row 199 = .ok (.istore 6, 2) := by decide +kernel
theorem dX8_row_201 : decode cX8_row 201 = .ok (.iload 6, 2) := by decide +kernel
theorem dX8_row_203 : decode cX8_row 203 = .ok (.aload_n 0, 1) := by decide +kernel
theorem dX8_row_204 : decode cX8_row 204 = .ok (.getfield 158, 3) := by decide +kernel
theorem dX8_row_207 : decode cX8_row 207 = .ok (.if_icmp .ge 50, 3) := by decide +kernel
theorem dX8_row_210 : decode cX8_row 210 = .ok (.aload_n 0, 1) := by decide +kernel
theorem dX8_row_211 : decode cX8_row 211 = .ok (.getfield 48, 3) := by decide +kernel
theorem dX8_row_214 : decode cX8_row 214 = .ok (.iload 6, 2) := by decide +kernel
theorem dX8_row_216 : decode cX8_row 216 = .ok (.iaload, 1) := by decide +kernel
theorem dX8_row_217 : decode cX8_row 217 = .ok (.iload_n 1, 1) := by decide +kernel
theorem dX8_row_218 : decode cX8_row 218 = .ok (.if_icmp .ne 33, 3) := by decide +kernel
theorem dX8_row_221 : decode cX8_row 221 = .ok (.aload_n 0, 1) := by decide +kernel
theorem dX8_row_222 : decode cX8_row 222 = .ok (.dup, 1) := by decide +kernel
theorem dX8_row_223 : decode cX8_row 223 = .ok (.getfield 145, 3) := by decide +kernel
theorem dX8_row_226 : decode cX8_row 226 = .ok (.iconst 1, 1) := by decide +kernel
theorem dX8_row_227 : decode cX8_row 227 = .ok (.iadd, 1) := by decide +kernel
theorem dX8_row_228 : decode cX8_row 228 = .ok (.putfield 145, 3) := by decide +kernel
theorem dX8_row_231 : decode cX8_row 231 = .ok (.aload_n 0, 1) := by decide +kernel
theorem dX8_row_232 : decode cX8_row 232 = .ok (.dup, 1) := by decide +kernel
theorem dX8_row_233 : decode cX8_row 233 = .ok (.getfield 154, 3) := by decide +kernel
theorem dX8_row_236 : decode cX8_row 236 = .ok (.iload_n 2, 1) := by decide +kernel
theorem dX8_row_237 : decode cX8_row 237 = .ok (.i2l, 1) := by decide +kernel
theorem dX8_row_238 : decode cX8_row 238 = .ok (.aload_n 0, 1) := by decide +kernel
theorem dX8_row_239 : decode cX8_row 239 = .ok (.getfield 51, 3) := by decide +kernel
theorem dX8_row_242 : decode cX8_row 242 = .ok (.iload 6, 2) := by decide +kernel
theorem dX8_row_244 : decode cX8_row 244 = .ok (.iaload, 1) := by decide +kernel
theorem dX8_row_245 : decode cX8_row 245 = .ok (.i2l, 1) := by decide +kernel
theorem dX8_row_246 : decode cX8_row 246 = .ok (.lmul, 1) := by decide +kernel
theorem dX8_row_247 : decode cX8_row 247 = .ok (.ladd, 1) := by decide +kernel
theorem dX8_row_248 : decode cX8_row 248 = .ok (.putfield 154, 3) := by decide +kernel
theorem dX8_row_251 : decode cX8_row 251 = .ok (.iinc 6 1, 3) := by decide +kernel
theorem dX8_row_254 : decode cX8_row 254 = .ok (.goto (-53), 3) := by decide +kernel
theorem dX8_row_257 : decode cX8_row 257 = .ok (.aload_n 0, 1) := by decide +kernel
theorem dX8_row_258 : decode cX8_row 258 = .ok (.iload_n 1, 1) := by decide +kernel
theorem dX8_row_259 : decode cX8_row 259 = .ok (.iload_n 3, 1) := by decide +kernel
theorem dX8_row_260 : decode cX8_row 260 = .ok (.invokevirtual 235, 3) := by decide +kernel
theorem dX8_row_263 : decode cX8_row 263 = .ok (.istore 6, 2) := by decide +kernel
theorem dX8_row_265 : decode cX8_row 265 = .ok (.aload_n 0, 1) := by decide +kernel
theorem dX8_row_266 : decode cX8_row 266 = .ok (.getfield 36, 3) := by decide +kernel
theorem dX8_row_269 : decode cX8_row 269 = .ok (.iload 6, 2) := by decide +kernel
theorem dX8_row_271 : decode cX8_row 271 = .ok (.dup2, 1) := by decide +kernel
theorem dX8_row_272 : decode cX8_row 272 = .ok (.iaload, 1) := by decide +kernel
theorem dX8_row_273 : decode cX8_row 273 = .ok (.iconst 1, 1) := by decide +kernel
theorem dX8_row_274 : decode cX8_row 274 = .ok (.iadd, 1) := by decide +kernel
theorem dX8_row_275 : decode cX8_row 275 = .ok (.iastore, 1) := by decide +kernel
theorem dX8_row_276 : decode cX8_row 276 = .ok (.aload_n 0, 1) := by decide +kernel
theorem dX8_row_277 : decode cX8_row 277 = .ok (.dup, 1) := by decide +kernel
theorem dX8_row_278 : decode cX8_row 278 = .ok (.getfield 133, 3) := by decide +kernel
theorem dX8_row_281 : decode cX8_row 281 = .ok (.iconst 1, 1) := by decide +kernel
theorem dX8_row_282 : decode cX8_row 282 = .ok (.iadd, 1) := by decide +kernel
theorem dX8_row_283 : decode cX8_row 283 = .ok (.putfield 133, 3) := by decide +kernel
theorem dX8_row_286 : decode cX8_row 286 = .ok (.aload_n 0, 1) := by decide +kernel
theorem dX8_row_287 : decode cX8_row 287 = .ok (.iload_n 1, 1) := by decide +kernel
theorem dX8_row_288 : decode cX8_row 288 = .ok (.invokevirtual 238, 3) := by decide +kernel
theorem dX8_row_291 : decode cX8_row 291 = .ok (.aload_n 0, 1) := by decide +kernel
theorem dX8_row_292 : decode cX8_row 292 = .ok (.dup, 1) := by decide +kernel
theorem dX8_row_293 : decode cX8_row 293 = .ok (.getfield 180, 3) := by decide +kernel
theorem dX8_row_296 : decode cX8_row 296 = .ok (.iconst 1, 1) := by decide +kernel
theorem dX8_row_297 : decode cX8_row 297 = .ok (.iadd, 1) := by decide +kernel
theorem dX8_row_298 : decode cX8_row 298 = .ok (.putfield 180, 3) := by decide +kernel
theorem dX8_row_301 : decode cX8_row 301 = .ok (.aload_n 0, 1) := by decide +kernel
theorem dX8_row_302 : decode cX8_row 302 = .ok (.getfield 180, 3) := by decide +kernel
theorem dX8_row_305 : decode cX8_row 305 = .ok (.aload_n 0, 1) := by decide +kernel
theorem dX8_row_306 : decode cX8_row 306 = .ok (.getfield 118, 3) := by decide +kernel
theorem dX8_row_309 : decode cX8_row 309 = .ok (.if_icmp .ne 7, 3) := by decide +kernel
theorem dX8_row_312 : decode cX8_row 312 = .ok (.aload_n 0, 1) := by decide +kernel
theorem dX8_row_313 : decode cX8_row 313 = .ok (.invokevirtual 242, 3) := by decide +kernel
theorem dX8_row_316 : decode cX8_row 316 = .ok (.iload 6, 2) := by decide +kernel
theorem dX8_row_318 : decode cX8_row 318 = .ok (.ireturn, 1) := by decide +kernel
theorem dX8_counterOf_0 : decode cX8_counterOf 0 = .ok (.iconst (-1), 1) := by decide +kernel
theorem dX8_counterOf_1 : decode cX8_counterOf 1 = .ok (.istore_n 2, 1) := by decide +kernel
theorem dX8_counterOf_2 : decode cX8_counterOf 2 = .ok (.aload_n 0, 1) := by decide +kernel
theorem dX8_counterOf_3 : decode cX8_counterOf 3 = .ok (.getfield 127, 3) := by decide +kernel
theorem dX8_counterOf_6 : decode cX8_counterOf 6 = .ok (.iconst 1, 1) := by decide +kernel
theorem dX8_counterOf_7 : decode cX8_counterOf 7 = .ok (.isub, 1) := by decide +kernel
theorem dX8_counterOf_8 : decode cX8_counterOf 8 = .ok (.istore_n 3, 1) := by decide +kernel
theorem dX8_counterOf_9 : decode cX8_counterOf 9 = .ok (.iload_n 3, 1) := by decide +kernel
theorem dX8_counterOf_10 : decode cX8_counterOf 10 = .ok (.ifCond .lt 25, 3) := by decide +kernel
theorem dX8_counterOf_13 : decode cX8_counterOf 13 = .ok (.aload_n 0, 1) := by decide +kernel
theorem dX8_counterOf_14 : decode cX8_counterOf 14 = .ok (.getfield 39, 3) := by decide +kernel
theorem dX8_counterOf_17 : decode cX8_counterOf 17 = .ok (.iload_n 3, 1) := by decide +kernel
theorem dX8_counterOf_18 : decode cX8_counterOf 18 = .ok (.iaload, 1) := by decide +kernel
theorem dX8_counterOf_19 : decode cX8_counterOf 19 = .ok (.iload_n 1, 1) := by decide +kernel
theorem dX8_counterOf_20 : decode cX8_counterOf 20 = .ok (.if_icmp .ne 7, 3) := by decide +kernel
theorem dX8_counterOf_23 : decode cX8_counterOf 23 = .ok (.iload_n 3, 1) := by decide +kernel
theorem dX8_counterOf_24 : decode cX8_counterOf 24 = .ok (.goto 4, 3) := by decide +kernel
theorem dX8_counterOf_27 : decode cX8_counterOf 27 = .ok (.iload_n 2, 1) := by decide +kernel
theorem dX8_counterOf_28 : decode cX8_counterOf 28 = .ok (.istore_n 2, 1) := by decide +kernel
theorem dX8_counterOf_29 : decode cX8_counterOf 29 = .ok (.iinc 3 (-1), 3) := by decide +kernel
theorem dX8_counterOf_32 : decode cX8_counterOf 32 = .ok (.goto (-23), 3) := by decide +kernel
theorem dX8_counterOf_35 : decode cX8_counterOf 35 = .ok (.iload_n 2, 1) := by decide +kernel
theorem dX8_counterOf_36 : decode cX8_counterOf 36 = .ok (.ireturn, 1) := by decide +kernel
theorem dX8_weakest_0 : decode cX8_weakest 0 = .ok (.iconst 0, 1) := by decide +kernel
theorem dX8_weakest_1 : decode cX8_weakest 1 = .ok (.istore_n 1, 1) := by decide +kernel
theorem dX8_weakest_2 : decode cX8_weakest 2 = .ok (.iconst 1, 1) := by decide +kernel
theorem dX8_weakest_3 : decode cX8_weakest 3 = .ok (.istore_n 2, 1) := by decide +kernel
theorem dX8_weakest_4 : decode cX8_weakest 4 = .ok (.iload_n 2, 1) := by decide +kernel
theorem dX8_weakest_5 : decode cX8_weakest 5 = .ok (.aload_n 0, 1) := by decide +kernel
theorem dX8_weakest_6 : decode cX8_weakest 6 = .ok (.getfield 127, 3) := by decide +kernel
theorem dX8_weakest_9 : decode cX8_weakest 9 = .ok (.if_icmp .ge 60, 3) := by decide +kernel
theorem dX8_weakest_12 : decode cX8_weakest 12 = .ok (.aload_n 0, 1) := by decide +kernel
theorem dX8_weakest_13 : decode cX8_weakest 13 = .ok (.getfield 39, 3) := by decide +kernel
theorem dX8_weakest_16 : decode cX8_weakest 16 = .ok (.iload_n 1, 1) := by decide +kernel
theorem dX8_weakest_17 : decode cX8_weakest 17 = .ok (.iaload, 1) := by decide +kernel
theorem dX8_weakest_18 : decode cX8_weakest 18 = .ok (.iconst (-1), 1) := by decide +kernel
theorem dX8_weakest_19 : decode cX8_weakest 19 = .ok (.if_icmp .eq 32, 3) := by decide +kernel
theorem dX8_weakest_22 : decode cX8_weakest 22 = .ok (.aload_n 0, 1) := by decide +kernel
theorem dX8_weakest_23 : decode cX8_weakest 23 = .ok (.getfield 39, 3) := by decide +kernel
theorem dX8_weakest_26 : decode cX8_weakest 26 = .ok (.iload_n 2, 1) := by decide +kernel
theorem dX8_weakest_27 : decode cX8_weakest 27 = .ok (.iaload, 1) := by decide +kernel
theorem dX8_weakest_28 : decode cX8_weakest 28 = .ok (.iconst (-1), 1) := by decide +kernel
theorem dX8_weakest_29 : decode cX8_weakest 29 = .ok (.if_icmp .eq 18, 3) := by decide +kernel
theorem dX8_weakest_32 : decode cX8_weakest 32 = .ok (.aload_n 0, 1) := by decide +kernel
theorem dX8_weakest_33 : decode cX8_weakest 33 = .ok (.getfield 42, 3) := by decide +kernel
theorem dX8_weakest_36 : decode cX8_weakest 36 = .ok (.iload_n 2, 1) := by decide +kernel
theorem dX8_weakest_37 : decode cX8_weakest 37 = .ok (.iaload, 1) := by decide +kernel
theorem dX8_weakest_38 : decode cX8_weakest 38 = .ok (.aload_n 0, 1) := by decide +kernel
theorem dX8_weakest_39 : decode cX8_weakest 39 = .ok (.getfield 42, 3) := by decide +kernel
theorem dX8_weakest_42 : decode cX8_weakest 42 = .ok (.iload_n 1, 1) := by decide +kernel
theorem dX8_weakest_43 : decode cX8_weakest 43 = .ok (.iaload, 1) := by decide +kernel
theorem dX8_weakest_44 : decode cX8_weakest 44 = .ok (.if_icmp .ge 7, 3) := by decide +kernel
theorem dX8_weakest_47 : decode cX8_weakest 47 = .ok (.iconst 1, 1) := by decide +kernel
theorem dX8_weakest_48 : decode cX8_weakest 48 = .ok (.goto 4, 3) := by decide +kernel
theorem dX8_weakest_51 : decode cX8_weakest 51 = .ok (.iconst 0, 1) := by decide +kernel
theorem dX8_weakest_52 : decode cX8_weakest 52 = .ok (.istore_n 3, 1) := by decide +kernel
theorem dX8_weakest_53 : decode cX8_weakest 53 = .ok (.iload_n 3, 1) := by decide +kernel
theorem dX8_weakest_54 : decode cX8_weakest 54 = .ok (.ifCond .eq 7, 3) := by decide +kernel
theorem dX8_weakest_57 : decode cX8_weakest 57 = .ok (.iload_n 2, 1) := by decide +kernel
theorem dX8_weakest_58 : decode cX8_weakest 58 = .ok (.goto 4, 3) := by decide +kernel
theorem dX8_weakest_61 : decode cX8_weakest 61 = .ok (.iload_n 1, 1) := by decide +kernel
theorem dX8_weakest_62 : decode cX8_weakest 62 = .ok (.istore_n 1, 1) := by decide +kernel
theorem dX8_weakest_63 : decode cX8_weakest 63 = .ok (.iinc 2 1, 3) := by decide +kernel
theorem dX8_weakest_66 : decode cX8_weakest 66 = .ok (.goto (-62), 3) := by decide +kernel
theorem dX8_weakest_69 : decode cX8_weakest 69 = .ok (.iload_n 1, 1) := by decide +kernel
theorem dX8_weakest_70 : decode cX8_weakest 70 = .ok (.ireturn, 1) := by decide +kernel
theorem dX8_countKey_0 : decode cX8_countKey 0 = .ok (.aload_n 0, 1) := by decide +kernel
theorem dX8_countKey_1 : decode cX8_countKey 1 = .ok (.iload_n 1, 1) := by decide +kernel
theorem dX8_countKey_2 : decode cX8_countKey 2 = .ok (.invokevirtual 245, 3) := by decide +kernel
theorem dX8_countKey_5 : decode cX8_countKey 5 = .ok (.istore_n 2, 1) := by decide +kernel
theorem dX8_countKey_6 : decode cX8_countKey 6 = .ok (.iload_n 2, 1) := by decide +kernel
theorem dX8_countKey_7 : decode cX8_countKey 7 = .ok (.ifCond .ge 41, 3) := by decide +kernel
theorem dX8_countKey_10 : decode cX8_countKey 10 = .ok (.aload_n 0, 1) := by decide +kernel
theorem dX8_countKey_11 : decode cX8_countKey 11 = .ok (.invokevirtual 248, 3) := by decide +kernel
theorem dX8_countKey_14 : decode cX8_countKey 14 = .ok (.istore_n 2, 1) := by decide +kernel
theorem dX8_countKey_15 : decode cX8_countKey 15 = .ok (.aload_n 0, 1) := by decide +kernel
theorem dX8_countKey_16 : decode cX8_countKey 16 = .ok (.getfield 45, 3) := by decide +kernel
theorem dX8_countKey_19 : decode cX8_countKey 19 = .ok (.iload_n 2, 1) := by decide +kernel
theorem dX8_countKey_20 : decode cX8_countKey 20 = .ok (.aload_n 0, 1) := by decide +kernel
theorem dX8_countKey_21 : decode cX8_countKey 21 = .ok (.getfield 39, 3) := by decide +kernel
theorem dX8_countKey_24 : decode cX8_countKey 24 = .ok (.iload_n 2, 1) := by decide +kernel
theorem dX8_countKey_25 : decode cX8_countKey 25 = .ok (.iaload, 1) := by decide +kernel
theorem dX8_countKey_26 : decode cX8_countKey 26 = .ok (.iconst (-1), 1) := by decide +kernel
theorem dX8_countKey_27 : decode cX8_countKey 27 = .ok (.if_icmp .ne 7, 3) := by decide +kernel
theorem dX8_countKey_30 : decode cX8_countKey 30 = .ok (.iconst 0, 1) := by decide +kernel
theorem dX8_countKey_31 : decode cX8_countKey 31 = .ok (.goto 9, 3) := by decide +kernel
theorem dX8_countKey_34 : decode cX8_countKey 34 = .ok (.aload_n 0, 1) := by decide +kernel
theorem dX8_countKey_35 : decode cX8_countKey 35 = .ok (.getfield 42, 3) := by decide +kernel
theorem dX8_countKey_38 : decode cX8_countKey 38 = .ok (.iload_n 2, 1) := by decide +kernel
theorem dX8_countKey_39 : decode cX8_countKey 39 = .ok (.iaload, 1) := by decide +kernel
theorem dX8_countKey_40 : decode cX8_countKey 40 = .ok (.iastore, 1) := by decide +kernel
theorem dX8_countKey_41 : decode cX8_countKey 41 = .ok (.aload_n 0, 1) := by decide +kernel
theorem dX8_countKey_42 : decode cX8_countKey 42 = .ok (.getfield 39, 3) := by decide +kernel
theorem dX8_countKey_45 : decode cX8_countKey 45 = .ok (.iload_n 2, 1) := by decide +kernel
theorem dX8_countKey_46 : decode cX8_countKey 46 = .ok (.iload_n 1, 1) := by decide +kernel
theorem dX8_countKey_47 : decode cX8_countKey 47 = .ok (.iastore, 1) := by decide +kernel
theorem dX8_countKey_48 : decode cX8_countKey 48 = .ok (.aload_n 0, 1) := by decide +kernel
theorem dX8_countKey_49 : decode cX8_countKey 49 = .ok (.getfield 42, 3) := by decide +kernel
theorem dX8_countKey_52 : decode cX8_countKey 52 = .ok (.iload_n 2, 1) := by decide +kernel
theorem dX8_countKey_53 : decode cX8_countKey 53 = .ok (.dup2, 1) := by decide +kernel
theorem dX8_countKey_54 : decode cX8_countKey 54 = .ok (.iaload, 1) := by decide +kernel
theorem dX8_countKey_55 : decode cX8_countKey 55 = .ok (.iconst 1, 1) := by decide +kernel
theorem dX8_countKey_56 : decode cX8_countKey 56 = .ok (.iadd, 1) := by decide +kernel
theorem dX8_countKey_57 : decode cX8_countKey 57 = .ok (.iastore, 1) := by decide +kernel
theorem dX8_countKey_58 : decode cX8_countKey 58 = .ok (.return_, 1) := by decide +kernel
theorem dX8_canSplit_0 : decode cX8_canSplit 0 = .ok (.iconst 1, 1) := by decide +kernel
theorem dX8_canSplit_1 : decode cX8_canSplit 1 = .ok (.istore_n 1, 1) := by decide +kernel
theorem dX8_canSplit_2 : decode cX8_canSplit 2 = .ok (.iconst 0, 1) := by decide +kernel
end
section
theorem dX8_canSplit_3 : decode cX8_canSplit 3 = .ok (.istore_n 2, 1) := by decide +kernel
theorem dX8_canSplit_4 : decode cX8_canSplit 4 = .ok (.iload_n 2, 1) := by decide +kernel
theorem dX8_canSplit_5 : decode cX8_canSplit 5 = .ok (.aload_n 0, 1) := by decide +kernel
theorem dX8_canSplit_6 : decode cX8_canSplit 6 = .ok (.getfield 130, 3) := by decide +kernel
theorem dX8_canSplit_9 : decode cX8_canSplit 9 = .ok (.if_icmp .ge 39, 3) := by decide +kernel
theorem dX8_canSplit_12 : decode cX8_canSplit 12 = .ok (.iload_n 1, 1) := by decide +kernel
theorem dX8_canSplit_13 : decode cX8_canSplit 13 = .ok (.ifCond .eq 27, 3) := by decide +kernel
theorem dX8_canSplit_16 : decode cX8_canSplit 16 = .ok (.aload_n 0, 1) := by decide +kernel
theorem dX8_canSplit_17 : decode cX8_canSplit 17 = .ok (.getfield 13, 3) := by decide +kernel
theorem dX8_canSplit_20 : decode cX8_canSplit 20 = .ok (.iload_n 2, 1) := by decide +kernel
theorem dX8_canSplit_21 : decode cX8_canSplit 21 = .ok (.baload, 1) := by decide +kernel
theorem dX8_canSplit_22 : decode cX8_canSplit 22 = .ok (.ifCond .eq 18, 3) := by decide +kernel
theorem dX8_canSplit_25 : decode cX8_canSplit 25 = .ok (.aload_n 0, 1) := by decide +kernel
theorem dX8_canSplit_26 : decode cX8_canSplit 26 = .ok (.getfield 7, 3) := by decide +kernel
theorem dX8_canSplit_29 : decode cX8_canSplit 29 = .ok (.iload_n 2, 1) := by decide +kernel
theorem dX8_canSplit_30 : decode cX8_canSplit 30 = .ok (.iaload, 1) := by decide +kernel
theorem dX8_canSplit_31 : decode cX8_canSplit 31 = .ok (.bipush 6, 2) := by decide +kernel
theorem dX8_canSplit_33 : decode cX8_canSplit 33 = .ok (.if_icmp .ge 7, 3) := by decide +kernel
theorem dX8_canSplit_36 : decode cX8_canSplit 36 = .ok (.iconst 1, 1) := by decide +kernel
theorem dX8_canSplit_37 : decode cX8_canSplit 37 = .ok (.goto 4, 3) := by decide +kernel
theorem dX8_canSplit_40 : decode cX8_canSplit 40 = .ok (.iconst 0, 1) := by decide +kernel
theorem dX8_canSplit_41 : decode cX8_canSplit 41 = .ok (.istore_n 1, 1) := by decide +kernel
theorem dX8_canSplit_42 : decode cX8_canSplit 42 = .ok (.iinc 2 1, 3) := by decide +kernel
theorem dX8_canSplit_45 : decode cX8_canSplit 45 = .ok (.goto (-41), 3) := by decide +kernel
theorem dX8_canSplit_48 : decode cX8_canSplit 48 = .ok (.iload_n 1, 1) := by decide +kernel
theorem dX8_canSplit_49 : decode cX8_canSplit 49 = .ok (.ireturn, 1) := by decide +kernel
theorem dX8_makeParts_0 : decode cX8_makeParts 0 = .ok (.aload_n 0, 1) := by decide +kernel
theorem dX8_makeParts_1 : decode cX8_makeParts 1 = .ok (.getfield 33, 3) := by decide +kernel
theorem dX8_makeParts_4 : decode cX8_makeParts 4 = .ok (.iload_n 1, 1) := by decide +kernel
theorem dX8_makeParts_5 : decode cX8_makeParts 5 = .ok (.iload_n 2, 1) := by decide +kernel
theorem dX8_makeParts_6 : decode cX8_makeParts 6 = .ok (.iastore, 1) := by decide +kernel
theorem dX8_makeParts_7 : decode cX8_makeParts 7 = .ok (.iconst 1, 1) := by decide +kernel
theorem dX8_makeParts_8 : decode cX8_makeParts 8 = .ok (.istore_n 3, 1) := by decide +kernel
theorem dX8_makeParts_9 : decode cX8_makeParts 9 = .ok (.iload_n 3, 1) := by decide +kernel
theorem dX8_makeParts_10 : decode cX8_makeParts 10 = .ok (.iload_n 2, 1) := by decide +kernel
theorem dX8_makeParts_11 : decode cX8_makeParts 11 = .ok (.if_icmp .ge 15, 3) := by decide +kernel
theorem dX8_makeParts_14 : decode cX8_makeParts 14 = .ok (.aload_n 0, 1) := by decide +kernel
theorem dX8_makeParts_15 : decode cX8_makeParts 15 = .ok (.iload_n 3, 1) := by decide +kernel
theorem dX8_makeParts_16 : decode cX8_makeParts 16 = .ok (.iload_n 1, 1) := by decide +kernel
theorem dX8_makeParts_17 : decode cX8_makeParts 17 = .ok (.invokevirtual 167, 3) := by decide +kernel
theorem dX8_makeParts_20 : decode cX8_makeParts 20 = .ok (.iinc 3 1, 3) := by decide +kernel
theorem dX8_makeParts_23 : decode cX8_makeParts 23 = .ok (.goto (-14), 3) := by decide +kernel
theorem dX8_makeParts_26 : decode cX8_makeParts 26 = .ok (.return_, 1) := by decide +kernel
theorem dX8_mostOf_0 : decode cX8_mostOf 0 = .ok (.aload_n 0, 1) := by decide +kernel
theorem dX8_mostOf_1 : decode cX8_mostOf 1 = .ok (.iload_n 1, 1) := by decide +kernel
theorem dX8_mostOf_2 : decode cX8_mostOf 2 = .ok (.invokevirtual 245, 3) := by decide +kernel
theorem dX8_mostOf_5 : decode cX8_mostOf 5 = .ok (.istore_n 2, 1) := by decide +kernel
theorem dX8_mostOf_6 : decode cX8_mostOf 6 = .ok (.aload_n 0, 1) := by decide +kernel
theorem dX8_mostOf_7 : decode cX8_mostOf 7 = .ok (.invokevirtual 248, 3) := by decide +kernel
theorem dX8_mostOf_10 : decode cX8_mostOf 10 = .ok (.istore_n 3, 1) := by decide +kernel
theorem dX8_mostOf_11 : decode cX8_mostOf 11 = .ok (.iload_n 2, 1) := by decide +kernel
theorem dX8_mostOf_12 : decode cX8_mostOf 12 = .ok (.ifCond .lt 12, 3) := by decide +kernel
theorem dX8_mostOf_15 : decode cX8_mostOf 15 = .ok (.aload_n 0, 1) := by decide +kernel
theorem dX8_mostOf_16 : decode cX8_mostOf 16 = .ok (.getfield 42, 3) := by decide +kernel
theorem dX8_mostOf_19 : decode cX8_mostOf 19 = .ok (.iload_n 2, 1) := by decide +kernel
theorem dX8_mostOf_20 : decode cX8_mostOf 20 = .ok (.iaload, 1) := by decide +kernel
theorem dX8_mostOf_21 : decode cX8_mostOf 21 = .ok (.goto 23, 3) := by decide +kernel
theorem dX8_mostOf_24 : decode cX8_mostOf 24 = .ok (.aload_n 0, 1) := by decide +kernel
theorem dX8_mostOf_25 : decode cX8_mostOf 25 = .ok (.getfield 39, 3) := by decide +kernel
theorem dX8_mostOf_28 : decode cX8_mostOf 28 = .ok (.iload_n 3, 1) := by decide +kernel
theorem dX8_mostOf_29 : decode cX8_mostOf 29 = .ok (.iaload, 1) := by decide +kernel
theorem dX8_mostOf_30 : decode cX8_mostOf 30 = .ok (.iconst (-1), 1) := by decide +kernel
theorem dX8_mostOf_31 : decode cX8_mostOf 31 = .ok (.if_icmp .ne 7, 3) := by decide +kernel
theorem dX8_mostOf_34 : decode cX8_mostOf 34 = .ok (.iconst 0, 1) := by decide +kernel
theorem dX8_mostOf_35 : decode cX8_mostOf 35 = .ok (.goto 9, 3) := by decide +kernel
theorem dX8_mostOf_38 : decode cX8_mostOf 38 = .ok (.aload_n 0, 1) := by decide +kernel
theorem dX8_mostOf_39 : decode cX8_mostOf 39 = .ok (.getfield 42, 3) := by decide +kernel
theorem dX8_mostOf_42 : decode cX8_mostOf 42 = .ok (.iload_n 3, 1) := by decide +kernel
theorem dX8_mostOf_43 : decode cX8_mostOf 43 = .ok (.iaload, 1) := by decide +kernel
theorem dX8_mostOf_44 : decode cX8_mostOf 44 = .ok (.ireturn, 1) := by decide +kernel
theorem dX8_endRound_0 : decode cX8_endRound 0 = .ok (.iconst 0, 1) := by decide +kernel
theorem dX8_endRound_1 : decode cX8_endRound 1 = .ok (.istore_n 1, 1) := by decide +kernel
theorem dX8_endRound_2 : decode cX8_endRound 2 = .ok (.iload_n 1, 1) := by decide +kernel
theorem dX8_endRound_3 : decode cX8_endRound 3 = .ok (.aload_n 0, 1) := by decide +kernel
theorem dX8_endRound_4 : decode cX8_endRound 4 = .ok (.getfield 127, 3) := by decide +kernel
theorem dX8_endRound_7 : decode cX8_endRound 7 = .ok (.if_icmp .ge 116, 3) := by decide +kernel
theorem dX8_endRound_10 : decode cX8_endRound 10 = .ok (.aload_n 0, 1) := by decide +kernel
theorem dX8_endRound_11 : decode cX8_endRound 11 = .ok (.getfield 39, 3) := by decide +kernel
theorem dX8_endRound_14 : decode cX8_endRound 14 = .ok (.iload_n 1, 1) := by decide +kernel
theorem dX8_endRound_15 : decode cX8_endRound 15 = .ok (.iaload, 1) := by decide +kernel
theorem dX8_endRound_16 : decode cX8_endRound 16 = .ok (.istore_n 2, 1) := by decide +kernel
theorem dX8_endRound_17 : decode cX8_endRound 17 = .ok (.iload_n 2, 1) := by decide +kernel
theorem dX8_endRound_18 : decode cX8_endRound 18 = .ok (.iconst (-1), 1) := by decide +kernel
theorem dX8_endRound_19 : decode cX8_endRound 19 = .ok (.if_icmp .eq 98, 3) := by decide +kernel
theorem dX8_endRound_22 : decode cX8_endRound 22 = .ok (.aload_n 0, 1) := by decide +kernel
theorem dX8_endRound_23 : decode cX8_endRound 23 = .ok (.getfield 42, 3) := by decide +kernel
theorem dX8_endRound_26 : decode cX8_endRound 26 = .ok (.iload_n 1, 1) := by decide +kernel
theorem dX8_endRound_27 : decode cX8_endRound 27 = .ok (.iaload, 1) := by decide +kernel
theorem dX8_endRound_28 : decode cX8_endRound 28 = .ok (.aload_n 0, 1) := by decide +kernel
theorem dX8_endRound_29 : decode cX8_endRound 29 = .ok (.getfield 45, 3) := by decide +kernel
theorem dX8_endRound_32 : decode cX8_endRound 32 = .ok (.iload_n 1, 1) := by decide +kernel
theorem dX8_endRound_33 : decode cX8_endRound 33 = .ok (.iaload, 1) := by decide +kernel
theorem dX8_endRound_34 : decode cX8_endRound 34 = .ok (.isub, 1) := by decide +kernel
theorem dX8_endRound_35 : decode cX8_endRound 35 = .ok (.aload_n 0, 1) := by decide +kernel
theorem dX8_endRound_36 : decode cX8_endRound 36 = .ok (.getfield 121, 3) := by decide +kernel
theorem dX8_endRound_39 : decode cX8_endRound 39 = .ok (.if_icmp .lt 78, 3) := by decide +kernel
theorem dX8_endRound_42 : decode cX8_endRound 42 = .ok (.aload_n 0, 1) := by decide +kernel
theorem dX8_endRound_43 : decode cX8_endRound 43 = .ok (.getfield 33, 3) := by decide +kernel
theorem dX8_endRound_46 : decode cX8_endRound 46 = .ok (.iload_n 2, 1) := by decide +kernel
theorem dX8_endRound_47 : decode cX8_endRound 47 = .ok (.iaload, 1) := by decide +kernel
theorem dX8_endRound_48 : decode cX8_endRound 48 = .ok (.iconst 1, 1) := by decide +kernel
theorem dX8_endRound_49 : decode cX8_endRound 49 = .ok (.if_icmp .ne 68, 3) := by decide +kernel
theorem dX8_endRound_52 : decode cX8_endRound 52 = .ok (.aload_n 0, 1) := by decide +kernel
theorem dX8_endRound_53 : decode cX8_endRound 53 = .ok (.getfield 42, 3) := by decide +kernel
theorem dX8_endRound_56 : decode cX8_endRound 56 = .ok (.iload_n 1, 1) := by decide +kernel
theorem dX8_endRound_57 : decode cX8_endRound 57 = .ok (.iaload, 1) := by decide +kernel
theorem dX8_endRound_58 : decode cX8_endRound 58 = .ok (.aload_n 0, 1) := by decide +kernel
theorem dX8_endRound_59 : decode cX8_endRound 59 = .ok (.getfield 121, 3) := by decide +kernel
theorem dX8_endRound_62 : decode cX8_endRound 62 = .ok (.idiv, 1) := by decide +kernel
theorem dX8_endRound_63 : decode cX8_endRound 63 = .ok (.iconst 1, 1) := by decide +kernel
theorem dX8_endRound_64 : decode cX8_endRound 64 = .ok (.iadd, 1) := by decide +kernel
theorem dX8_endRound_65 : decode cX8_endRound 65 = .ok (.istore_n 3, 1) := by decide +kernel
theorem dX8_endRound_66 : decode cX8_endRound 66 = .ok (.aload_n 0, 1) := by decide +kernel
theorem dX8_endRound_67 : decode cX8_endRound 67 = .ok (.invokevirtual 251, 3) := by decide +kernel
theorem dX8_endRound_70 : decode cX8_endRound 70 = .ok (.ifCond .eq 37, 3) := by decide +kernel
theorem dX8_endRound_73 : decode cX8_endRound 73 = .ok (.aload_n 0, 1) := by decide +kernel
theorem dX8_endRound_74 : decode cX8_endRound 74 = .ok (.iload_n 2, 1) := by decide +kernel
theorem dX8_endRound_75 : decode cX8_endRound 75 = .ok (.iload_n 3, 1) := by decide +kernel
theorem dX8_endRound_76 : decode cX8_endRound 76 = .ok (.aload_n 0, 1) := by decide +kernel
theorem dX8_endRound_77 : decode cX8_endRound 77 = .ok (.getfield 114, 3) := by decide +kernel
theorem dX8_endRound_80 : decode cX8_endRound 80 = .ok (.if_icmp .ge 7, 3) := by decide +kernel
theorem dX8_endRound_83 : decode cX8_endRound 83 = .ok (.iload_n 3, 1) := by decide +kernel
theorem dX8_endRound_84 : decode cX8_endRound 84 = .ok (.goto 7, 3) := by decide +kernel
theorem dX8_endRound_87 : decode cX8_endRound 87 = .ok (.aload_n 0, 1) := by decide +kernel
theorem dX8_endRound_88 : decode cX8_endRound 88 = .ok (.getfield 114, 3) := by decide +kernel
theorem dX8_endRound_91 : decode cX8_endRound 91 = .ok (.invokevirtual 255, 3) := by decide +kernel
theorem dX8_endRound_94 : decode cX8_endRound 94 = .ok (.aload_n 0, 1) := by decide +kernel
theorem dX8_endRound_95 : decode cX8_endRound 95 = .ok (.dup, 1) := by decide +kernel
theorem dX8_endRound_96 : decode cX8_endRound 96 = .ok (.getfield 139, 3) := by decide +kernel
theorem dX8_endRound_99 : decode cX8_endRound 99 = .ok (.iconst 1, 1) := by decide +kernel
theorem dX8_endRound_100 : decode cX8_endRound 100 = .ok (.iadd, 1) := by decide +kernel
theorem dX8_endRound_101 : decode cX8_endRound 101 = .ok (.putfield 139, 3) := by decide +kernel
theorem dX8_endRound_104 : decode cX8_endRound 104 = .ok (.goto 13, 3) := by decide +kernel
theorem dX8_endRound_107 : decode cX8_endRound 107 = .ok (.aload_n 0, 1) := by decide +kernel
theorem dX8_endRound_108 : decode cX8_endRound 108 = .ok (.dup, 1) := by decide +kernel
theorem dX8_endRound_109 : decode cX8_endRound 109 = .ok (.getfield 142, 3) := by decide +kernel
theorem dX8_endRound_112 : decode cX8_endRound 112 = .ok (.iconst 1, 1) := by decide +kernel
theorem dX8_endRound_113 : decode cX8_endRound 113 = .ok (.iadd, 1) := by decide +kernel
theorem dX8_endRound_114 : decode cX8_endRound 114 = .ok (.putfield 142, 3) := by decide +kernel
theorem dX8_endRound_117 : decode cX8_endRound 117 = .ok (.iinc 1 1, 3) := by decide +kernel
theorem dX8_endRound_120 : decode cX8_endRound 120 = .ok (.goto (-118), 3) := by decide +kernel
theorem dX8_endRound_123 : decode cX8_endRound 123 = .ok (.iconst 0, 1) := by decide +kernel
theorem dX8_endRound_124 : decode cX8_endRound 124 = .ok (.istore_n 1, 1) := by decide +kernel
theorem dX8_endRound_125 : decode cX8_endRound 125 = .ok (.iload_n 1, 1) := by decide +kernel
theorem dX8_endRound_126 : decode cX8_endRound 126 = .ok (.bipush 100, 2) := by decide +kernel
theorem dX8_endRound_128 : decode cX8_endRound 128 = .ok (.if_icmp .ge 52, 3) := by decide +kernel
theorem dX8_endRound_131 : decode cX8_endRound 131 = .ok (.aload_n 0, 1) := by decide +kernel
theorem dX8_endRound_132 : decode cX8_endRound 132 = .ok (.getfield 33, 3) := by decide +kernel
theorem dX8_endRound_135 : decode cX8_endRound 135 = .ok (.iload_n 1, 1) := by decide +kernel
theorem dX8_endRound_136 : decode cX8_endRound 136 = .ok (.iaload, 1) := by decide +kernel
theorem dX8_endRound_137 : decode cX8_endRound 137 = .ok (.iconst 1, 1) := by decide +kernel
theorem dX8_endRound_138 : decode cX8_endRound 138 = .ok (.if_icmp .le 36, 3) := by decide +kernel
theorem dX8_endRound_141 : decode cX8_endRound 141 = .ok (.aload_n 0, 1) := by decide +kernel
theorem dX8_endRound_142 : decode cX8_endRound 142 = .ok (.iload_n 1, 1) := by decide +kernel
theorem dX8_endRound_143 : decode cX8_endRound 143 = .ok (.invokevirtual 258, 3) := by decide +kernel
theorem dX8_endRound_146 : decode cX8_endRound 146 = .ok (.aload_n 0, 1) := by decide +kernel
theorem dX8_endRound_147 : decode cX8_endRound 147 = .ok (.getfield 121, 3) := by decide +kernel
theorem dX8_endRound_150 : decode cX8_endRound 150 = .ok (.aload_n 0, 1) := by decide +kernel
theorem dX8_endRound_151 : decode cX8_endRound 151 = .ok (.getfield 124, 3) := by decide +kernel
theorem dX8_endRound_154 : decode cX8_endRound 154 = .ok (.isub, 1) := by decide +kernel
theorem dX8_endRound_155 : decode cX8_endRound 155 = .ok (.if_icmp .ge 19, 3) := by decide +kernel
theorem dX8_endRound_158 : decode cX8_endRound 158 = .ok (.aload_n 0, 1) := by decide +kernel
theorem dX8_endRound_159 : decode cX8_endRound 159 = .ok (.iload_n 1, 1) := by decide +kernel
theorem dX8_endRound_160 : decode cX8_endRound 160 = .ok (.invokevirtual 261, 3) := by decide +kernel
theorem dX8_endRound_163 : decode cX8_endRound 163 = .ok (.istore_n 2, 1) := by decide +kernel
theorem dX8_endRound_164 : decode cX8_endRound 164 = .ok (.aload_n 0, 1) := by decide +kernel
theorem dX8_endRound_165 : decode cX8_endRound 165 = .ok (.dup, 1) := by decide +kernel
theorem dX8_endRound_166 : decode cX8_endRound 166 = .ok (.getfield 139, 3) := by decide +kernel
theorem dX8_endRound_169 : decode cX8_endRound 169 = .ok (.iconst 1, 1) := by decide +kernel
theorem dX8_endRound_170 : decode cX8_endRound 170 = .ok (.iadd, 1) := by decide +kernel
theorem dX8_endRound_171 : decode cX8_endRound 171 = .ok (.putfield 139, 3) := by decide +kernel
theorem dX8_endRound_174 : decode cX8_endRound 174 = .ok (.iinc 1 1, 3) := by decide +kernel
theorem dX8_endRound_177 : decode cX8_endRound 177 = .ok (.goto (-52), 3) := by decide +kernel
theorem dX8_endRound_180 : decode cX8_endRound 180 = .ok (.aload_n 0, 1) := by decide +kernel
theorem dX8_endRound_181 : decode cX8_endRound 181 = .ok (.invokevirtual 177, 3) := by decide +kernel
theorem dX8_endRound_184 : decode cX8_endRound 184 = .ok (.aload_n 0, 1) := by decide +kernel
theorem dX8_endRound_185 : decode cX8_endRound 185 = .ok (.dup, 1) := by decide +kernel
theorem dX8_endRound_186 : decode cX8_endRound 186 = .ok (.getfield 136, 3) := by decide +kernel
theorem dX8_endRound_189 : decode cX8_endRound 189 = .ok (.iconst 1, 1) := by decide +kernel
theorem dX8_endRound_190 : decode cX8_endRound 190 = .ok (.iadd, 1) := by decide +kernel
theorem dX8_endRound_191 : decode cX8_endRound 191 = .ok (.putfield 136, 3) := by decide +kernel
theorem dX8_endRound_194 : decode cX8_endRound 194 = .ok (.return_, 1) := by decide +kernel
theorem dX8_joinedOf_0 : decode cX8_joinedOf 0 = .ok (.lload_n 1, 1) := by decide +kernel
theorem dX8_joinedOf_1 : decode cX8_joinedOf 1 = .ok (.ldc2_w 185, 3) := by decide +kernel
theorem dX8_joinedOf_4 : decode cX8_joinedOf 4 = .ok (.lcmp, 1) := by decide +kernel
theorem dX8_joinedOf_5 : decode cX8_joinedOf 5 = .ok (.ifCond .eq 11, 3) := by decide +kernel
theorem dX8_joinedOf_8 : decode cX8_joinedOf 8 = .ok (.lload_n 3, 1) := by decide +kernel
theorem dX8_joinedOf_9 : decode cX8_joinedOf 9 = .ok (.ldc2_w 185, 3) := by decide +kernel
theorem dX8_joinedOf_12 : decode cX8_joinedOf 12 = .ok (.lcmp, 1) := by decide +kernel
theorem dX8_joinedOf_13 : decode cX8_joinedOf 13 = .ok (.ifCond .ne 17, 3) := by decide +kernel
theorem dX8_joinedOf_16 : decode cX8_joinedOf 16 = .ok (.lload_n 1, 1) := by decide +kernel
theorem dX8_joinedOf_17 : decode cX8_joinedOf 17 = .ok (.ldc2_w 185, 3) := by decide +kernel
theorem dX8_joinedOf_20 : decode cX8_joinedOf 20 = .ok (.lcmp, 1) := by decide +kernel
theorem dX8_joinedOf_21 : decode cX8_joinedOf 21 = .ok (.ifCond .ne 7, 3) := by decide +kernel
theorem dX8_joinedOf_24 : decode cX8_joinedOf 24 = .ok (.lload_n 3, 1) := by decide +kernel
theorem dX8_joinedOf_25 : decode cX8_joinedOf 25 = .ok (.goto 4, 3) := by decide +kernel
theorem dX8_joinedOf_28 : decode cX8_joinedOf 28 = .ok (.lload_n 1, 1) := by decide +kernel
theorem dX8_joinedOf_29 : decode cX8_joinedOf 29 = .ok (.lreturn, 1) := by decide +kernel
theorem dX8_joinedOf_30 : decode cX8_joinedOf 30 = .ok (.iload_n 0, 1) := by decide +kernel
theorem dX8_joinedOf_31 : decode cX8_joinedOf 31 = .ok (.tableswitch 68 2 5 #[29, 41, 53, 57], 29) := by decide +kernel
theorem dX8_joinedOf_60 : decode cX8_joinedOf 60 = .ok (.lload_n 1, 1) := by decide +kernel
theorem dX8_joinedOf_61 : decode cX8_joinedOf 61 = .ok (.lload_n 3, 1) := by decide +kernel
theorem dX8_joinedOf_62 : decode cX8_joinedOf 62 = .ok (.lcmp, 1) := by decide +kernel
theorem dX8_joinedOf_63 : decode cX8_joinedOf 63 = .ok (.ifCond .ge 7, 3) := by decide +kernel
theorem dX8_joinedOf_66 : decode cX8_joinedOf 66 = .ok (.lload_n 1, 1) := by decide +kernel
theorem dX8_joinedOf_67 : decode cX8_joinedOf 67 = .ok (.goto 4, 3) := by decide +kernel
theorem dX8_joinedOf_70 : decode cX8_joinedOf 70 = .ok (.lload_n 3, 1) := by decide +kernel
theorem dX8_joinedOf_71 : decode cX8_joinedOf 71 = .ok (.lreturn, 1) := by decide +kernel
theorem dX8_joinedOf_72 : decode cX8_joinedOf 72 = .ok (.lload_n 1, 1) := by decide +kernel
theorem dX8_joinedOf_73 : decode cX8_joinedOf 73 = .ok (.lload_n 3, 1) := by decide +kernel
theorem dX8_joinedOf_74 : decode cX8_joinedOf 74 = .ok (.lcmp, 1) := by decide +kernel
theorem dX8_joinedOf_75 : decode cX8_joinedOf 75 = .ok (.ifCond .le 7, 3) := by decide +kernel
theorem dX8_joinedOf_78 : decode cX8_joinedOf 78 = .ok (.lload_n 1, 1) := by decide +kernel
theorem dX8_joinedOf_79 : decode cX8_joinedOf 79 = .ok (.goto 4, 3) := by decide +kernel
theorem dX8_joinedOf_82 : decode cX8_joinedOf 82 = .ok (.lload_n 3, 1) := by decide +kernel
theorem dX8_joinedOf_83 : decode cX8_joinedOf 83 = .ok (.lreturn, 1) := by decide +kernel
theorem dX8_joinedOf_84 : decode cX8_joinedOf 84 = .ok (.lload_n 1, 1) := by decide +kernel
theorem dX8_joinedOf_85 : decode cX8_joinedOf 85 = .ok (.lload_n 3, 1) := by decide +kernel
theorem dX8_joinedOf_86 : decode cX8_joinedOf 86 = .ok (.lor, 1) := by decide +kernel
theorem dX8_joinedOf_87 : decode cX8_joinedOf 87 = .ok (.lreturn, 1) := by decide +kernel
theorem dX8_joinedOf_88 : decode cX8_joinedOf 88 = .ok (.iload 5, 2) := by decide +kernel
theorem dX8_joinedOf_90 : decode cX8_joinedOf 90 = .ok (.ifCond .eq 7, 3) := by decide +kernel
theorem dX8_joinedOf_93 : decode cX8_joinedOf 93 = .ok (.lload_n 3, 1) := by decide +kernel
theorem dX8_joinedOf_94 : decode cX8_joinedOf 94 = .ok (.goto 4, 3) := by decide +kernel
theorem dX8_joinedOf_97 : decode cX8_joinedOf 97 = .ok (.lload_n 1, 1) := by decide +kernel
theorem dX8_joinedOf_98 : decode cX8_joinedOf 98 = .ok (.lreturn, 1) := by decide +kernel
theorem dX8_joinedOf_99 : decode cX8_joinedOf 99 = .ok (.lload_n 1, 1) := by decide +kernel
theorem dX8_joinedOf_100 : decode cX8_joinedOf 100 = .ok (.lload_n 3, 1) := by decide +kernel
theorem dX8_joinedOf_101 : decode cX8_joinedOf 101 = .ok (.ladd, 1) := by decide +kernel
theorem dX8_joinedOf_102 : decode cX8_joinedOf 102 = .ok (.lreturn, 1) := by decide +kernel
theorem dX8_come_0 : decode cX8_come 0 = .ok (.aload_n 0, 1) := by decide +kernel
theorem dX8_come_1 : decode cX8_come 1 = .ok (.getfield 17, 3) := by decide +kernel
theorem dX8_come_4 : decode cX8_come 4 = .ok (.bipush 6, 2) := by decide +kernel
theorem dX8_come_6 : decode cX8_come 6 = .ok (.iload_n 2, 1) := by decide +kernel
theorem dX8_come_7 : decode cX8_come 7 = .ok (.imul, 1) := by decide +kernel
theorem dX8_come_8 : decode cX8_come 8 = .ok (.iload_n 1, 1) := by decide +kernel
theorem dX8_come_9 : decode cX8_come 9 = .ok (.iadd, 1) := by decide +kernel
theorem dX8_come_10 : decode cX8_come 10 = .ok (.laload, 1) := by decide +kernel
theorem dX8_come_11 : decode cX8_come 11 = .ok (.lstore_n 3, 1) := by decide +kernel
theorem dX8_come_12 : decode cX8_come 12 = .ok (.aload_n 0, 1) := by decide +kernel
theorem dX8_come_13 : decode cX8_come 13 = .ok (.getfield 21, 3) := by decide +kernel
theorem dX8_come_16 : decode cX8_come 16 = .ok (.iload_n 2, 1) := by decide +kernel
theorem dX8_come_17 : decode cX8_come 17 = .ok (.iaload, 1) := by decide +kernel
theorem dX8_come_18 : decode cX8_come 18 = .ok (.istore 5, 2) := by decide +kernel
theorem dX8_come_20 : decode cX8_come 20 = .ok (.iconst 1, 1) := by decide +kernel
theorem dX8_come_21 : decode cX8_come 21 = .ok (.istore 6, 2) := by decide +kernel
theorem dX8_come_23 : decode cX8_come 23 = .ok (.iload 6, 2) := by decide +kernel
theorem dX8_come_25 : decode cX8_come 25 = .ok (.aload_n 0, 1) := by decide +kernel
theorem dX8_come_26 : decode cX8_come 26 = .ok (.getfield 33, 3) := by decide +kernel
theorem dX8_come_29 : decode cX8_come 29 = .ok (.iload_n 2, 1) := by decide +kernel
theorem dX8_come_30 : decode cX8_come 30 = .ok (.iaload, 1) := by decide +kernel
theorem dX8_come_31 : decode cX8_come 31 = .ok (.if_icmp .ge 84, 3) := by decide +kernel
theorem dX8_come_34 : decode cX8_come 34 = .ok (.aload_n 0, 1) := by decide +kernel
theorem dX8_come_35 : decode cX8_come 35 = .ok (.iload 6, 2) := by decide +kernel
theorem dX8_come_37 : decode cX8_come 37 = .ok (.iload_n 2, 1) := by decide +kernel
theorem dX8_come_38 : decode cX8_come 38 = .ok (.invokevirtual 187, 3) := by decide +kernel
theorem dX8_come_41 : decode cX8_come 41 = .ok (.istore 7, 2) := by decide +kernel
theorem dX8_come_43 : decode cX8_come 43 = .ok (.aload_n 0, 1) := by decide +kernel
theorem dX8_come_44 : decode cX8_come 44 = .ok (.getfield 7, 3) := by decide +kernel
theorem dX8_come_47 : decode cX8_come 47 = .ok (.iload_n 1, 1) := by decide +kernel
theorem dX8_come_48 : decode cX8_come 48 = .ok (.iaload, 1) := by decide +kernel
theorem dX8_come_49 : decode cX8_come 49 = .ok (.lload_n 3, 1) := by decide +kernel
theorem dX8_come_50 : decode cX8_come 50 = .ok (.aload_n 0, 1) := by decide +kernel
theorem dX8_come_51 : decode cX8_come 51 = .ok (.getfield 17, 3) := by decide +kernel
theorem dX8_come_54 : decode cX8_come 54 = .ok (.bipush 6, 2) := by decide +kernel
theorem dX8_come_56 : decode cX8_come 56 = .ok (.iload 7, 2) := by decide +kernel
theorem dX8_come_58 : decode cX8_come 58 = .ok (.imul, 1) := by decide +kernel
theorem dX8_come_59 : decode cX8_come 59 = .ok (.iload_n 1, 1) := by decide +kernel
theorem dX8_come_60 : decode cX8_come 60 = .ok (.iadd, 1) := by decide +kernel
theorem dX8_come_61 : decode cX8_come 61 = .ok (.laload, 1) := by decide +kernel
theorem dX8_come_62 : decode cX8_come 62 = .ok (.aload_n 0, 1) := by decide +kernel
theorem dX8_come_63 : decode cX8_come 63 = .ok (.getfield 21, 3) := by decide +kernel
theorem dX8_come_66 : decode cX8_come 66 = .ok (.iload 7, 2) := by decide +kernel
theorem dX8_come_68 : decode cX8_come 68 = .ok (.iaload, 1) := by decide +kernel
theorem dX8_come_69 : decode cX8_come 69 = .ok (.iload 5, 2) := by decide +kernel
theorem dX8_come_71 : decode cX8_come 71 = .ok (.if_icmp .le 7, 3) := by decide +kernel
theorem dX8_come_74 : decode cX8_come 74 = .ok (.iconst 1, 1) := by decide +kernel
theorem dX8_come_75 : decode cX8_come 75 = .ok (.goto 4, 3) := by decide +kernel
theorem dX8_come_78 : decode cX8_come 78 = .ok (.iconst 0, 1) := by decide +kernel
theorem dX8_come_79 : decode cX8_come 79 = .ok (.invokestatic 264, 3) := by decide +kernel
theorem dX8_come_82 : decode cX8_come 82 = .ok (.lstore_n 3, 1) := by decide +kernel
theorem dX8_come_83 : decode cX8_come 83 = .ok (.aload_n 0, 1) := by decide +kernel
theorem dX8_come_84 : decode cX8_come 84 = .ok (.getfield 21, 3) := by decide +kernel
theorem dX8_come_87 : decode cX8_come 87 = .ok (.iload 7, 2) := by decide +kernel
theorem dX8_come_89 : decode cX8_come 89 = .ok (.iaload, 1) := by decide +kernel
theorem dX8_come_90 : decode cX8_come 90 = .ok (.iload 5, 2) := by decide +kernel
theorem dX8_come_92 : decode cX8_come 92 = .ok (.if_icmp .le 13, 3) := by decide +kernel
theorem dX8_come_95 : decode cX8_come 95 = .ok (.aload_n 0, 1) := by decide +kernel
theorem dX8_come_96 : decode cX8_come 96 = .ok (.getfield 21, 3) := by decide +kernel
theorem dX8_come_99 : decode cX8_come 99 = .ok (.iload 7, 2) := by decide +kernel
theorem dX8_come_101 : decode cX8_come 101 = .ok (.iaload, 1) := by decide +kernel
theorem dX8_come_102 : decode cX8_come 102 = .ok (.goto 5, 3) := by decide +kernel
theorem dX8_come_105 : decode cX8_come 105 = .ok (.iload 5, 2) := by decide +kernel
theorem dX8_come_107 : decode cX8_come 107 = .ok (.istore 5, 2) := by decide +kernel
theorem dX8_come_109 : decode cX8_come 109 = .ok (.iinc 6 1, 3) := by decide +kernel
theorem dX8_come_112 : decode cX8_come 112 = .ok (.goto (-89), 3) := by decide +kernel
theorem dX8_come_115 : decode cX8_come 115 = .ok (.lload_n 3, 1) := by decide +kernel
theorem dX8_come_116 : decode cX8_come 116 = .ok (.lreturn, 1) := by decide +kernel
theorem dX8_joinBack_0 : decode cX8_joinBack 0 = .ok (.iconst 0, 1) := by decide +kernel
theorem dX8_joinBack_1 : decode cX8_joinBack 1 = .ok (.istore_n 2, 1) := by decide +kernel
theorem dX8_joinBack_2 : decode cX8_joinBack 2 = .ok (.aload_n 0, 1) := by decide +kernel
theorem dX8_joinBack_3 : decode cX8_joinBack 3 = .ok (.getfield 21, 3) := by decide +kernel
theorem dX8_joinBack_6 : decode cX8_joinBack 6 = .ok (.iload_n 1, 1) := by decide +kernel
theorem dX8_joinBack_7 : decode cX8_joinBack 7 = .ok (.iaload, 1) := by decide +kernel
theorem dX8_joinBack_8 : decode cX8_joinBack 8 = .ok (.istore_n 3, 1) := by decide +kernel
theorem dX8_joinBack_9 : decode cX8_joinBack 9 = .ok (.iconst 0, 1) := by decide +kernel
theorem dX8_joinBack_10 : decode cX8_joinBack 10 = .ok (.istore 4, 2) := by decide +kernel
theorem dX8_joinBack_12 : decode cX8_joinBack 12 = .ok (.iload 4, 2) := by decide +kernel
theorem dX8_joinBack_14 : decode cX8_joinBack 14 = .ok (.aload_n 0, 1) := by decide +kernel
theorem dX8_joinBack_15 : decode cX8_joinBack 15 = .ok (.getfield 130, 3) := by decide +kernel
theorem dX8_joinBack_18 : decode cX8_joinBack 18 = .ok (.if_icmp .ge 23, 3) := by decide +kernel
theorem dX8_joinBack_21 : decode cX8_joinBack 21 = .ok (.aload_n 0, 1) := by decide +kernel
theorem dX8_joinBack_22 : decode cX8_joinBack 22 = .ok (.getfield 108, 3) := by decide +kernel
theorem dX8_joinBack_25 : decode cX8_joinBack 25 = .ok (.iload 4, 2) := by decide +kernel
theorem dX8_joinBack_27 : decode cX8_joinBack 27 = .ok (.aload_n 0, 1) := by decide +kernel
theorem dX8_joinBack_28 : decode cX8_joinBack 28 = .ok (.iload 4, 2) := by decide +kernel
theorem dX8_joinBack_30 : decode cX8_joinBack 30 = .ok (.iload_n 1, 1) := by decide +kernel
theorem dX8_joinBack_31 : decode cX8_joinBack 31 = .ok (.invokevirtual 268, 3) := by decide +kernel
theorem dX8_joinBack_34 : decode cX8_joinBack 34 = .ok (.lastore, 1) := by decide +kernel
theorem dX8_joinBack_35 : decode cX8_joinBack 35 = .ok (.iinc 4 1, 3) := by decide +kernel
theorem dX8_joinBack_38 : decode cX8_joinBack 38 = .ok (.goto (-26), 3) := by decide +kernel
theorem dX8_joinBack_41 : decode cX8_joinBack 41 = .ok (.iconst 1, 1) := by decide +kernel
theorem dX8_joinBack_42 : decode cX8_joinBack 42 = .ok (.istore 4, 2) := by decide +kernel
theorem dX8_joinBack_44 : decode cX8_joinBack 44 = .ok (.iload 4, 2) := by decide +kernel
theorem dX8_joinBack_46 : decode cX8_joinBack 46 = .ok (.aload_n 0, 1) := by decide +kernel
theorem dX8_joinBack_47 : decode cX8_joinBack 47 = .ok (.getfield 33, 3) := by decide +kernel
theorem dX8_joinBack_50 : decode cX8_joinBack 50 = .ok (.iload_n 1, 1) := by decide +kernel
theorem dX8_joinBack_51 : decode cX8_joinBack 51 = .ok (.iaload, 1) := by decide +kernel
theorem dX8_joinBack_52 : decode cX8_joinBack 52 = .ok (.if_icmp .ge 59, 3) := by decide +kernel
theorem dX8_joinBack_55 : decode cX8_joinBack 55 = .ok (.aload_n 0, 1) := by decide +kernel
theorem dX8_joinBack_56 : decode cX8_joinBack 56 = .ok (.iload 4, 2) := by decide +kernel
theorem dX8_joinBack_58 : decode cX8_joinBack 58 = .ok (.iload_n 1, 1) := by decide +kernel
theorem dX8_joinBack_59 : decode cX8_joinBack 59 = .ok (.invokevirtual 187, 3) := by decide +kernel
theorem dX8_joinBack_62 : decode cX8_joinBack 62 = .ok (.istore 5, 2) := by decide +kernel
theorem dX8_joinBack_64 : decode cX8_joinBack 64 = .ok (.iload_n 2, 1) := by decide +kernel
theorem dX8_joinBack_65 : decode cX8_joinBack 65 = .ok (.aload_n 0, 1) := by decide +kernel
theorem dX8_joinBack_66 : decode cX8_joinBack 66 = .ok (.getfield 30, 3) := by decide +kernel
theorem dX8_joinBack_69 : decode cX8_joinBack 69 = .ok (.iload 5, 2) := by decide +kernel
theorem dX8_joinBack_71 : decode cX8_joinBack 71 = .ok (.baload, 1) := by decide +kernel
theorem dX8_joinBack_72 : decode cX8_joinBack 72 = .ok (.ifCond .eq 7, 3) := by decide +kernel
theorem dX8_joinBack_75 : decode cX8_joinBack 75 = .ok (.iconst 1, 1) := by decide +kernel
theorem dX8_joinBack_76 : decode cX8_joinBack 76 = .ok (.goto 4, 3) := by decide +kernel
theorem dX8_joinBack_79 : decode cX8_joinBack 79 = .ok (.iconst 0, 1) := by decide +kernel
theorem dX8_joinBack_80 : decode cX8_joinBack 80 = .ok (.iadd, 1) := by decide +kernel
theorem dX8_joinBack_81 : decode cX8_joinBack 81 = .ok (.istore_n 2, 1) := by decide +kernel
theorem dX8_joinBack_82 : decode cX8_joinBack 82 = .ok (.aload_n 0, 1) := by decide +kernel
theorem dX8_joinBack_83 : decode cX8_joinBack 83 = .ok (.getfield 21, 3) := by decide +kernel
theorem dX8_joinBack_86 : decode cX8_joinBack 86 = .ok (.iload 5, 2) := by decide +kernel
theorem dX8_joinBack_88 : decode cX8_joinBack 88 = .ok (.iaload, 1) := by decide +kernel
theorem dX8_joinBack_89 : decode cX8_joinBack 89 = .ok (.iload_n 3, 1) := by decide +kernel
theorem dX8_joinBack_90 : decode cX8_joinBack 90 = .ok (.if_icmp .le 13, 3) := by decide +kernel
theorem dX8_joinBack_93 : decode cX8_joinBack 93 = .ok (.aload_n 0, 1) := by decide +kernel
theorem dX8_joinBack_94 : decode cX8_joinBack 94 = .ok (.getfield 21, 3) := by decide +kernel
theorem dX8_joinBack_97 : decode cX8_joinBack 97 = .ok (.iload 5, 2) := by decide +kernel
theorem dX8_joinBack_99 : decode cX8_joinBack 99 = .ok (.iaload, 1) := by decide +kernel
theorem dX8_joinBack_100 : decode cX8_joinBack 100 = .ok (.goto 4, 3) := by decide +kernel
theorem dX8_joinBack_103 : decode cX8_joinBack 103 = .ok (.iload_n 3, 1) := by decide +kernel
theorem dX8_joinBack_104 : decode cX8_joinBack 104 = .ok (.istore_n 3, 1) := by decide +kernel
theorem dX8_joinBack_105 : decode cX8_joinBack 105 = .ok (.iinc 4 1, 3) := by decide +kernel
theorem dX8_joinBack_108 : decode cX8_joinBack 108 = .ok (.goto (-64), 3) := by decide +kernel
theorem dX8_joinBack_111 : decode cX8_joinBack 111 = .ok (.iconst 0, 1) := by decide +kernel
theorem dX8_joinBack_112 : decode cX8_joinBack 112 = .ok (.istore 4, 2) := by decide +kernel
theorem dX8_joinBack_114 : decode cX8_joinBack 114 = .ok (.iload 4, 2) := by decide +kernel
theorem dX8_joinBack_116 : decode cX8_joinBack 116 = .ok (.aload_n 0, 1) := by decide +kernel
theorem dX8_joinBack_117 : decode cX8_joinBack 117 = .ok (.getfield 130, 3) := by decide +kernel
theorem dX8_joinBack_120 : decode cX8_joinBack 120 = .ok (.if_icmp .ge 28, 3) := by decide +kernel
theorem dX8_joinBack_123 : decode cX8_joinBack 123 = .ok (.aload_n 0, 1) := by decide +kernel
theorem dX8_joinBack_124 : decode cX8_joinBack 124 = .ok (.getfield 17, 3) := by decide +kernel
theorem dX8_joinBack_127 : decode cX8_joinBack 127 = .ok (.bipush 6, 2) := by decide +kernel
theorem dX8_joinBack_129 : decode cX8_joinBack 129 = .ok (.iload_n 1, 1) := by decide +kernel
theorem dX8_joinBack_130 : decode cX8_joinBack 130 = .ok (.imul, 1) := by decide +kernel
theorem dX8_joinBack_131 : decode cX8_joinBack 131 = .ok (.iload 4, 2) := by decide +kernel
theorem dX8_joinBack_133 : decode cX8_joinBack 133 = .ok (.iadd, 1) := by decide +kernel
theorem dX8_joinBack_134 : decode cX8_joinBack 134 = .ok (.aload_n 0, 1) := by decide +kernel
theorem dX8_joinBack_135 : decode cX8_joinBack 135 = .ok (.getfield 108, 3) := by decide +kernel
theorem dX8_joinBack_138 : decode cX8_joinBack 138 = .ok (.iload 4, 2) := by decide +kernel
theorem dX8_joinBack_140 : decode cX8_joinBack 140 = .ok (.laload, 1) := by decide +kernel
theorem dX8_joinBack_141 : decode cX8_joinBack 141 = .ok (.lastore, 1) := by decide +kernel
theorem dX8_joinBack_142 : decode cX8_joinBack 142 = .ok (.iinc 4 1, 3) := by decide +kernel
theorem dX8_joinBack_145 : decode cX8_joinBack 145 = .ok (.goto (-31), 3) := by decide +kernel
theorem dX8_joinBack_148 : decode cX8_joinBack 148 = .ok (.aload_n 0, 1) := by decide +kernel
theorem dX8_joinBack_149 : decode cX8_joinBack 149 = .ok (.getfield 21, 3) := by decide +kernel
theorem dX8_joinBack_152 : decode cX8_joinBack 152 = .ok (.iload_n 1, 1) := by decide +kernel
theorem dX8_joinBack_153 : decode cX8_joinBack 153 = .ok (.iload_n 3, 1) := by decide +kernel
theorem dX8_joinBack_154 : decode cX8_joinBack 154 = .ok (.iastore, 1) := by decide +kernel
theorem dX8_joinBack_155 : decode cX8_joinBack 155 = .ok (.aload_n 0, 1) := by decide +kernel
theorem dX8_joinBack_156 : decode cX8_joinBack 156 = .ok (.getfield 33, 3) := by decide +kernel
theorem dX8_joinBack_159 : decode cX8_joinBack 159 = .ok (.iload_n 1, 1) := by decide +kernel
theorem dX8_joinBack_160 : decode cX8_joinBack 160 = .ok (.iconst 1, 1) := by decide +kernel
theorem dX8_joinBack_161 : decode cX8_joinBack 161 = .ok (.iastore, 1) := by decide +kernel
theorem dX8_joinBack_162 : decode cX8_joinBack 162 = .ok (.aload_n 0, 1) := by decide +kernel
theorem dX8_joinBack_163 : decode cX8_joinBack 163 = .ok (.dup, 1) := by decide +kernel
theorem dX8_joinBack_164 : decode cX8_joinBack 164 = .ok (.getfield 148, 3) := by decide +kernel
theorem dX8_joinBack_167 : decode cX8_joinBack 167 = .ok (.iload_n 2, 1) := by decide +kernel
theorem dX8_joinBack_168 : decode cX8_joinBack 168 = .ok (.iadd, 1) := by decide +kernel
theorem dX8_joinBack_169 : decode cX8_joinBack 169 = .ok (.putfield 148, 3) := by decide +kernel
theorem dX8_joinBack_172 : decode cX8_joinBack 172 = .ok (.iload_n 2, 1) := by decide +kernel
theorem dX8_joinBack_173 : decode cX8_joinBack 173 = .ok (.ireturn, 1) := by decide +kernel
theorem dX8_state_0 : decode cX8_state 0 = .ok (.iload_n 1, 1) := by decide +kernel
theorem dX8_state_1 : decode cX8_state 1 = .ok (.i2l, 1) := by decide +kernel
theorem dX8_state_2 : decode cX8_state 2 = .ok (.lconst 0, 1) := by decide +kernel
theorem dX8_state_3 : decode cX8_state 3 = .ok (.aload_n 0, 1) := by decide +kernel
theorem dX8_state_4 : decode cX8_state 4 = .ok (.getfield 130, 3) := by decide +kernel
theorem dX8_state_7 : decode cX8_state 7 = .ok (.iconst 1, 1) := by decide +kernel
theorem dX8_state_8 : decode cX8_state 8 = .ok (.isub, 1) := by decide +kernel
theorem dX8_state_9 : decode cX8_state 9 = .ok (.i2l, 1) := by decide +kernel
theorem dX8_state_10 : decode cX8_state 10 = .ok (.invokestatic 197, 3) := by decide +kernel
theorem dX8_state_13 : decode cX8_state 13 = .ok (.ifCond .eq 11, 3) := by decide +kernel
theorem dX8_state_16 : decode cX8_state 16 = .ok (.aload_n 0, 1) := by decide +kernel
theorem dX8_state_17 : decode cX8_state 17 = .ok (.iload_n 2, 1) := by decide +kernel
theorem dX8_state_18 : decode cX8_state 18 = .ok (.invokevirtual 220, 3) := by decide +kernel
theorem dX8_state_21 : decode cX8_state 21 = .ok (.ifCond .eq 9, 3) := by decide +kernel
theorem dX8_state_24 : decode cX8_state 24 = .ok (.ldc2_w 185, 3) := by decide +kernel
theorem dX8_state_27 : decode cX8_state 27 = .ok (.goto 9, 3) := by decide +kernel
theorem dX8_state_30 : decode cX8_state 30 = .ok (.aload_n 0, 1) := by decide +kernel
theorem dX8_state_31 : decode cX8_state 31 = .ok (.iload_n 1, 1) := by decide +kernel
theorem dX8_state_32 : decode cX8_state 32 = .ok (.iload_n 2, 1) := by decide +kernel
theorem dX8_state_33 : decode cX8_state 33 = .ok (.invokevirtual 268, 3) := by decide +kernel
theorem dX8_state_36 : decode cX8_state 36 = .ok (.lreturn, 1) := by decide +kernel
theorem dX8_part_0 : decode cX8_part 0 = .ok (.iload_n 1, 1) := by decide +kernel
theorem dX8_part_1 : decode cX8_part 1 = .ok (.i2l, 1) := by decide +kernel
theorem dX8_part_2 : decode cX8_part 2 = .ok (.lconst 0, 1) := by decide +kernel
theorem dX8_part_3 : decode cX8_part 3 = .ok (.aload_n 0, 1) := by decide +kernel
theorem dX8_part_4 : decode cX8_part 4 = .ok (.getfield 130, 3) := by decide +kernel
theorem dX8_part_7 : decode cX8_part 7 = .ok (.iconst 1, 1) := by decide +kernel
theorem dX8_part_8 : decode cX8_part 8 = .ok (.isub, 1) := by decide +kernel
theorem dX8_part_9 : decode cX8_part 9 = .ok (.i2l, 1) := by decide +kernel
theorem dX8_part_10 : decode cX8_part 10 = .ok (.invokestatic 197, 3) := by decide +kernel
theorem dX8_part_13 : decode cX8_part 13 = .ok (.ifCond .eq 45, 3) := by decide +kernel
theorem dX8_part_16 : decode cX8_part 16 = .ok (.aload_n 0, 1) := by decide +kernel
theorem dX8_part_17 : decode cX8_part 17 = .ok (.iload_n 2, 1) := by decide +kernel
theorem dX8_part_18 : decode cX8_part 18 = .ok (.invokevirtual 220, 3) := by decide +kernel
theorem dX8_part_21 : decode cX8_part 21 = .ok (.ifCond .ne 37, 3) := by decide +kernel
theorem dX8_part_24 : decode cX8_part 24 = .ok (.iload_n 3, 1) := by decide +kernel
theorem dX8_part_25 : decode cX8_part 25 = .ok (.i2l, 1) := by decide +kernel
theorem dX8_part_26 : decode cX8_part 26 = .ok (.lconst 0, 1) := by decide +kernel
theorem dX8_part_27 : decode cX8_part 27 = .ok (.aload_n 0, 1) := by decide +kernel
theorem dX8_part_28 : decode cX8_part 28 = .ok (.getfield 33, 3) := by decide +kernel
theorem dX8_part_31 : decode cX8_part 31 = .ok (.aload_n 0, 1) := by decide +kernel
theorem dX8_part_32 : decode cX8_part 32 = .ok (.iload_n 2, 1) := by decide +kernel
theorem dX8_part_33 : decode cX8_part 33 = .ok (.invokevirtual 220, 3) := by decide +kernel
theorem dX8_part_36 : decode cX8_part 36 = .ok (.ifCond .eq 7, 3) := by decide +kernel
theorem dX8_part_39 : decode cX8_part 39 = .ok (.iconst 0, 1) := by decide +kernel
theorem dX8_part_40 : decode cX8_part 40 = .ok (.goto 4, 3) := by decide +kernel
theorem dX8_part_43 : decode cX8_part 43 = .ok (.iload_n 2, 1) := by decide +kernel
theorem dX8_part_44 : decode cX8_part 44 = .ok (.iaload, 1) := by decide +kernel
theorem dX8_part_45 : decode cX8_part 45 = .ok (.iconst 1, 1) := by decide +kernel
theorem dX8_part_46 : decode cX8_part 46 = .ok (.isub, 1) := by decide +kernel
theorem dX8_part_47 : decode cX8_part 47 = .ok (.i2l, 1) := by decide +kernel
theorem dX8_part_48 : decode cX8_part 48 = .ok (.invokestatic 197, 3) := by decide +kernel
theorem dX8_part_51 : decode cX8_part 51 = .ok (.ifCond .eq 7, 3) := by decide +kernel
theorem dX8_part_54 : decode cX8_part 54 = .ok (.iconst 1, 1) := by decide +kernel
theorem dX8_part_55 : decode cX8_part 55 = .ok (.goto 4, 3) := by decide +kernel
theorem dX8_part_58 : decode cX8_part 58 = .ok (.iconst 0, 1) := by decide +kernel
theorem dX8_part_59 : decode cX8_part 59 = .ok (.istore 4, 2) := by decide +kernel
theorem dX8_part_61 : decode cX8_part 61 = .ok (.iload 4, 2) := by decide +kernel
theorem dX8_part_63 : decode cX8_part 63 = .ok (.ifCond .eq 22, 3) := by decide +kernel
theorem dX8_part_66 : decode cX8_part 66 = .ok (.aload_n 0, 1) := by decide +kernel
theorem dX8_part_67 : decode cX8_part 67 = .ok (.getfield 17, 3) := by decide +kernel
theorem dX8_part_70 : decode cX8_part 70 = .ok (.bipush 6, 2) := by decide +kernel
theorem dX8_part_72 : decode cX8_part 72 = .ok (.aload_n 0, 1) := by decide +kernel
theorem dX8_part_73 : decode cX8_part 73 = .ok (.iload_n 3, 1) := by decide +kernel
theorem dX8_part_74 : decode cX8_part 74 = .ok (.iload_n 2, 1) := by decide +kernel
theorem dX8_part_75 : decode cX8_part 75 = .ok (.invokevirtual 187, 3) := by decide +kernel
theorem dX8_part_78 : decode cX8_part 78 = .ok (.imul, 1) := by decide +kernel
theorem dX8_part_79 : decode cX8_part 79 = .ok (.iload_n 1, 1) := by decide +kernel
theorem dX8_part_80 : decode cX8_part 80 = .ok (.iadd, 1) := by decide +kernel
theorem dX8_part_81 : decode cX8_part 81 = .ok (.laload, 1) := by decide +kernel
theorem dX8_part_82 : decode cX8_part 82 = .ok (.goto 6, 3) := by decide +kernel
theorem dX8_part_85 : decode cX8_part 85 = .ok (.ldc2_w 185, 3) := by decide +kernel
theorem dX8_part_88 : decode cX8_part 88 = .ok (.lreturn, 1) := by decide +kernel
theorem dX8_parts_0 : decode cX8_parts 0 = .ok (.aload_n 0, 1) := by decide +kernel
theorem dX8_parts_1 : decode cX8_parts 1 = .ok (.iload_n 1, 1) := by decide +kernel
theorem dX8_parts_2 : decode cX8_parts 2 = .ok (.invokevirtual 220, 3) := by decide +kernel
theorem dX8_parts_5 : decode cX8_parts 5 = .ok (.ifCond .eq 8, 3) := by decide +kernel
theorem dX8_parts_8 : decode cX8_parts 8 = .ok (.bipush (-101), 2) := by decide +kernel
theorem dX8_parts_10 : decode cX8_parts 10 = .ok (.goto 9, 3) := by decide +kernel
theorem dX8_parts_13 : decode cX8_parts 13 = .ok (.aload_n 0, 1) := by decide +kernel
theorem dX8_parts_14 : decode cX8_parts 14 = .ok (.getfield 33, 3) := by decide +kernel
theorem dX8_parts_17 : decode cX8_parts 17 = .ok (.iload_n 1, 1) := by decide +kernel
theorem dX8_parts_18 : decode cX8_parts 18 = .ok (.iaload, 1) := by decide +kernel
theorem dX8_parts_19 : decode cX8_parts 19 = .ok (.ireturn, 1) := by decide +kernel
theorem dX8_place_0 : decode cX8_place 0 = .ok (.aload_n 0, 1) := by decide +kernel
theorem dX8_place_1 : decode cX8_place 1 = .ok (.iload_n 1, 1) := by decide +kernel
theorem dX8_place_2 : decode cX8_place 2 = .ok (.invokevirtual 220, 3) := by decide +kernel
theorem dX8_place_5 : decode cX8_place 5 = .ok (.ifCond .eq 6, 3) := by decide +kernel
theorem dX8_place_8 : decode cX8_place 8 = .ok (.bipush (-101), 2) := by decide +kernel
theorem dX8_place_10 : decode cX8_place 10 = .ok (.ireturn, 1) := by decide +kernel
theorem dX8_place_11 : decode cX8_place 11 = .ok (.iload_n 2, 1) := by decide +kernel
theorem dX8_place_12 : decode cX8_place 12 = .ok (.i2l, 1) := by decide +kernel
theorem dX8_place_13 : decode cX8_place 13 = .ok (.lconst 0, 1) := by decide +kernel
theorem dX8_place_14 : decode cX8_place 14 = .ok (.aload_n 0, 1) := by decide +kernel
theorem dX8_place_15 : decode cX8_place 15 = .ok (.getfield 33, 3) := by decide +kernel
theorem dX8_place_18 : decode cX8_place 18 = .ok (.iload_n 1, 1) := by decide +kernel
theorem dX8_place_19 : decode cX8_place 19 = .ok (.iaload, 1) := by decide +kernel
theorem dX8_place_20 : decode cX8_place 20 = .ok (.iconst 1, 1) := by decide +kernel
theorem dX8_place_21 : decode cX8_place 21 = .ok (.isub, 1) := by decide +kernel
theorem dX8_place_22 : decode cX8_place 22 = .ok (.i2l, 1) := by decide +kernel
theorem dX8_place_23 : decode cX8_place 23 = .ok (.invokestatic 197, 3) := by decide +kernel
theorem dX8_place_26 : decode cX8_place 26 = .ok (.ifCond .eq 12, 3) := by decide +kernel
theorem dX8_place_29 : decode cX8_place 29 = .ok (.aload_n 0, 1) := by decide +kernel
theorem dX8_place_30 : decode cX8_place 30 = .ok (.iload_n 1, 1) := by decide +kernel
theorem dX8_place_31 : decode cX8_place 31 = .ok (.iload_n 2, 1) := by decide +kernel
theorem dX8_place_32 : decode cX8_place 32 = .ok (.invokevirtual 235, 3) := by decide +kernel
theorem dX8_place_35 : decode cX8_place 35 = .ok (.goto 4, 3) := by decide +kernel
theorem dX8_place_38 : decode cX8_place 38 = .ok (.iconst (-1), 1) := by decide +kernel
theorem dX8_place_39 : decode cX8_place 39 = .ok (.ireturn, 1) := by decide +kernel
theorem dX8_split_0 : decode cX8_split 0 = .ok (.aload_n 0, 1) := by decide +kernel
theorem dX8_split_1 : decode cX8_split 1 = .ok (.iload_n 1, 1) := by decide +kernel
theorem dX8_split_2 : decode cX8_split 2 = .ok (.invokevirtual 220, 3) := by decide +kernel
theorem dX8_split_5 : decode cX8_split 5 = .ok (.ifCond .eq 6, 3) := by decide +kernel
theorem dX8_split_8 : decode cX8_split 8 = .ok (.bipush (-101), 2) := by decide +kernel
theorem dX8_split_10 : decode cX8_split 10 = .ok (.ireturn, 1) := by decide +kernel
theorem dX8_split_11 : decode cX8_split 11 = .ok (.iload_n 2, 1) := by decide +kernel
theorem dX8_split_12 : decode cX8_split 12 = .ok (.i2l, 1) := by decide +kernel
theorem dX8_split_13 : decode cX8_split 13 = .ok (.ldc2_w 205, 3) := by decide +kernel
theorem dX8_split_16 : decode cX8_split 16 = .ok (.aload_n 0, 1) := by decide +kernel
theorem dX8_split_17 : decode cX8_split 17 = .ok (.getfield 114, 3) := by decide +kernel
theorem dX8_split_20 : decode cX8_split 20 = .ok (.i2l, 1) := by decide +kernel
theorem dX8_split_21 : decode cX8_split 21 = .ok (.invokestatic 197, 3) := by decide +kernel
theorem dX8_split_24 : decode cX8_split 24 = .ok (.ifCond .ne 6, 3) := by decide +kernel
theorem dX8_split_27 : decode cX8_split 27 = .ok (.bipush (-102), 2) := by decide +kernel
theorem dX8_split_29 : decode cX8_split 29 = .ok (.ireturn, 1) := by decide +kernel
theorem dX8_split_30 : decode cX8_split 30 = .ok (.aload_n 0, 1) := by decide +kernel
theorem dX8_split_31 : decode cX8_split 31 = .ok (.getfield 33, 3) := by decide +kernel
theorem dX8_split_34 : decode cX8_split 34 = .ok (.iload_n 1, 1) := by decide +kernel
theorem dX8_split_35 : decode cX8_split 35 = .ok (.iaload, 1) := by decide +kernel
theorem dX8_split_36 : decode cX8_split 36 = .ok (.iconst 1, 1) := by decide +kernel
theorem dX8_split_37 : decode cX8_split 37 = .ok (.if_icmp .gt 10, 3) := by decide +kernel
theorem dX8_split_40 : decode cX8_split 40 = .ok (.aload_n 0, 1) := by decide +kernel
theorem dX8_split_41 : decode cX8_split 41 = .ok (.invokevirtual 251, 3) := by decide +kernel
theorem dX8_split_44 : decode cX8_split 44 = .ok (.ifCond .ne 6, 3) := by decide +kernel
theorem dX8_split_47 : decode cX8_split 47 = .ok (.bipush (-103), 2) := by decide +kernel
theorem dX8_split_49 : decode cX8_split 49 = .ok (.ireturn, 1) := by decide +kernel
theorem dX8_split_50 : decode cX8_split 50 = .ok (.aload_n 0, 1) := by decide +kernel
theorem dX8_split_51 : decode cX8_split 51 = .ok (.iload_n 1, 1) := by decide +kernel
theorem dX8_split_52 : decode cX8_split 52 = .ok (.iload_n 2, 1) := by decide +kernel
theorem dX8_split_53 : decode cX8_split 53 = .ok (.invokevirtual 255, 3) := by decide +kernel
theorem dX8_split_56 : decode cX8_split 56 = .ok (.iconst 1, 1) := by decide +kernel
theorem dX8_split_57 : decode cX8_split 57 = .ok (.ireturn, 1) := by decide +kernel
theorem dX8_back_0 : decode cX8_back 0 = .ok (.aload_n 0, 1) := by decide +kernel
theorem dX8_back_1 : decode cX8_back 1 = .ok (.iload_n 1, 1) := by decide +kernel
theorem dX8_back_2 : decode cX8_back 2 = .ok (.invokevirtual 220, 3) := by decide +kernel
theorem dX8_back_5 : decode cX8_back 5 = .ok (.ifCond .eq 6, 3) := by decide +kernel
theorem dX8_back_8 : decode cX8_back 8 = .ok (.bipush (-101), 2) := by decide +kernel
theorem dX8_back_10 : decode cX8_back 10 = .ok (.ireturn, 1) := by decide +kernel
theorem dX8_back_11 : decode cX8_back 11 = .ok (.aload_n 0, 1) := by decide +kernel
theorem dX8_back_12 : decode cX8_back 12 = .ok (.getfield 33, 3) := by decide +kernel
theorem dX8_back_15 : decode cX8_back 15 = .ok (.iload_n 1, 1) := by decide +kernel
theorem dX8_back_16 : decode cX8_back 16 = .ok (.iaload, 1) := by decide +kernel
theorem dX8_back_17 : decode cX8_back 17 = .ok (.iconst 1, 1) := by decide +kernel
theorem dX8_back_18 : decode cX8_back 18 = .ok (.if_icmp .ne 8, 3) := by decide +kernel
theorem dX8_back_21 : decode cX8_back 21 = .ok (.bipush (-103), 2) := by decide +kernel
theorem dX8_back_23 : decode cX8_back 23 = .ok (.goto 8, 3) := by decide +kernel
theorem dX8_back_26 : decode cX8_back 26 = .ok (.aload_n 0, 1) := by decide +kernel
theorem dX8_back_27 : decode cX8_back 27 = .ok (.iload_n 1, 1) := by decide +kernel
theorem dX8_back_28 : decode cX8_back 28 = .ok (.invokevirtual 261, 3) := by decide +kernel
theorem dX8_back_31 : decode cX8_back 31 = .ok (.ireturn, 1) := by decide +kernel
theorem dX8_tree_0 : decode cX8_tree 0 = .ok (.aload_n 0, 1) := by decide +kernel
theorem dX8_tree_1 : decode cX8_tree 1 = .ok (.iload_n 1, 1) := by decide +kernel
theorem dX8_tree_2 : decode cX8_tree 2 = .ok (.invokevirtual 220, 3) := by decide +kernel
theorem dX8_tree_5 : decode cX8_tree 5 = .ok (.ifCond .eq 6, 3) := by decide +kernel
theorem dX8_tree_8 : decode cX8_tree 8 = .ok (.bipush (-101), 2) := by decide +kernel
theorem dX8_tree_10 : decode cX8_tree 10 = .ok (.ireturn, 1) := by decide +kernel
theorem dX8_tree_11 : decode cX8_tree 11 = .ok (.aload_n 0, 1) := by decide +kernel
theorem dX8_tree_12 : decode cX8_tree 12 = .ok (.getfield 33, 3) := by decide +kernel
theorem dX8_tree_15 : decode cX8_tree 15 = .ok (.iload_n 1, 1) := by decide +kernel
theorem dX8_tree_16 : decode cX8_tree 16 = .ok (.iaload, 1) := by decide +kernel
theorem dX8_tree_17 : decode cX8_tree 17 = .ok (.istore_n 3, 1) := by decide +kernel
theorem dX8_tree_18 : decode cX8_tree 18 = .ok (.iconst 1, 1) := by decide +kernel
theorem dX8_tree_19 : decode cX8_tree 19 = .ok (.istore 4, 2) := by decide +kernel
theorem dX8_tree_21 : decode cX8_tree 21 = .ok (.iconst 0, 1) := by decide +kernel
theorem dX8_tree_22 : decode cX8_tree 22 = .ok (.istore 5, 2) := by decide +kernel
theorem dX8_tree_24 : decode cX8_tree 24 = .ok (.iconst 0, 1) := by decide +kernel
theorem dX8_tree_25 : decode cX8_tree 25 = .ok (.istore 6, 2) := by decide +kernel
theorem dX8_tree_27 : decode cX8_tree 27 = .ok (.iload 6, 2) := by decide +kernel
theorem dX8_tree_29 : decode cX8_tree 29 = .ok (.iconst 3, 1) := by decide +kernel
theorem dX8_tree_30 : decode cX8_tree 30 = .ok (.if_icmp .ge 69, 3) := by decide +kernel
theorem dX8_tree_33 : decode cX8_tree 33 = .ok (.iload_n 3, 1) := by decide +kernel
theorem dX8_tree_34 : decode cX8_tree 34 = .ok (.iconst 1, 1) := by decide +kernel
theorem dX8_tree_35 : decode cX8_tree 35 = .ok (.if_icmp .le 64, 3) := by decide +kernel
theorem dX8_tree_38 : decode cX8_tree 38 = .ok (.iconst 0, 1) := by decide +kernel
theorem dX8_tree_39 : decode cX8_tree 39 = .ok (.istore 7, 2) := by decide +kernel
theorem dX8_tree_41 : decode cX8_tree 41 = .ok (.iload 7, 2) := by decide +kernel
theorem dX8_tree_43 : decode cX8_tree 43 = .ok (.iconst 1, 1) := by decide +kernel
theorem dX8_tree_44 : decode cX8_tree 44 = .ok (.iadd, 1) := by decide +kernel
theorem dX8_tree_45 : decode cX8_tree 45 = .ok (.iload_n 3, 1) := by decide +kernel
theorem dX8_tree_46 : decode cX8_tree 46 = .ok (.if_icmp .ge 35, 3) := by decide +kernel
theorem dX8_tree_49 : decode cX8_tree 49 = .ok (.iload 5, 2) := by decide +kernel
theorem dX8_tree_51 : decode cX8_tree 51 = .ok (.iload_n 2, 1) := by decide +kernel
theorem dX8_tree_52 : decode cX8_tree 52 = .ok (.if_icmp .ne 20, 3) := by decide +kernel
theorem dX8_tree_55 : decode cX8_tree 55 = .ok (.bipush 8, 2) := by decide +kernel
theorem dX8_tree_57 : decode cX8_tree 57 = .ok (.iload 7, 2) := by decide +kernel
theorem dX8_tree_59 : decode cX8_tree 59 = .ok (.iload 4, 2) := by decide +kernel
theorem dX8_tree_61 : decode cX8_tree 61 = .ok (.imul, 1) := by decide +kernel
theorem dX8_tree_62 : decode cX8_tree 62 = .ok (.imul, 1) := by decide +kernel
theorem dX8_tree_63 : decode cX8_tree 63 = .ok (.iload 7, 2) := by decide +kernel
theorem dX8_tree_65 : decode cX8_tree 65 = .ok (.iconst 1, 1) := by decide +kernel
theorem dX8_tree_66 : decode cX8_tree 66 = .ok (.iadd, 1) := by decide +kernel
theorem dX8_tree_67 : decode cX8_tree 67 = .ok (.iload 4, 2) := by decide +kernel
theorem dX8_tree_69 : decode cX8_tree 69 = .ok (.imul, 1) := by decide +kernel
theorem dX8_tree_70 : decode cX8_tree 70 = .ok (.iadd, 1) := by decide +kernel
theorem dX8_tree_71 : decode cX8_tree 71 = .ok (.ireturn, 1) := by decide +kernel
theorem dX8_tree_72 : decode cX8_tree 72 = .ok (.iinc 5 1, 3) := by decide +kernel
theorem dX8_tree_75 : decode cX8_tree 75 = .ok (.iinc 7 2, 3) := by decide +kernel
theorem dX8_tree_78 : decode cX8_tree 78 = .ok (.goto (-37), 3) := by decide +kernel
theorem dX8_tree_81 : decode cX8_tree 81 = .ok (.iload_n 3, 1) := by decide +kernel
theorem dX8_tree_82 : decode cX8_tree 82 = .ok (.iconst 1, 1) := by decide +kernel
theorem dX8_tree_83 : decode cX8_tree 83 = .ok (.iadd, 1) := by decide +kernel
theorem dX8_tree_84 : decode cX8_tree 84 = .ok (.iconst 2, 1) := by decide +kernel
theorem dX8_tree_85 : decode cX8_tree 85 = .ok (.idiv, 1) := by decide +kernel
theorem dX8_tree_86 : decode cX8_tree 86 = .ok (.istore_n 3, 1) := by decide +kernel
theorem dX8_tree_87 : decode cX8_tree 87 = .ok (.iconst 2, 1) := by decide +kernel
theorem dX8_tree_88 : decode cX8_tree 88 = .ok (.iload 4, 2) := by decide +kernel
theorem dX8_tree_90 : decode cX8_tree 90 = .ok (.imul, 1) := by decide +kernel
theorem dX8_tree_91 : decode cX8_tree 91 = .ok (.istore 4, 2) := by decide +kernel
theorem dX8_tree_93 : decode cX8_tree 93 = .ok (.iinc 6 1, 3) := by decide +kernel
theorem dX8_tree_96 : decode cX8_tree 96 = .ok (.goto (-69), 3) := by decide +kernel
theorem dX8_tree_99 : decode cX8_tree 99 = .ok (.iconst (-1), 1) := by decide +kernel
theorem dX8_tree_100 : decode cX8_tree 100 = .ok (.ireturn, 1) := by decide +kernel
theorem dX8_counter_0 : decode cX8_counter 0 = .ok (.iload_n 1, 1) := by decide +kernel
theorem dX8_counter_1 : decode cX8_counter 1 = .ok (.i2l, 1) := by decide +kernel
theorem dX8_counter_2 : decode cX8_counter 2 = .ok (.lconst 0, 1) := by decide +kernel
theorem dX8_counter_3 : decode cX8_counter 3 = .ok (.aload_n 0, 1) := by decide +kernel
theorem dX8_counter_4 : decode cX8_counter 4 = .ok (.getfield 127, 3) := by decide +kernel
theorem dX8_counter_7 : decode cX8_counter 7 = .ok (.iconst 1, 1) := by decide +kernel
theorem dX8_counter_8 : decode cX8_counter 8 = .ok (.isub, 1) := by decide +kernel
theorem dX8_counter_9 : decode cX8_counter 9 = .ok (.i2l, 1) := by decide +kernel
theorem dX8_counter_10 : decode cX8_counter 10 = .ok (.invokestatic 197, 3) := by decide +kernel
theorem dX8_counter_13 : decode cX8_counter 13 = .ok (.ifCond .eq 15, 3) := by decide +kernel
theorem dX8_counter_16 : decode cX8_counter 16 = .ok (.iload_n 2, 1) := by decide +kernel
theorem dX8_counter_17 : decode cX8_counter 17 = .ok (.i2l, 1) := by decide +kernel
theorem dX8_counter_18 : decode cX8_counter 18 = .ok (.lconst 0, 1) := by decide +kernel
theorem dX8_counter_19 : decode cX8_counter 19 = .ok (.ldc2_w 205, 3) := by decide +kernel
theorem dX8_counter_22 : decode cX8_counter 22 = .ok (.invokestatic 197, 3) := by decide +kernel
theorem dX8_counter_25 : decode cX8_counter 25 = .ok (.ifCond .ne 6, 3) := by decide +kernel
theorem dX8_counter_28 : decode cX8_counter 28 = .ok (.bipush (-102), 2) := by decide +kernel
theorem dX8_counter_30 : decode cX8_counter 30 = .ok (.ireturn, 1) := by decide +kernel
theorem dX8_counter_31 : decode cX8_counter 31 = .ok (.iload_n 2, 1) := by decide +kernel
theorem dX8_counter_32 : decode cX8_counter 32 = .ok (.ifCond .ne 12, 3) := by decide +kernel
theorem dX8_counter_35 : decode cX8_counter 35 = .ok (.aload_n 0, 1) := by decide +kernel
theorem dX8_counter_36 : decode cX8_counter 36 = .ok (.getfield 39, 3) := by decide +kernel
theorem dX8_counter_39 : decode cX8_counter 39 = .ok (.iload_n 1, 1) := by decide +kernel
theorem dX8_counter_40 : decode cX8_counter 40 = .ok (.iaload, 1) := by decide +kernel
theorem dX8_counter_41 : decode cX8_counter 41 = .ok (.goto 23, 3) := by decide +kernel
theorem dX8_counter_44 : decode cX8_counter 44 = .ok (.iload_n 2, 1) := by decide +kernel
theorem dX8_counter_45 : decode cX8_counter 45 = .ok (.iconst 1, 1) := by decide +kernel
theorem dX8_counter_46 : decode cX8_counter 46 = .ok (.if_icmp .ne 12, 3) := by decide +kernel
theorem dX8_counter_49 : decode cX8_counter 49 = .ok (.aload_n 0, 1) := by decide +kernel
theorem dX8_counter_50 : decode cX8_counter 50 = .ok (.getfield 42, 3) := by decide +kernel
theorem dX8_counter_53 : decode cX8_counter 53 = .ok (.iload_n 1, 1) := by decide +kernel
theorem dX8_counter_54 : decode cX8_counter 54 = .ok (.iaload, 1) := by decide +kernel
theorem dX8_counter_55 : decode cX8_counter 55 = .ok (.goto 9, 3) := by decide +kernel
theorem dX8_counter_58 : decode cX8_counter 58 = .ok (.aload_n 0, 1) := by decide +kernel
theorem dX8_counter_59 : decode cX8_counter 59 = .ok (.getfield 45, 3) := by decide +kernel
theorem dX8_counter_62 : decode cX8_counter 62 = .ok (.iload_n 1, 1) := by decide +kernel
theorem dX8_counter_63 : decode cX8_counter 63 = .ok (.iaload, 1) := by decide +kernel
theorem dX8_counter_64 : decode cX8_counter 64 = .ok (.ireturn, 1) := by decide +kernel
theorem dX8_hot_0 : decode cX8_hot 0 = .ok (.aload_n 0, 1) := by decide +kernel
theorem dX8_hot_1 : decode cX8_hot 1 = .ok (.iload_n 1, 1) := by decide +kernel
theorem dX8_hot_2 : decode cX8_hot 2 = .ok (.invokevirtual 220, 3) := by decide +kernel
theorem dX8_hot_5 : decode cX8_hot 5 = .ok (.ifCond .eq 6, 3) := by decide +kernel
theorem dX8_hot_8 : decode cX8_hot 8 = .ok (.bipush (-101), 2) := by decide +kernel
theorem dX8_hot_10 : decode cX8_hot 10 = .ok (.ireturn, 1) := by decide +kernel
theorem dX8_hot_11 : decode cX8_hot 11 = .ok (.aload_n 0, 1) := by decide +kernel
theorem dX8_hot_12 : decode cX8_hot 12 = .ok (.iload_n 1, 1) := by decide +kernel
theorem dX8_hot_13 : decode cX8_hot 13 = .ok (.invokevirtual 245, 3) := by decide +kernel
theorem dX8_hot_16 : decode cX8_hot 16 = .ok (.istore_n 2, 1) := by decide +kernel
theorem dX8_hot_17 : decode cX8_hot 17 = .ok (.iload_n 2, 1) := by decide +kernel
theorem dX8_hot_18 : decode cX8_hot 18 = .ok (.ifCond .lt 46, 3) := by decide +kernel
theorem dX8_hot_21 : decode cX8_hot 21 = .ok (.aload_n 0, 1) := by decide +kernel
theorem dX8_hot_22 : decode cX8_hot 22 = .ok (.getfield 42, 3) := by decide +kernel
theorem dX8_hot_25 : decode cX8_hot 25 = .ok (.iload_n 2, 1) := by decide +kernel
theorem dX8_hot_26 : decode cX8_hot 26 = .ok (.iaload, 1) := by decide +kernel
theorem dX8_hot_27 : decode cX8_hot 27 = .ok (.aload_n 0, 1) := by decide +kernel
theorem dX8_hot_28 : decode cX8_hot 28 = .ok (.getfield 45, 3) := by decide +kernel
theorem dX8_hot_31 : decode cX8_hot 31 = .ok (.iload_n 2, 1) := by decide +kernel
theorem dX8_hot_32 : decode cX8_hot 32 = .ok (.iaload, 1) := by decide +kernel
theorem dX8_hot_33 : decode cX8_hot 33 = .ok (.isub, 1) := by decide +kernel
theorem dX8_hot_34 : decode cX8_hot 34 = .ok (.aload_n 0, 1) := by decide +kernel
theorem dX8_hot_35 : decode cX8_hot 35 = .ok (.getfield 121, 3) := by decide +kernel
theorem dX8_hot_38 : decode cX8_hot 38 = .ok (.if_icmp .lt 7, 3) := by decide +kernel
theorem dX8_hot_41 : decode cX8_hot 41 = .ok (.iconst 2, 1) := by decide +kernel
theorem dX8_hot_42 : decode cX8_hot 42 = .ok (.goto 21, 3) := by decide +kernel
theorem dX8_hot_45 : decode cX8_hot 45 = .ok (.aload_n 0, 1) := by decide +kernel
theorem dX8_hot_46 : decode cX8_hot 46 = .ok (.getfield 42, 3) := by decide +kernel
theorem dX8_hot_49 : decode cX8_hot 49 = .ok (.iload_n 2, 1) := by decide +kernel
theorem dX8_hot_50 : decode cX8_hot 50 = .ok (.iaload, 1) := by decide +kernel
theorem dX8_hot_51 : decode cX8_hot 51 = .ok (.aload_n 0, 1) := by decide +kernel
theorem dX8_hot_52 : decode cX8_hot 52 = .ok (.getfield 121, 3) := by decide +kernel
theorem dX8_hot_55 : decode cX8_hot 55 = .ok (.if_icmp .lt 7, 3) := by decide +kernel
theorem dX8_hot_58 : decode cX8_hot 58 = .ok (.iconst 1, 1) := by decide +kernel
theorem dX8_hot_59 : decode cX8_hot 59 = .ok (.goto 4, 3) := by decide +kernel
theorem dX8_hot_62 : decode cX8_hot 62 = .ok (.iconst 0, 1) := by decide +kernel
theorem dX8_hot_63 : decode cX8_hot 63 = .ok (.ireturn, 1) := by decide +kernel
theorem dX8_hot_64 : decode cX8_hot 64 = .ok (.aload_n 0, 1) := by decide +kernel
theorem dX8_hot_65 : decode cX8_hot 65 = .ok (.invokevirtual 248, 3) := by decide +kernel
theorem dX8_hot_68 : decode cX8_hot 68 = .ok (.istore_n 3, 1) := by decide +kernel
theorem dX8_hot_69 : decode cX8_hot 69 = .ok (.aload_n 0, 1) := by decide +kernel
theorem dX8_hot_70 : decode cX8_hot 70 = .ok (.getfield 39, 3) := by decide +kernel
theorem dX8_hot_73 : decode cX8_hot 73 = .ok (.iload_n 3, 1) := by decide +kernel
theorem dX8_hot_74 : decode cX8_hot 74 = .ok (.iaload, 1) := by decide +kernel
theorem dX8_hot_75 : decode cX8_hot 75 = .ok (.iconst (-1), 1) := by decide +kernel
theorem dX8_hot_76 : decode cX8_hot 76 = .ok (.if_icmp .eq 20, 3) := by decide +kernel
theorem dX8_hot_79 : decode cX8_hot 79 = .ok (.aload_n 0, 1) := by decide +kernel
theorem dX8_hot_80 : decode cX8_hot 80 = .ok (.getfield 42, 3) := by decide +kernel
theorem dX8_hot_83 : decode cX8_hot 83 = .ok (.iload_n 3, 1) := by decide +kernel
theorem dX8_hot_84 : decode cX8_hot 84 = .ok (.iaload, 1) := by decide +kernel
theorem dX8_hot_85 : decode cX8_hot 85 = .ok (.aload_n 0, 1) := by decide +kernel
theorem dX8_hot_86 : decode cX8_hot 86 = .ok (.getfield 121, 3) := by decide +kernel
theorem dX8_hot_89 : decode cX8_hot 89 = .ok (.if_icmp .lt 7, 3) := by decide +kernel
theorem dX8_hot_92 : decode cX8_hot 92 = .ok (.iconst 1, 1) := by decide +kernel
theorem dX8_hot_93 : decode cX8_hot 93 = .ok (.goto 4, 3) := by decide +kernel
theorem dX8_hot_96 : decode cX8_hot 96 = .ok (.iconst 0, 1) := by decide +kernel
theorem dX8_hot_97 : decode cX8_hot 97 = .ok (.ireturn, 1) := by decide +kernel
theorem dX8_splitKey_0 : decode cX8_splitKey 0 = .ok (.iconst 0, 1) := by decide +kernel
theorem dX8_splitKey_1 : decode cX8_splitKey 1 = .ok (.istore_n 2, 1) := by decide +kernel
theorem dX8_splitKey_2 : decode cX8_splitKey 2 = .ok (.iconst 0, 1) := by decide +kernel
theorem dX8_splitKey_3 : decode cX8_splitKey 3 = .ok (.istore_n 3, 1) := by decide +kernel
theorem dX8_splitKey_4 : decode cX8_splitKey 4 = .ok (.iload_n 3, 1) := by decide +kernel
theorem dX8_splitKey_5 : decode cX8_splitKey 5 = .ok (.bipush 100, 2) := by decide +kernel
theorem dX8_splitKey_7 : decode cX8_splitKey 7 = .ok (.if_icmp .ge 29, 3) := by decide +kernel
theorem dX8_splitKey_10 : decode cX8_splitKey 10 = .ok (.aload_n 0, 1) := by decide +kernel
theorem dX8_splitKey_11 : decode cX8_splitKey 11 = .ok (.getfield 33, 3) := by decide +kernel
theorem dX8_splitKey_14 : decode cX8_splitKey 14 = .ok (.iload_n 3, 1) := by decide +kernel
theorem dX8_splitKey_15 : decode cX8_splitKey 15 = .ok (.iaload, 1) := by decide +kernel
theorem dX8_splitKey_16 : decode cX8_splitKey 16 = .ok (.iconst 1, 1) := by decide +kernel
theorem dX8_splitKey_17 : decode cX8_splitKey 17 = .ok (.if_icmp .le 13, 3) := by decide +kernel
theorem dX8_splitKey_20 : decode cX8_splitKey 20 = .ok (.iload_n 2, 1) := by decide +kernel
theorem dX8_splitKey_21 : decode cX8_splitKey 21 = .ok (.iload_n 1, 1) := by decide +kernel
theorem dX8_splitKey_22 : decode cX8_splitKey 22 = .ok (.if_icmp .ne 5, 3) := by decide +kernel
theorem dX8_splitKey_25 : decode cX8_splitKey 25 = .ok (.iload_n 3, 1) := by decide +kernel
theorem dX8_splitKey_26 : decode cX8_splitKey 26 = .ok (.ireturn, 1) := by decide +kernel
theorem dX8_splitKey_27 : decode cX8_splitKey 27 = .ok (.iinc 2 1, 3) := by decide +kernel
theorem dX8_splitKey_30 : decode cX8_splitKey 30 = .ok (.iinc 3 1, 3) := by decide +kernel
theorem dX8_splitKey_33 : decode cX8_splitKey 33 = .ok (.goto (-29), 3) := by decide +kernel
theorem dX8_splitKey_36 : decode cX8_splitKey 36 = .ok (.iconst (-1), 1) := by decide +kernel
theorem dX8_splitKey_37 : decode cX8_splitKey 37 = .ok (.ireturn, 1) := by decide +kernel
theorem dX8_load_0 : decode cX8_load 0 = .ok (.iload_n 1, 1) := by decide +kernel
theorem dX8_load_1 : decode cX8_load 1 = .ok (.i2l, 1) := by decide +kernel
theorem dX8_load_2 : decode cX8_load 2 = .ok (.lconst 0, 1) := by decide +kernel
theorem dX8_load_3 : decode cX8_load 3 = .ok (.aload_n 0, 1) := by decide +kernel
theorem dX8_load_4 : decode cX8_load 4 = .ok (.getfield 114, 3) := by decide +kernel
theorem dX8_load_7 : decode cX8_load 7 = .ok (.iconst 1, 1) := by decide +kernel
theorem dX8_load_8 : decode cX8_load 8 = .ok (.isub, 1) := by decide +kernel
theorem dX8_load_9 : decode cX8_load 9 = .ok (.i2l, 1) := by decide +kernel
theorem dX8_load_10 : decode cX8_load 10 = .ok (.invokestatic 197, 3) := by decide +kernel
theorem dX8_load_13 : decode cX8_load 13 = .ok (.ifCond .eq 12, 3) := by decide +kernel
theorem dX8_load_16 : decode cX8_load 16 = .ok (.aload_n 0, 1) := by decide +kernel
theorem dX8_load_17 : decode cX8_load 17 = .ok (.getfield 36, 3) := by decide +kernel
theorem dX8_load_20 : decode cX8_load 20 = .ok (.iload_n 1, 1) := by decide +kernel
theorem dX8_load_21 : decode cX8_load 21 = .ok (.iaload, 1) := by decide +kernel
theorem dX8_load_22 : decode cX8_load 22 = .ok (.goto 5, 3) := by decide +kernel
theorem dX8_load_25 : decode cX8_load 25 = .ok (.bipush (-101), 2) := by decide +kernel
theorem dX8_load_27 : decode cX8_load 27 = .ok (.ireturn, 1) := by decide +kernel
theorem dX8_small_0 : decode cX8_small 0 = .ok (.aload_n 0, 1) := by decide +kernel
theorem dX8_small_1 : decode cX8_small 1 = .ok (.iload_n 1, 1) := by decide +kernel
theorem dX8_small_2 : decode cX8_small 2 = .ok (.invokevirtual 220, 3) := by decide +kernel
theorem dX8_small_5 : decode cX8_small 5 = .ok (.ifCond .eq 6, 3) := by decide +kernel
theorem dX8_small_8 : decode cX8_small 8 = .ok (.bipush (-101), 2) := by decide +kernel
theorem dX8_small_10 : decode cX8_small 10 = .ok (.ireturn, 1) := by decide +kernel
theorem dX8_small_11 : decode cX8_small 11 = .ok (.iload_n 2, 1) := by decide +kernel
theorem dX8_small_12 : decode cX8_small 12 = .ok (.i2l, 1) := by decide +kernel
theorem dX8_small_13 : decode cX8_small 13 = .ok (.ldc2_w 224, 3) := by decide +kernel
theorem dX8_small_16 : decode cX8_small 16 = .ok (.ldc2_w 226, 3) := by decide +kernel
theorem dX8_small_19 : decode cX8_small 19 = .ok (.invokestatic 197, 3) := by decide +kernel
theorem dX8_small_22 : decode cX8_small 22 = .ok (.ifCond .ne 6, 3) := by decide +kernel
theorem dX8_small_25 : decode cX8_small 25 = .ok (.bipush (-102), 2) := by decide +kernel
theorem dX8_small_27 : decode cX8_small 27 = .ok (.ireturn, 1) := by decide +kernel
theorem dX8_small_28 : decode cX8_small 28 = .ok (.aload_n 0, 1) := by decide +kernel
theorem dX8_small_29 : decode cX8_small 29 = .ok (.getfield 158, 3) := by decide +kernel
theorem dX8_small_32 : decode cX8_small 32 = .ok (.bipush 60, 2) := by decide +kernel
theorem dX8_small_34 : decode cX8_small 34 = .ok (.if_icmp .ne 6, 3) := by decide +kernel
theorem dX8_small_37 : decode cX8_small 37 = .ok (.bipush (-104), 2) := by decide +kernel
theorem dX8_small_39 : decode cX8_small 39 = .ok (.ireturn, 1) := by decide +kernel
theorem dX8_small_40 : decode cX8_small 40 = .ok (.aload_n 0, 1) := by decide +kernel
theorem dX8_small_41 : decode cX8_small 41 = .ok (.getfield 48, 3) := by decide +kernel
theorem dX8_small_44 : decode cX8_small 44 = .ok (.aload_n 0, 1) := by decide +kernel
theorem dX8_small_45 : decode cX8_small 45 = .ok (.getfield 158, 3) := by decide +kernel
theorem dX8_small_48 : decode cX8_small 48 = .ok (.iload_n 1, 1) := by decide +kernel
theorem dX8_small_49 : decode cX8_small 49 = .ok (.iastore, 1) := by decide +kernel
theorem dX8_small_50 : decode cX8_small 50 = .ok (.aload_n 0, 1) := by decide +kernel
theorem dX8_small_51 : decode cX8_small 51 = .ok (.getfield 51, 3) := by decide +kernel
theorem dX8_small_54 : decode cX8_small 54 = .ok (.aload_n 0, 1) := by decide +kernel
theorem dX8_small_55 : decode cX8_small 55 = .ok (.getfield 158, 3) := by decide +kernel
theorem dX8_small_58 : decode cX8_small 58 = .ok (.iload_n 2, 1) := by decide +kernel
theorem dX8_small_59 : decode cX8_small 59 = .ok (.iastore, 1) := by decide +kernel
theorem dX8_small_60 : decode cX8_small 60 = .ok (.aload_n 0, 1) := by decide +kernel
theorem dX8_small_61 : decode cX8_small 61 = .ok (.dup, 1) := by decide +kernel
theorem dX8_small_62 : decode cX8_small 62 = .ok (.getfield 158, 3) := by decide +kernel
theorem dX8_small_65 : decode cX8_small 65 = .ok (.iconst 1, 1) := by decide +kernel
theorem dX8_small_66 : decode cX8_small 66 = .ok (.iadd, 1) := by decide +kernel
theorem dX8_small_67 : decode cX8_small 67 = .ok (.putfield 158, 3) := by decide +kernel
theorem dX8_small_70 : decode cX8_small 70 = .ok (.aload_n 0, 1) := by decide +kernel
theorem dX8_small_71 : decode cX8_small 71 = .ok (.getfield 158, 3) := by decide +kernel
theorem dX8_small_74 : decode cX8_small 74 = .ok (.ireturn, 1) := by decide +kernel
theorem dX8_copies_0 : decode cX8_copies 0 = .ok (.iload_n 1, 1) := by decide +kernel
theorem dX8_copies_1 : decode cX8_copies 1 = .ok (.i2l, 1) := by decide +kernel
theorem dX8_copies_2 : decode cX8_copies 2 = .ok (.lconst 0, 1) := by decide +kernel
theorem dX8_copies_3 : decode cX8_copies 3 = .ok (.aload_n 0, 1) := by decide +kernel
theorem dX8_copies_4 : decode cX8_copies 4 = .ok (.getfield 114, 3) := by decide +kernel
theorem dX8_copies_7 : decode cX8_copies 7 = .ok (.iconst 1, 1) := by decide +kernel
theorem dX8_copies_8 : decode cX8_copies 8 = .ok (.isub, 1) := by decide +kernel
theorem dX8_copies_9 : decode cX8_copies 9 = .ok (.i2l, 1) := by decide +kernel
theorem dX8_copies_10 : decode cX8_copies 10 = .ok (.invokestatic 197, 3) := by decide +kernel
theorem dX8_copies_13 : decode cX8_copies 13 = .ok (.ifCond .ne 6, 3) := by decide +kernel
theorem dX8_copies_16 : decode cX8_copies 16 = .ok (.bipush (-101), 2) := by decide +kernel
theorem dX8_copies_18 : decode cX8_copies 18 = .ok (.ireturn, 1) := by decide +kernel
theorem dX8_copies_19 : decode cX8_copies 19 = .ok (.iconst 0, 1) := by decide +kernel
theorem dX8_copies_20 : decode cX8_copies 20 = .ok (.istore_n 2, 1) := by decide +kernel
theorem dX8_copies_21 : decode cX8_copies 21 = .ok (.iconst 0, 1) := by decide +kernel
theorem dX8_copies_22 : decode cX8_copies 22 = .ok (.istore_n 3, 1) := by decide +kernel
theorem dX8_copies_23 : decode cX8_copies 23 = .ok (.iload_n 3, 1) := by decide +kernel
theorem dX8_copies_24 : decode cX8_copies 24 = .ok (.aload_n 0, 1) := by decide +kernel
theorem dX8_copies_25 : decode cX8_copies 25 = .ok (.getfield 158, 3) := by decide +kernel
theorem dX8_copies_28 : decode cX8_copies 28 = .ok (.if_icmp .ge 58, 3) := by decide +kernel
theorem dX8_copies_31 : decode cX8_copies 31 = .ok (.iconst 0, 1) := by decide +kernel
theorem dX8_copies_32 : decode cX8_copies 32 = .ok (.istore 4, 2) := by decide +kernel
theorem dX8_copies_34 : decode cX8_copies 34 = .ok (.iload 4, 2) := by decide +kernel
theorem dX8_copies_36 : decode cX8_copies 36 = .ok (.aload_n 0, 1) := by decide +kernel
theorem dX8_copies_37 : decode cX8_copies 37 = .ok (.getfield 33, 3) := by decide +kernel
theorem dX8_copies_40 : decode cX8_copies 40 = .ok (.aload_n 0, 1) := by decide +kernel
theorem dX8_copies_41 : decode cX8_copies 41 = .ok (.getfield 48, 3) := by decide +kernel
theorem dX8_copies_44 : decode cX8_copies 44 = .ok (.iload_n 3, 1) := by decide +kernel
theorem dX8_copies_45 : decode cX8_copies 45 = .ok (.iaload, 1) := by decide +kernel
theorem dX8_copies_46 : decode cX8_copies 46 = .ok (.iaload, 1) := by decide +kernel
theorem dX8_copies_47 : decode cX8_copies 47 = .ok (.if_icmp .ge 33, 3) := by decide +kernel
theorem dX8_copies_50 : decode cX8_copies 50 = .ok (.iload_n 2, 1) := by decide +kernel
theorem dX8_copies_51 : decode cX8_copies 51 = .ok (.aload_n 0, 1) := by decide +kernel
theorem dX8_copies_52 : decode cX8_copies 52 = .ok (.aload_n 0, 1) := by decide +kernel
theorem dX8_copies_53 : decode cX8_copies 53 = .ok (.getfield 48, 3) := by decide +kernel
theorem dX8_copies_56 : decode cX8_copies 56 = .ok (.iload_n 3, 1) := by decide +kernel
theorem dX8_copies_57 : decode cX8_copies 57 = .ok (.iaload, 1) := by decide +kernel
theorem dX8_copies_58 : decode cX8_copies 58 = .ok (.iload 4, 2) := by decide +kernel
theorem dX8_copies_60 : decode cX8_copies 60 = .ok (.invokevirtual 235, 3) := by decide +kernel
theorem dX8_copies_63 : decode cX8_copies 63 = .ok (.iload_n 1, 1) := by decide +kernel
theorem dX8_copies_64 : decode cX8_copies 64 = .ok (.if_icmp .ne 7, 3) := by decide +kernel
theorem dX8_copies_67 : decode cX8_copies 67 = .ok (.iconst 1, 1) := by decide +kernel
theorem dX8_copies_68 : decode cX8_copies 68 = .ok (.goto 4, 3) := by decide +kernel
theorem dX8_copies_71 : decode cX8_copies 71 = .ok (.iconst 0, 1) := by decide +kernel
theorem dX8_copies_72 : decode cX8_copies 72 = .ok (.iadd, 1) := by decide +kernel
theorem dX8_copies_73 : decode cX8_copies 73 = .ok (.istore_n 2, 1) := by decide +kernel
theorem dX8_copies_74 : decode cX8_copies 74 = .ok (.iinc 4 1, 3) := by decide +kernel
theorem dX8_copies_77 : decode cX8_copies 77 = .ok (.goto (-43), 3) := by decide +kernel
theorem dX8_copies_80 : decode cX8_copies 80 = .ok (.iinc 3 1, 3) := by decide +kernel
theorem dX8_copies_83 : decode cX8_copies 83 = .ok (.goto (-60), 3) := by decide +kernel
theorem dX8_copies_86 : decode cX8_copies 86 = .ok (.iload_n 2, 1) := by decide +kernel
theorem dX8_copies_87 : decode cX8_copies 87 = .ok (.ireturn, 1) := by decide +kernel
theorem dX8_out_0 : decode cX8_out 0 = .ok (.aload_n 0, 1) := by decide +kernel
theorem dX8_out_1 : decode cX8_out 1 = .ok (.getfield 154, 3) := by decide +kernel
theorem dX8_out_4 : decode cX8_out 4 = .ok (.lreturn, 1) := by decide +kernel
theorem dX8_timer_0 : decode cX8_timer 0 = .ok (.aload_n 0, 1) := by decide +kernel
theorem dX8_timer_1 : decode cX8_timer 1 = .ok (.iload_n 1, 1) := by decide +kernel
theorem dX8_timer_2 : decode cX8_timer 2 = .ok (.invokevirtual 220, 3) := by decide +kernel
theorem dX8_timer_5 : decode cX8_timer 5 = .ok (.ifCond .eq 6, 3) := by decide +kernel
theorem dX8_timer_8 : decode cX8_timer 8 = .ok (.bipush (-101), 2) := by decide +kernel
theorem dX8_timer_10 : decode cX8_timer 10 = .ok (.ireturn, 1) := by decide +kernel
theorem dX8_timer_11 : decode cX8_timer 11 = .ok (.iload_n 2, 1) := by decide +kernel
theorem dX8_timer_12 : decode cX8_timer 12 = .ok (.aload_n 0, 1) := by decide +kernel
theorem dX8_timer_13 : decode cX8_timer 13 = .ok (.getfield 151, 3) := by decide +kernel
theorem dX8_timer_16 : decode cX8_timer 16 = .ok (.if_icmp .le 10, 3) := by decide +kernel
theorem dX8_timer_19 : decode cX8_timer 19 = .ok (.iload_n 2, 1) := by decide +kernel
theorem dX8_timer_20 : decode cX8_timer 20 = .ok (.ldc_w 272, 3) := by decide +kernel
theorem dX8_timer_23 : decode cX8_timer 23 = .ok (.if_icmp .le 6, 3) := by decide +kernel
theorem dX8_timer_26 : decode cX8_timer 26 = .ok (.bipush (-102), 2) := by decide +kernel
theorem dX8_timer_28 : decode cX8_timer 28 = .ok (.ireturn, 1) := by decide +kernel
theorem dX8_timer_29 : decode cX8_timer 29 = .ok (.aload_n 0, 1) := by decide +kernel
theorem dX8_timer_30 : decode cX8_timer 30 = .ok (.getfield 161, 3) := by decide +kernel
theorem dX8_timer_33 : decode cX8_timer 33 = .ok (.bipush 40, 2) := by decide +kernel
theorem dX8_timer_35 : decode cX8_timer 35 = .ok (.if_icmp .ne 6, 3) := by decide +kernel
theorem dX8_timer_38 : decode cX8_timer 38 = .ok (.bipush (-104), 2) := by decide +kernel
theorem dX8_timer_40 : decode cX8_timer 40 = .ok (.ireturn, 1) := by decide +kernel
theorem dX8_timer_41 : decode cX8_timer 41 = .ok (.aload_n 0, 1) := by decide +kernel
theorem dX8_timer_42 : decode cX8_timer 42 = .ok (.getfield 54, 3) := by decide +kernel
theorem dX8_timer_45 : decode cX8_timer 45 = .ok (.aload_n 0, 1) := by decide +kernel
theorem dX8_timer_46 : decode cX8_timer 46 = .ok (.getfield 161, 3) := by decide +kernel
theorem dX8_timer_49 : decode cX8_timer 49 = .ok (.iload_n 1, 1) := by decide +kernel
theorem dX8_timer_50 : decode cX8_timer 50 = .ok (.iastore, 1) := by decide +kernel
theorem dX8_timer_51 : decode cX8_timer 51 = .ok (.aload_n 0, 1) := by decide +kernel
theorem dX8_timer_52 : decode cX8_timer 52 = .ok (.getfield 57, 3) := by decide +kernel
theorem dX8_timer_55 : decode cX8_timer 55 = .ok (.aload_n 0, 1) := by decide +kernel
theorem dX8_timer_56 : decode cX8_timer 56 = .ok (.getfield 161, 3) := by decide +kernel
theorem dX8_timer_59 : decode cX8_timer 59 = .ok (.iload_n 2, 1) := by decide +kernel
theorem dX8_timer_60 : decode cX8_timer 60 = .ok (.iastore, 1) := by decide +kernel
theorem dX8_timer_61 : decode cX8_timer 61 = .ok (.aload_n 0, 1) := by decide +kernel
theorem dX8_timer_62 : decode cX8_timer 62 = .ok (.dup, 1) := by decide +kernel
theorem dX8_timer_63 : decode cX8_timer 63 = .ok (.getfield 161, 3) := by decide +kernel
theorem dX8_timer_66 : decode cX8_timer 66 = .ok (.iconst 1, 1) := by decide +kernel
theorem dX8_timer_67 : decode cX8_timer 67 = .ok (.iadd, 1) := by decide +kernel
theorem dX8_timer_68 : decode cX8_timer 68 = .ok (.putfield 161, 3) := by decide +kernel
theorem dX8_timer_71 : decode cX8_timer 71 = .ok (.aload_n 0, 1) := by decide +kernel
theorem dX8_timer_72 : decode cX8_timer 72 = .ok (.getfield 161, 3) := by decide +kernel
theorem dX8_timer_75 : decode cX8_timer 75 = .ok (.ireturn, 1) := by decide +kernel
theorem dX8_due_0 : decode cX8_due 0 = .ok (.iconst (-1), 1) := by decide +kernel
theorem dX8_due_1 : decode cX8_due 1 = .ok (.istore_n 2, 1) := by decide +kernel
theorem dX8_due_2 : decode cX8_due 2 = .ok (.iconst 0, 1) := by decide +kernel
theorem dX8_due_3 : decode cX8_due 3 = .ok (.istore_n 3, 1) := by decide +kernel
theorem dX8_due_4 : decode cX8_due 4 = .ok (.iload_n 3, 1) := by decide +kernel
theorem dX8_due_5 : decode cX8_due 5 = .ok (.aload_n 0, 1) := by decide +kernel
theorem dX8_due_6 : decode cX8_due 6 = .ok (.getfield 161, 3) := by decide +kernel
end
section
theorem dX8_due_9 : decode cX8_due 9 = .ok (.if_icmp .ge 64, 3) := by decide +kernel
theorem dX8_due_12 : decode cX8_due 12 = .ok (.aload_n 0, 1) := by decide +kernel
theorem dX8_due_13 : decode cX8_due 13 = .ok (.getfield 57, 3) := by decide +kernel
theorem dX8_due_16 : decode cX8_due 16 = .ok (.iload_n 3, 1) := by decide +kernel
theorem dX8_due_17 : decode cX8_due 17 = .ok (.iaload, 1) := by decide +kernel
theorem dX8_due_18 : decode cX8_due 18 = .ok (.iload_n 1, 1) := by decide +kernel
theorem dX8_due_19 : decode cX8_due 19 = .ok (.if_icmp .gt 34, 3) := by decide +kernel
theorem dX8_due_22 : decode cX8_due 22 = .ok (.iload_n 2, 1) := by decide +kernel
theorem dX8_due_23 : decode cX8_due 23 = .ok (.ifCond .lt 26, 3) := by decide +kernel
theorem dX8_due_26 : decode cX8_due 26 = .ok (.aload_n 0, 1) := by decide +kernel
theorem dX8_due_27 : decode cX8_due 27 = .ok (.getfield 57, 3) := by decide +kernel
theorem dX8_due_30 : decode cX8_due 30 = .ok (.iload_n 3, 1) := by decide +kernel
theorem dX8_due_31 : decode cX8_due 31 = .ok (.iaload, 1) := by decide +kernel
theorem dX8_due_32 : decode cX8_due 32 = .ok (.aload_n 0, 1) := by decide +kernel
theorem dX8_due_33 : decode cX8_due 33 = .ok (.getfield 57, 3) := by decide +kernel
theorem dX8_due_36 : decode cX8_due 36 = .ok (.iload_n 2, 1) := by decide +kernel
theorem dX8_due_37 : decode cX8_due 37 = .ok (.ifCond .ge 7, 3) := by decide +kernel
theorem dX8_due_40 : decode cX8_due 40 = .ok (.iconst 0, 1) := by decide +kernel
theorem dX8_due_41 : decode cX8_due 41 = .ok (.goto 4, 3) := by decide +kernel
theorem dX8_due_44 : decode cX8_due 44 = .ok (.iload_n 2, 1) := by decide +kernel
theorem dX8_due_45 : decode cX8_due 45 = .ok (.iaload, 1) := by decide +kernel
theorem dX8_due_46 : decode cX8_due 46 = .ok (.if_icmp .ge 7, 3) := by decide +kernel
theorem dX8_due_49 : decode cX8_due 49 = .ok (.iconst 1, 1) := by decide +kernel
theorem dX8_due_50 : decode cX8_due 50 = .ok (.goto 4, 3) := by decide +kernel
theorem dX8_due_53 : decode cX8_due 53 = .ok (.iconst 0, 1) := by decide +kernel
theorem dX8_due_54 : decode cX8_due 54 = .ok (.istore 4, 2) := by decide +kernel
theorem dX8_due_56 : decode cX8_due 56 = .ok (.iload 4, 2) := by decide +kernel
theorem dX8_due_58 : decode cX8_due 58 = .ok (.ifCond .eq 7, 3) := by decide +kernel
theorem dX8_due_61 : decode cX8_due 61 = .ok (.iload_n 3, 1) := by decide +kernel
theorem dX8_due_62 : decode cX8_due 62 = .ok (.goto 4, 3) := by decide +kernel
theorem dX8_due_65 : decode cX8_due 65 = .ok (.iload_n 2, 1) := by decide +kernel
theorem dX8_due_66 : decode cX8_due 66 = .ok (.istore_n 2, 1) := by decide +kernel
theorem dX8_due_67 : decode cX8_due 67 = .ok (.iinc 3 1, 3) := by decide +kernel
theorem dX8_due_70 : decode cX8_due 70 = .ok (.goto (-66), 3) := by decide +kernel
theorem dX8_due_73 : decode cX8_due 73 = .ok (.iload_n 2, 1) := by decide +kernel
theorem dX8_due_74 : decode cX8_due 74 = .ok (.ireturn, 1) := by decide +kernel
theorem dX8_ring_0 : decode cX8_ring 0 = .ok (.aload_n 0, 1) := by decide +kernel
theorem dX8_ring_1 : decode cX8_ring 1 = .ok (.getfield 54, 3) := by decide +kernel
theorem dX8_ring_4 : decode cX8_ring 4 = .ok (.iload_n 1, 1) := by decide +kernel
theorem dX8_ring_5 : decode cX8_ring 5 = .ok (.iaload, 1) := by decide +kernel
theorem dX8_ring_6 : decode cX8_ring 6 = .ok (.istore_n 2, 1) := by decide +kernel
theorem dX8_ring_7 : decode cX8_ring 7 = .ok (.aload_n 0, 1) := by decide +kernel
theorem dX8_ring_8 : decode cX8_ring 8 = .ok (.getfield 174, 3) := by decide +kernel
theorem dX8_ring_11 : decode cX8_ring 11 = .ok (.bipush 64, 2) := by decide +kernel
theorem dX8_ring_13 : decode cX8_ring 13 = .ok (.irem, 1) := by decide +kernel
theorem dX8_ring_14 : decode cX8_ring 14 = .ok (.istore_n 3, 1) := by decide +kernel
theorem dX8_ring_15 : decode cX8_ring 15 = .ok (.aload_n 0, 1) := by decide +kernel
theorem dX8_ring_16 : decode cX8_ring 16 = .ok (.getfield 60, 3) := by decide +kernel
theorem dX8_ring_19 : decode cX8_ring 19 = .ok (.iload_n 3, 1) := by decide +kernel
theorem dX8_ring_20 : decode cX8_ring 20 = .ok (.iload_n 2, 1) := by decide +kernel
theorem dX8_ring_21 : decode cX8_ring 21 = .ok (.iastore, 1) := by decide +kernel
theorem dX8_ring_22 : decode cX8_ring 22 = .ok (.aload_n 0, 1) := by decide +kernel
theorem dX8_ring_23 : decode cX8_ring 23 = .ok (.getfield 63, 3) := by decide +kernel
theorem dX8_ring_26 : decode cX8_ring 26 = .ok (.iload_n 3, 1) := by decide +kernel
theorem dX8_ring_27 : decode cX8_ring 27 = .ok (.aload_n 0, 1) := by decide +kernel
theorem dX8_ring_28 : decode cX8_ring 28 = .ok (.getfield 57, 3) := by decide +kernel
theorem dX8_ring_31 : decode cX8_ring 31 = .ok (.iload_n 1, 1) := by decide +kernel
theorem dX8_ring_32 : decode cX8_ring 32 = .ok (.iaload, 1) := by decide +kernel
theorem dX8_ring_33 : decode cX8_ring 33 = .ok (.iastore, 1) := by decide +kernel
theorem dX8_ring_34 : decode cX8_ring 34 = .ok (.iconst 0, 1) := by decide +kernel
theorem dX8_ring_35 : decode cX8_ring 35 = .ok (.istore 4, 2) := by decide +kernel
theorem dX8_ring_37 : decode cX8_ring 37 = .ok (.iload 4, 2) := by decide +kernel
theorem dX8_ring_39 : decode cX8_ring 39 = .ok (.bipush 6, 2) := by decide +kernel
theorem dX8_ring_41 : decode cX8_ring 41 = .ok (.if_icmp .ge 43, 3) := by decide +kernel
theorem dX8_ring_44 : decode cX8_ring 44 = .ok (.aload_n 0, 1) := by decide +kernel
theorem dX8_ring_45 : decode cX8_ring 45 = .ok (.getfield 66, 3) := by decide +kernel
theorem dX8_ring_48 : decode cX8_ring 48 = .ok (.bipush 6, 2) := by decide +kernel
theorem dX8_ring_50 : decode cX8_ring 50 = .ok (.iload_n 3, 1) := by decide +kernel
theorem dX8_ring_51 : decode cX8_ring 51 = .ok (.imul, 1) := by decide +kernel
theorem dX8_ring_52 : decode cX8_ring 52 = .ok (.iload 4, 2) := by decide +kernel
theorem dX8_ring_54 : decode cX8_ring 54 = .ok (.iadd, 1) := by decide +kernel
theorem dX8_ring_55 : decode cX8_ring 55 = .ok (.iload 4, 2) := by decide +kernel
theorem dX8_ring_57 : decode cX8_ring 57 = .ok (.aload_n 0, 1) := by decide +kernel
theorem dX8_ring_58 : decode cX8_ring 58 = .ok (.getfield 130, 3) := by decide +kernel
theorem dX8_ring_61 : decode cX8_ring 61 = .ok (.if_icmp .ge 13, 3) := by decide +kernel
theorem dX8_ring_64 : decode cX8_ring 64 = .ok (.aload_n 0, 1) := by decide +kernel
theorem dX8_ring_65 : decode cX8_ring 65 = .ok (.iload 4, 2) := by decide +kernel
theorem dX8_ring_67 : decode cX8_ring 67 = .ok (.iload_n 2, 1) := by decide +kernel
theorem dX8_ring_68 : decode cX8_ring 68 = .ok (.invokevirtual 268, 3) := by decide +kernel
theorem dX8_ring_71 : decode cX8_ring 71 = .ok (.goto 6, 3) := by decide +kernel
theorem dX8_ring_74 : decode cX8_ring 74 = .ok (.ldc2_w 185, 3) := by decide +kernel
theorem dX8_ring_77 : decode cX8_ring 77 = .ok (.lastore, 1) := by decide +kernel
theorem dX8_ring_78 : decode cX8_ring 78 = .ok (.iinc 4 1, 3) := by decide +kernel
theorem dX8_ring_81 : decode cX8_ring 81 = .ok (.goto (-44), 3) := by decide +kernel
theorem dX8_ring_84 : decode cX8_ring 84 = .ok (.aload_n 0, 1) := by decide +kernel
theorem dX8_ring_85 : decode cX8_ring 85 = .ok (.dup, 1) := by decide +kernel
theorem dX8_ring_86 : decode cX8_ring 86 = .ok (.getfield 174, 3) := by decide +kernel
theorem dX8_ring_89 : decode cX8_ring 89 = .ok (.iconst 1, 1) := by decide +kernel
theorem dX8_ring_90 : decode cX8_ring 90 = .ok (.iadd, 1) := by decide +kernel
theorem dX8_ring_91 : decode cX8_ring 91 = .ok (.putfield 174, 3) := by decide +kernel
theorem dX8_ring_94 : decode cX8_ring 94 = .ok (.iconst 0, 1) := by decide +kernel
theorem dX8_ring_95 : decode cX8_ring 95 = .ok (.istore 4, 2) := by decide +kernel
theorem dX8_ring_97 : decode cX8_ring 97 = .ok (.iload 4, 2) := by decide +kernel
theorem dX8_ring_99 : decode cX8_ring 99 = .ok (.aload_n 0, 1) := by decide +kernel
theorem dX8_ring_100 : decode cX8_ring 100 = .ok (.getfield 33, 3) := by decide +kernel
theorem dX8_ring_103 : decode cX8_ring 103 = .ok (.iload_n 2, 1) := by decide +kernel
theorem dX8_ring_104 : decode cX8_ring 104 = .ok (.iaload, 1) := by decide +kernel
theorem dX8_ring_105 : decode cX8_ring 105 = .ok (.if_icmp .ge 16, 3) := by decide +kernel
theorem dX8_ring_108 : decode cX8_ring 108 = .ok (.aload_n 0, 1) := by decide +kernel
theorem dX8_ring_109 : decode cX8_ring 109 = .ok (.iload 4, 2) := by decide +kernel
theorem dX8_ring_111 : decode cX8_ring 111 = .ok (.iload_n 2, 1) := by decide +kernel
theorem dX8_ring_112 : decode cX8_ring 112 = .ok (.invokevirtual 167, 3) := by decide +kernel
theorem dX8_ring_115 : decode cX8_ring 115 = .ok (.iinc 4 1, 3) := by decide +kernel
theorem dX8_ring_118 : decode cX8_ring 118 = .ok (.goto (-21), 3) := by decide +kernel
theorem dX8_ring_121 : decode cX8_ring 121 = .ok (.aload_n 0, 1) := by decide +kernel
theorem dX8_ring_122 : decode cX8_ring 122 = .ok (.dup, 1) := by decide +kernel
theorem dX8_ring_123 : decode cX8_ring 123 = .ok (.getfield 161, 3) := by decide +kernel
theorem dX8_ring_126 : decode cX8_ring 126 = .ok (.iconst 1, 1) := by decide +kernel
theorem dX8_ring_127 : decode cX8_ring 127 = .ok (.isub, 1) := by decide +kernel
theorem dX8_ring_128 : decode cX8_ring 128 = .ok (.putfield 161, 3) := by decide +kernel
theorem dX8_ring_131 : decode cX8_ring 131 = .ok (.iload_n 1, 1) := by decide +kernel
theorem dX8_ring_132 : decode cX8_ring 132 = .ok (.istore 4, 2) := by decide +kernel
theorem dX8_ring_134 : decode cX8_ring 134 = .ok (.iload 4, 2) := by decide +kernel
theorem dX8_ring_136 : decode cX8_ring 136 = .ok (.aload_n 0, 1) := by decide +kernel
theorem dX8_ring_137 : decode cX8_ring 137 = .ok (.getfield 161, 3) := by decide +kernel
theorem dX8_ring_140 : decode cX8_ring 140 = .ok (.if_icmp .ge 41, 3) := by decide +kernel
theorem dX8_ring_143 : decode cX8_ring 143 = .ok (.aload_n 0, 1) := by decide +kernel
theorem dX8_ring_144 : decode cX8_ring 144 = .ok (.getfield 54, 3) := by decide +kernel
theorem dX8_ring_147 : decode cX8_ring 147 = .ok (.iload 4, 2) := by decide +kernel
theorem dX8_ring_149 : decode cX8_ring 149 = .ok (.aload_n 0, 1) := by decide +kernel
theorem dX8_ring_150 : decode cX8_ring 150 = .ok (.getfield 54, 3) := by decide +kernel
theorem dX8_ring_153 : decode cX8_ring 153 = .ok (.iload 4, 2) := by decide +kernel
theorem dX8_ring_155 : decode cX8_ring 155 = .ok (.iconst 1, 1) := by decide +kernel
theorem dX8_ring_156 : decode cX8_ring 156 = .ok (.iadd, 1) := by decide +kernel
theorem dX8_ring_157 : decode cX8_ring 157 = .ok (.iaload, 1) := by decide +kernel
theorem dX8_ring_158 : decode cX8_ring 158 = .ok (.iastore, 1) := by decide +kernel
theorem dX8_ring_159 : decode cX8_ring 159 = .ok (.aload_n 0, 1) := by decide +kernel
theorem dX8_ring_160 : decode cX8_ring 160 = .ok (.getfield 57, 3) := by decide +kernel
theorem dX8_ring_163 : decode cX8_ring 163 = .ok (.iload 4, 2) := by decide +kernel
theorem dX8_ring_165 : decode cX8_ring 165 = .ok (.aload_n 0, 1) := by decide +kernel
theorem dX8_ring_166 : decode cX8_ring 166 = .ok (.getfield 57, 3) := by decide +kernel
theorem dX8_ring_169 : decode cX8_ring 169 = .ok (.iload 4, 2) := by decide +kernel
theorem dX8_ring_171 : decode cX8_ring 171 = .ok (.iconst 1, 1) := by decide +kernel
theorem dX8_ring_172 : decode cX8_ring 172 = .ok (.iadd, 1) := by decide +kernel
theorem dX8_ring_173 : decode cX8_ring 173 = .ok (.iaload, 1) := by decide +kernel
theorem dX8_ring_174 : decode cX8_ring 174 = .ok (.iastore, 1) := by decide +kernel
theorem dX8_ring_175 : decode cX8_ring 175 = .ok (.iinc 4 1, 3) := by decide +kernel
theorem dX8_ring_178 : decode cX8_ring 178 = .ok (.goto (-44), 3) := by decide +kernel
theorem dX8_ring_181 : decode cX8_ring 181 = .ok (.return_, 1) := by decide +kernel
theorem dX8_tick_0 : decode cX8_tick 0 = .ok (.iload_n 1, 1) := by decide +kernel
theorem dX8_tick_1 : decode cX8_tick 1 = .ok (.aload_n 0, 1) := by decide +kernel
theorem dX8_tick_2 : decode cX8_tick 2 = .ok (.getfield 151, 3) := by decide +kernel
theorem dX8_tick_5 : decode cX8_tick 5 = .ok (.if_icmp .lt 10, 3) := by decide +kernel
theorem dX8_tick_8 : decode cX8_tick 8 = .ok (.iload_n 1, 1) := by decide +kernel
theorem dX8_tick_9 : decode cX8_tick 9 = .ok (.ldc_w 272, 3) := by decide +kernel
theorem dX8_tick_12 : decode cX8_tick 12 = .ok (.if_icmp .le 6, 3) := by decide +kernel
theorem dX8_tick_15 : decode cX8_tick 15 = .ok (.bipush (-102), 2) := by decide +kernel
theorem dX8_tick_17 : decode cX8_tick 17 = .ok (.ireturn, 1) := by decide +kernel
theorem dX8_tick_18 : decode cX8_tick 18 = .ok (.iconst 0, 1) := by decide +kernel
theorem dX8_tick_19 : decode cX8_tick 19 = .ok (.istore_n 2, 1) := by decide +kernel
theorem dX8_tick_20 : decode cX8_tick 20 = .ok (.aload_n 0, 1) := by decide +kernel
theorem dX8_tick_21 : decode cX8_tick 21 = .ok (.iload_n 1, 1) := by decide +kernel
theorem dX8_tick_22 : decode cX8_tick 22 = .ok (.invokevirtual 273, 3) := by decide +kernel
theorem dX8_tick_25 : decode cX8_tick 25 = .ok (.istore_n 3, 1) := by decide +kernel
theorem dX8_tick_26 : decode cX8_tick 26 = .ok (.iload_n 3, 1) := by decide +kernel
theorem dX8_tick_27 : decode cX8_tick 27 = .ok (.ifCond .lt 20, 3) := by decide +kernel
theorem dX8_tick_30 : decode cX8_tick 30 = .ok (.aload_n 0, 1) := by decide +kernel
theorem dX8_tick_31 : decode cX8_tick 31 = .ok (.iload_n 3, 1) := by decide +kernel
theorem dX8_tick_32 : decode cX8_tick 32 = .ok (.invokevirtual 276, 3) := by decide +kernel
theorem dX8_tick_35 : decode cX8_tick 35 = .ok (.iinc 2 1, 3) := by decide +kernel
theorem dX8_tick_38 : decode cX8_tick 38 = .ok (.aload_n 0, 1) := by decide +kernel
theorem dX8_tick_39 : decode cX8_tick 39 = .ok (.iload_n 1, 1) := by decide +kernel
theorem dX8_tick_40 : decode cX8_tick 40 = .ok (.invokevirtual 273, 3) := by decide +kernel
theorem dX8_tick_43 : decode cX8_tick 43 = .ok (.istore_n 3, 1) := by decide +kernel
theorem dX8_tick_44 : decode cX8_tick 44 = .ok (.goto (-18), 3) := by decide +kernel
theorem dX8_tick_47 : decode cX8_tick 47 = .ok (.aload_n 0, 1) := by decide +kernel
theorem dX8_tick_48 : decode cX8_tick 48 = .ok (.iload_n 1, 1) := by decide +kernel
theorem dX8_tick_49 : decode cX8_tick 49 = .ok (.putfield 151, 3) := by decide +kernel
theorem dX8_tick_52 : decode cX8_tick 52 = .ok (.iload_n 2, 1) := by decide +kernel
theorem dX8_tick_53 : decode cX8_tick 53 = .ok (.ireturn, 1) := by decide +kernel
theorem dX8_keptLogs_0 : decode cX8_keptLogs 0 = .ok (.aload_n 0, 1) := by decide +kernel
theorem dX8_keptLogs_1 : decode cX8_keptLogs 1 = .ok (.getfield 174, 3) := by decide +kernel
theorem dX8_keptLogs_4 : decode cX8_keptLogs 4 = .ok (.bipush 64, 2) := by decide +kernel
theorem dX8_keptLogs_6 : decode cX8_keptLogs 6 = .ok (.if_icmp .ge 10, 3) := by decide +kernel
theorem dX8_keptLogs_9 : decode cX8_keptLogs 9 = .ok (.aload_n 0, 1) := by decide +kernel
theorem dX8_keptLogs_10 : decode cX8_keptLogs 10 = .ok (.getfield 174, 3) := by decide +kernel
theorem dX8_keptLogs_13 : decode cX8_keptLogs 13 = .ok (.goto 5, 3) := by decide +kernel
theorem dX8_keptLogs_16 : decode cX8_keptLogs 16 = .ok (.bipush 64, 2) := by decide +kernel
theorem dX8_keptLogs_18 : decode cX8_keptLogs 18 = .ok (.ireturn, 1) := by decide +kernel
theorem dX8_log_0 : decode cX8_log 0 = .ok (.iload_n 1, 1) := by decide +kernel
theorem dX8_log_1 : decode cX8_log 1 = .ok (.i2l, 1) := by decide +kernel
theorem dX8_log_2 : decode cX8_log 2 = .ok (.lconst 0, 1) := by decide +kernel
theorem dX8_log_3 : decode cX8_log 3 = .ok (.aload_n 0, 1) := by decide +kernel
theorem dX8_log_4 : decode cX8_log 4 = .ok (.invokevirtual 279, 3) := by decide +kernel
theorem dX8_log_7 : decode cX8_log 7 = .ok (.iconst 1, 1) := by decide +kernel
theorem dX8_log_8 : decode cX8_log 8 = .ok (.isub, 1) := by decide +kernel
theorem dX8_log_9 : decode cX8_log 9 = .ok (.i2l, 1) := by decide +kernel
theorem dX8_log_10 : decode cX8_log 10 = .ok (.invokestatic 197, 3) := by decide +kernel
theorem dX8_log_13 : decode cX8_log 13 = .ok (.ifCond .eq 15, 3) := by decide +kernel
theorem dX8_log_16 : decode cX8_log 16 = .ok (.iload_n 2, 1) := by decide +kernel
theorem dX8_log_17 : decode cX8_log 17 = .ok (.i2l, 1) := by decide +kernel
theorem dX8_log_18 : decode cX8_log 18 = .ok (.lconst 0, 1) := by decide +kernel
theorem dX8_log_19 : decode cX8_log 19 = .ok (.ldc2_w 183, 3) := by decide +kernel
theorem dX8_log_22 : decode cX8_log 22 = .ok (.invokestatic 197, 3) := by decide +kernel
theorem dX8_log_25 : decode cX8_log 25 = .ok (.ifCond .ne 7, 3) := by decide +kernel
theorem dX8_log_28 : decode cX8_log 28 = .ok (.ldc2_w 185, 3) := by decide +kernel
theorem dX8_log_31 : decode cX8_log 31 = .ok (.lreturn, 1) := by decide +kernel
theorem dX8_log_32 : decode cX8_log 32 = .ok (.aload_n 0, 1) := by decide +kernel
theorem dX8_log_33 : decode cX8_log 33 = .ok (.getfield 174, 3) := by decide +kernel
theorem dX8_log_36 : decode cX8_log 36 = .ok (.iconst 1, 1) := by decide +kernel
theorem dX8_log_37 : decode cX8_log 37 = .ok (.isub, 1) := by decide +kernel
theorem dX8_log_38 : decode cX8_log 38 = .ok (.iload_n 1, 1) := by decide +kernel
theorem dX8_log_39 : decode cX8_log 39 = .ok (.isub, 1) := by decide +kernel
theorem dX8_log_40 : decode cX8_log 40 = .ok (.bipush 64, 2) := by decide +kernel
theorem dX8_log_42 : decode cX8_log 42 = .ok (.irem, 1) := by decide +kernel
theorem dX8_log_43 : decode cX8_log 43 = .ok (.istore_n 3, 1) := by decide +kernel
theorem dX8_log_44 : decode cX8_log 44 = .ok (.iload_n 2, 1) := by decide +kernel
theorem dX8_log_45 : decode cX8_log 45 = .ok (.ifCond .ne 13, 3) := by decide +kernel
theorem dX8_log_48 : decode cX8_log 48 = .ok (.aload_n 0, 1) := by decide +kernel
theorem dX8_log_49 : decode cX8_log 49 = .ok (.getfield 60, 3) := by decide +kernel
theorem dX8_log_52 : decode cX8_log 52 = .ok (.iload_n 3, 1) := by decide +kernel
theorem dX8_log_53 : decode cX8_log 53 = .ok (.iaload, 1) := by decide +kernel
theorem dX8_log_54 : decode cX8_log 54 = .ok (.i2l, 1) := by decide +kernel
theorem dX8_log_55 : decode cX8_log 55 = .ok (.goto 31, 3) := by decide +kernel
theorem dX8_log_58 : decode cX8_log 58 = .ok (.iload_n 2, 1) := by decide +kernel
theorem dX8_log_59 : decode cX8_log 59 = .ok (.iconst 1, 1) := by decide +kernel
theorem dX8_log_60 : decode cX8_log 60 = .ok (.if_icmp .ne 13, 3) := by decide +kernel
theorem dX8_log_63 : decode cX8_log 63 = .ok (.aload_n 0, 1) := by decide +kernel
theorem dX8_log_64 : decode cX8_log 64 = .ok (.getfield 63, 3) := by decide +kernel
theorem dX8_log_67 : decode cX8_log 67 = .ok (.iload_n 3, 1) := by decide +kernel
theorem dX8_log_68 : decode cX8_log 68 = .ok (.iaload, 1) := by decide +kernel
theorem dX8_log_69 : decode cX8_log 69 = .ok (.i2l, 1) := by decide +kernel
theorem dX8_log_70 : decode cX8_log 70 = .ok (.goto 16, 3) := by decide +kernel
theorem dX8_log_73 : decode cX8_log 73 = .ok (.aload_n 0, 1) := by decide +kernel
theorem dX8_log_74 : decode cX8_log 74 = .ok (.getfield 66, 3) := by decide +kernel
theorem dX8_log_77 : decode cX8_log 77 = .ok (.bipush 6, 2) := by decide +kernel
theorem dX8_log_79 : decode cX8_log 79 = .ok (.iload_n 3, 1) := by decide +kernel
theorem dX8_log_80 : decode cX8_log 80 = .ok (.imul, 1) := by decide +kernel
theorem dX8_log_81 : decode cX8_log 81 = .ok (.iload_n 2, 1) := by decide +kernel
theorem dX8_log_82 : decode cX8_log 82 = .ok (.iadd, 1) := by decide +kernel
theorem dX8_log_83 : decode cX8_log 83 = .ok (.iconst 2, 1) := by decide +kernel
theorem dX8_log_84 : decode cX8_log 84 = .ok (.isub, 1) := by decide +kernel
theorem dX8_log_85 : decode cX8_log 85 = .ok (.laload, 1) := by decide +kernel
theorem dX8_log_86 : decode cX8_log 86 = .ok (.lreturn, 1) := by decide +kernel
theorem dX8_mark_0 : decode cX8_mark 0 = .ok (.aload_n 0, 1) := by decide +kernel
theorem dX8_mark_1 : decode cX8_mark 1 = .ok (.getfield 164, 3) := by decide +kernel
theorem dX8_mark_4 : decode cX8_mark 4 = .ok (.iconst 4, 1) := by decide +kernel
theorem dX8_mark_5 : decode cX8_mark 5 = .ok (.if_icmp .ne 6, 3) := by decide +kernel
theorem dX8_mark_8 : decode cX8_mark 8 = .ok (.bipush (-104), 2) := by decide +kernel
theorem dX8_mark_10 : decode cX8_mark 10 = .ok (.ireturn, 1) := by decide +kernel
theorem dX8_mark_11 : decode cX8_mark 11 = .ok (.aload_n 0, 1) := by decide +kernel
theorem dX8_mark_12 : decode cX8_mark 12 = .ok (.getfield 164, 3) := by decide +kernel
theorem dX8_mark_15 : decode cX8_mark 15 = .ok (.istore_n 1, 1) := by decide +kernel
theorem dX8_mark_16 : decode cX8_mark 16 = .ok (.iconst 0, 1) := by decide +kernel
theorem dX8_mark_17 : decode cX8_mark 17 = .ok (.istore_n 2, 1) := by decide +kernel
theorem dX8_mark_18 : decode cX8_mark 18 = .ok (.iload_n 2, 1) := by decide +kernel
theorem dX8_mark_19 : decode cX8_mark 19 = .ok (.bipush 100, 2) := by decide +kernel
theorem dX8_mark_21 : decode cX8_mark 21 = .ok (.if_icmp .ge 82, 3) := by decide +kernel
theorem dX8_mark_24 : decode cX8_mark 24 = .ok (.iconst 0, 1) := by decide +kernel
theorem dX8_mark_25 : decode cX8_mark 25 = .ok (.istore_n 3, 1) := by decide +kernel
theorem dX8_mark_26 : decode cX8_mark 26 = .ok (.iload_n 3, 1) := by decide +kernel
theorem dX8_mark_27 : decode cX8_mark 27 = .ok (.aload_n 0, 1) := by decide +kernel
theorem dX8_mark_28 : decode cX8_mark 28 = .ok (.getfield 130, 3) := by decide +kernel
theorem dX8_mark_31 : decode cX8_mark 31 = .ok (.if_icmp .ge 32, 3) := by decide +kernel
theorem dX8_mark_34 : decode cX8_mark 34 = .ok (.aload_n 0, 1) := by decide +kernel
theorem dX8_mark_35 : decode cX8_mark 35 = .ok (.getfield 69, 3) := by decide +kernel
theorem dX8_mark_38 : decode cX8_mark 38 = .ok (.sipush 600, 3) := by decide +kernel
theorem dX8_mark_41 : decode cX8_mark 41 = .ok (.iload_n 1, 1) := by decide +kernel
theorem dX8_mark_42 : decode cX8_mark 42 = .ok (.imul, 1) := by decide +kernel
theorem dX8_mark_43 : decode cX8_mark 43 = .ok (.bipush 6, 2) := by decide +kernel
theorem dX8_mark_45 : decode cX8_mark 45 = .ok (.iload_n 2, 1) := by decide +kernel
theorem dX8_mark_46 : decode cX8_mark 46 = .ok (.imul, 1) := by decide +kernel
theorem dX8_mark_47 : decode cX8_mark 47 = .ok (.iadd, 1) := by decide +kernel
theorem dX8_mark_48 : decode cX8_mark 48 = .ok (.iload_n 3, 1) := by decide +kernel
theorem dX8_mark_49 : decode cX8_mark 49 = .ok (.iadd, 1) := by decide +kernel
theorem dX8_mark_50 : decode cX8_mark 50 = .ok (.aload_n 0, 1) := by decide +kernel
theorem dX8_mark_51 : decode cX8_mark 51 = .ok (.iload_n 3, 1) := by decide +kernel
theorem dX8_mark_52 : decode cX8_mark 52 = .ok (.iload_n 2, 1) := by decide +kernel
theorem dX8_mark_53 : decode cX8_mark 53 = .ok (.invokevirtual 268, 3) := by decide +kernel
theorem dX8_mark_56 : decode cX8_mark 56 = .ok (.lastore, 1) := by decide +kernel
theorem dX8_mark_57 : decode cX8_mark 57 = .ok (.iinc 3 1, 3) := by decide +kernel
theorem dX8_mark_60 : decode cX8_mark 60 = .ok (.goto (-34), 3) := by decide +kernel
theorem dX8_mark_63 : decode cX8_mark 63 = .ok (.aload_n 0, 1) := by decide +kernel
theorem dX8_mark_64 : decode cX8_mark 64 = .ok (.getfield 72, 3) := by decide +kernel
theorem dX8_mark_67 : decode cX8_mark 67 = .ok (.bipush 100, 2) := by decide +kernel
theorem dX8_mark_69 : decode cX8_mark 69 = .ok (.iload_n 1, 1) := by decide +kernel
theorem dX8_mark_70 : decode cX8_mark 70 = .ok (.imul, 1) := by decide +kernel
theorem dX8_mark_71 : decode cX8_mark 71 = .ok (.iload_n 2, 1) := by decide +kernel
theorem dX8_mark_72 : decode cX8_mark 72 = .ok (.iadd, 1) := by decide +kernel
theorem dX8_mark_73 : decode cX8_mark 73 = .ok (.aload_n 0, 1) := by decide +kernel
theorem dX8_mark_74 : decode cX8_mark 74 = .ok (.getfield 24, 3) := by decide +kernel
theorem dX8_mark_77 : decode cX8_mark 77 = .ok (.iload_n 2, 1) := by decide +kernel
theorem dX8_mark_78 : decode cX8_mark 78 = .ok (.iaload, 1) := by decide +kernel
theorem dX8_mark_79 : decode cX8_mark 79 = .ok (.iastore, 1) := by decide +kernel
theorem dX8_mark_80 : decode cX8_mark 80 = .ok (.aload_n 0, 1) := by decide +kernel
theorem dX8_mark_81 : decode cX8_mark 81 = .ok (.getfield 75, 3) := by decide +kernel
theorem dX8_mark_84 : decode cX8_mark 84 = .ok (.bipush 100, 2) := by decide +kernel
theorem dX8_mark_86 : decode cX8_mark 86 = .ok (.iload_n 1, 1) := by decide +kernel
theorem dX8_mark_87 : decode cX8_mark 87 = .ok (.imul, 1) := by decide +kernel
theorem dX8_mark_88 : decode cX8_mark 88 = .ok (.iload_n 2, 1) := by decide +kernel
theorem dX8_mark_89 : decode cX8_mark 89 = .ok (.iadd, 1) := by decide +kernel
theorem dX8_mark_90 : decode cX8_mark 90 = .ok (.aload_n 0, 1) := by decide +kernel
theorem dX8_mark_91 : decode cX8_mark 91 = .ok (.getfield 27, 3) := by decide +kernel
theorem dX8_mark_94 : decode cX8_mark 94 = .ok (.iload_n 2, 1) := by decide +kernel
theorem dX8_mark_95 : decode cX8_mark 95 = .ok (.baload, 1) := by decide +kernel
theorem dX8_mark_96 : decode cX8_mark 96 = .ok (.bastore, 1) := by decide +kernel
theorem dX8_mark_97 : decode cX8_mark 97 = .ok (.iinc 2 1, 3) := by decide +kernel
theorem dX8_mark_100 : decode cX8_mark 100 = .ok (.goto (-82), 3) := by decide +kernel
theorem dX8_mark_103 : decode cX8_mark 103 = .ok (.aload_n 0, 1) := by decide +kernel
theorem dX8_mark_104 : decode cX8_mark 104 = .ok (.getfield 78, 3) := by decide +kernel
theorem dX8_mark_107 : decode cX8_mark 107 = .ok (.iload_n 1, 1) := by decide +kernel
theorem dX8_mark_108 : decode cX8_mark 108 = .ok (.aload_n 0, 1) := by decide +kernel
theorem dX8_mark_109 : decode cX8_mark 109 = .ok (.getfield 158, 3) := by decide +kernel
theorem dX8_mark_112 : decode cX8_mark 112 = .ok (.iastore, 1) := by decide +kernel
theorem dX8_mark_113 : decode cX8_mark 113 = .ok (.iconst 0, 1) := by decide +kernel
theorem dX8_mark_114 : decode cX8_mark 114 = .ok (.istore_n 2, 1) := by decide +kernel
theorem dX8_mark_115 : decode cX8_mark 115 = .ok (.iload_n 2, 1) := by decide +kernel
theorem dX8_mark_116 : decode cX8_mark 116 = .ok (.aload_n 0, 1) := by decide +kernel
theorem dX8_mark_117 : decode cX8_mark 117 = .ok (.getfield 158, 3) := by decide +kernel
theorem dX8_mark_120 : decode cX8_mark 120 = .ok (.if_icmp .ge 43, 3) := by decide +kernel
theorem dX8_mark_123 : decode cX8_mark 123 = .ok (.aload_n 0, 1) := by decide +kernel
theorem dX8_mark_124 : decode cX8_mark 124 = .ok (.getfield 81, 3) := by decide +kernel
theorem dX8_mark_127 : decode cX8_mark 127 = .ok (.bipush 60, 2) := by decide +kernel
theorem dX8_mark_129 : decode cX8_mark 129 = .ok (.iload_n 1, 1) := by decide +kernel
theorem dX8_mark_130 : decode cX8_mark 130 = .ok (.imul, 1) := by decide +kernel
theorem dX8_mark_131 : decode cX8_mark 131 = .ok (.iload_n 2, 1) := by decide +kernel
theorem dX8_mark_132 : decode cX8_mark 132 = .ok (.iadd, 1) := by decide +kernel
theorem dX8_mark_133 : decode cX8_mark 133 = .ok (.aload_n 0, 1) := by decide +kernel
theorem dX8_mark_134 : decode cX8_mark 134 = .ok (.getfield 48, 3) := by decide +kernel
theorem dX8_mark_137 : decode cX8_mark 137 = .ok (.iload_n 2, 1) := by decide +kernel
theorem dX8_mark_138 : decode cX8_mark 138 = .ok (.iaload, 1) := by decide +kernel
theorem dX8_mark_139 : decode cX8_mark 139 = .ok (.iastore, 1) := by decide +kernel
theorem dX8_mark_140 : decode cX8_mark 140 = .ok (.aload_n 0, 1) := by decide +kernel
theorem dX8_mark_141 : decode cX8_mark 141 = .ok (.getfield 84, 3) := by decide +kernel
theorem dX8_mark_144 : decode cX8_mark 144 = .ok (.bipush 60, 2) := by decide +kernel
theorem dX8_mark_146 : decode cX8_mark 146 = .ok (.iload_n 1, 1) := by decide +kernel
theorem dX8_mark_147 : decode cX8_mark 147 = .ok (.imul, 1) := by decide +kernel
theorem dX8_mark_148 : decode cX8_mark 148 = .ok (.iload_n 2, 1) := by decide +kernel
theorem dX8_mark_149 : decode cX8_mark 149 = .ok (.iadd, 1) := by decide +kernel
theorem dX8_mark_150 : decode cX8_mark 150 = .ok (.aload_n 0, 1) := by decide +kernel
theorem dX8_mark_151 : decode cX8_mark 151 = .ok (.getfield 51, 3) := by decide +kernel
theorem dX8_mark_154 : decode cX8_mark 154 = .ok (.iload_n 2, 1) := by decide +kernel
theorem dX8_mark_155 : decode cX8_mark 155 = .ok (.iaload, 1) := by decide +kernel
theorem dX8_mark_156 : decode cX8_mark 156 = .ok (.iastore, 1) := by decide +kernel
theorem dX8_mark_157 : decode cX8_mark 157 = .ok (.iinc 2 1, 3) := by decide +kernel
theorem dX8_mark_160 : decode cX8_mark 160 = .ok (.goto (-45), 3) := by decide +kernel
theorem dX8_mark_163 : decode cX8_mark 163 = .ok (.aload_n 0, 1) := by decide +kernel
theorem dX8_mark_164 : decode cX8_mark 164 = .ok (.getfield 87, 3) := by decide +kernel
theorem dX8_mark_167 : decode cX8_mark 167 = .ok (.iload_n 1, 1) := by decide +kernel
theorem dX8_mark_168 : decode cX8_mark 168 = .ok (.aload_n 0, 1) := by decide +kernel
theorem dX8_mark_169 : decode cX8_mark 169 = .ok (.getfield 161, 3) := by decide +kernel
theorem dX8_mark_172 : decode cX8_mark 172 = .ok (.iastore, 1) := by decide +kernel
theorem dX8_mark_173 : decode cX8_mark 173 = .ok (.iconst 0, 1) := by decide +kernel
theorem dX8_mark_174 : decode cX8_mark 174 = .ok (.istore_n 2, 1) := by decide +kernel
theorem dX8_mark_175 : decode cX8_mark 175 = .ok (.iload_n 2, 1) := by decide +kernel
theorem dX8_mark_176 : decode cX8_mark 176 = .ok (.aload_n 0, 1) := by decide +kernel
theorem dX8_mark_177 : decode cX8_mark 177 = .ok (.getfield 161, 3) := by decide +kernel
theorem dX8_mark_180 : decode cX8_mark 180 = .ok (.if_icmp .ge 43, 3) := by decide +kernel
theorem dX8_mark_183 : decode cX8_mark 183 = .ok (.aload_n 0, 1) := by decide +kernel
theorem dX8_mark_184 : decode cX8_mark 184 = .ok (.getfield 90, 3) := by decide +kernel
theorem dX8_mark_187 : decode cX8_mark 187 = .ok (.bipush 40, 2) := by decide +kernel
theorem dX8_mark_189 : decode cX8_mark 189 = .ok (.iload_n 1, 1) := by decide +kernel
theorem dX8_mark_190 : decode cX8_mark 190 = .ok (.imul, 1) := by decide +kernel
theorem dX8_mark_191 : decode cX8_mark 191 = .ok (.iload_n 2, 1) := by decide +kernel
theorem dX8_mark_192 : decode cX8_mark 192 = .ok (.iadd, 1) := by decide +kernel
theorem dX8_mark_193 : decode cX8_mark 193 = .ok (.aload_n 0, 1) := by decide +kernel
theorem dX8_mark_194 : decode cX8_mark 194 = .ok (.getfield 54, 3) := by decide +kernel
theorem dX8_mark_197 : decode cX8_mark 197 = .ok (.iload_n 2, 1) := by decide +kernel
theorem dX8_mark_198 : decode cX8_mark 198 = .ok (.iaload, 1) := by decide +kernel
theorem dX8_mark_199 : decode cX8_mark 199 = .ok (.iastore, 1) := by decide +kernel
theorem dX8_mark_200 : decode cX8_mark 200 = .ok (.aload_n 0, 1) := by decide +kernel
theorem dX8_mark_201 : decode cX8_mark 201 = .ok (.getfield 93, 3) := by decide +kernel
theorem dX8_mark_204 : decode cX8_mark 204 = .ok (.bipush 40, 2) := by decide +kernel
theorem dX8_mark_206 : decode cX8_mark 206 = .ok (.iload_n 1, 1) := by decide +kernel
theorem dX8_mark_207 : decode cX8_mark 207 = .ok (.imul, 1) := by decide +kernel
theorem dX8_mark_208 : decode cX8_mark 208 = .ok (.iload_n 2, 1) := by decide +kernel
theorem dX8_mark_209 : decode cX8_mark 209 = .ok (.iadd, 1) := by decide +kernel
theorem dX8_mark_210 : decode cX8_mark 210 = .ok (.aload_n 0, 1) := by decide +kernel
theorem dX8_mark_211 : decode cX8_mark 211 = .ok (.getfield 57, 3) := by decide +kernel
theorem dX8_mark_214 : decode cX8_mark 214 = .ok (.iload_n 2, 1) := by decide +kernel
theorem dX8_mark_215 : decode cX8_mark 215 = .ok (.iaload, 1) := by decide +kernel
theorem dX8_mark_216 : decode cX8_mark 216 = .ok (.iastore, 1) := by decide +kernel
theorem dX8_mark_217 : decode cX8_mark 217 = .ok (.iinc 2 1, 3) := by decide +kernel
theorem dX8_mark_220 : decode cX8_mark 220 = .ok (.goto (-45), 3) := by decide +kernel
theorem dX8_mark_223 : decode cX8_mark 223 = .ok (.aload_n 0, 1) := by decide +kernel
theorem dX8_mark_224 : decode cX8_mark 224 = .ok (.getfield 96, 3) := by decide +kernel
theorem dX8_mark_227 : decode cX8_mark 227 = .ok (.iload_n 1, 1) := by decide +kernel
theorem dX8_mark_228 : decode cX8_mark 228 = .ok (.aload_n 0, 1) := by decide +kernel
theorem dX8_mark_229 : decode cX8_mark 229 = .ok (.getfield 151, 3) := by decide +kernel
theorem dX8_mark_232 : decode cX8_mark 232 = .ok (.iastore, 1) := by decide +kernel
theorem dX8_mark_233 : decode cX8_mark 233 = .ok (.aload_n 0, 1) := by decide +kernel
theorem dX8_mark_234 : decode cX8_mark 234 = .ok (.getfield 99, 3) := by decide +kernel
theorem dX8_mark_237 : decode cX8_mark 237 = .ok (.iload_n 1, 1) := by decide +kernel
theorem dX8_mark_238 : decode cX8_mark 238 = .ok (.aload_n 0, 1) := by decide +kernel
theorem dX8_mark_239 : decode cX8_mark 239 = .ok (.getfield 133, 3) := by decide +kernel
theorem dX8_mark_242 : decode cX8_mark 242 = .ok (.iastore, 1) := by decide +kernel
theorem dX8_mark_243 : decode cX8_mark 243 = .ok (.aload_n 0, 1) := by decide +kernel
theorem dX8_mark_244 : decode cX8_mark 244 = .ok (.getfield 102, 3) := by decide +kernel
theorem dX8_mark_247 : decode cX8_mark 247 = .ok (.iload_n 1, 1) := by decide +kernel
theorem dX8_mark_248 : decode cX8_mark 248 = .ok (.aload_n 0, 1) := by decide +kernel
theorem dX8_mark_249 : decode cX8_mark 249 = .ok (.getfield 145, 3) := by decide +kernel
theorem dX8_mark_252 : decode cX8_mark 252 = .ok (.iastore, 1) := by decide +kernel
theorem dX8_mark_253 : decode cX8_mark 253 = .ok (.aload_n 0, 1) := by decide +kernel
theorem dX8_mark_254 : decode cX8_mark 254 = .ok (.getfield 105, 3) := by decide +kernel
theorem dX8_mark_257 : decode cX8_mark 257 = .ok (.iload_n 1, 1) := by decide +kernel
theorem dX8_mark_258 : decode cX8_mark 258 = .ok (.aload_n 0, 1) := by decide +kernel
theorem dX8_mark_259 : decode cX8_mark 259 = .ok (.getfield 154, 3) := by decide +kernel
theorem dX8_mark_262 : decode cX8_mark 262 = .ok (.lastore, 1) := by decide +kernel
theorem dX8_mark_263 : decode cX8_mark 263 = .ok (.aload_n 0, 1) := by decide +kernel
theorem dX8_mark_264 : decode cX8_mark 264 = .ok (.dup, 1) := by decide +kernel
theorem dX8_mark_265 : decode cX8_mark 265 = .ok (.getfield 164, 3) := by decide +kernel
theorem dX8_mark_268 : decode cX8_mark 268 = .ok (.iconst 1, 1) := by decide +kernel
theorem dX8_mark_269 : decode cX8_mark 269 = .ok (.iadd, 1) := by decide +kernel
theorem dX8_mark_270 : decode cX8_mark 270 = .ok (.putfield 164, 3) := by decide +kernel
theorem dX8_mark_273 : decode cX8_mark 273 = .ok (.iload_n 1, 1) := by decide +kernel
theorem dX8_mark_274 : decode cX8_mark 274 = .ok (.ireturn, 1) := by decide +kernel
theorem dX8_restore_0 : decode cX8_restore 0 = .ok (.iload_n 1, 1) := by decide +kernel
theorem dX8_restore_1 : decode cX8_restore 1 = .ok (.i2l, 1) := by decide +kernel
theorem dX8_restore_2 : decode cX8_restore 2 = .ok (.lconst 0, 1) := by decide +kernel
theorem dX8_restore_3 : decode cX8_restore 3 = .ok (.aload_n 0, 1) := by decide +kernel
theorem dX8_restore_4 : decode cX8_restore 4 = .ok (.getfield 164, 3) := by decide +kernel
theorem dX8_restore_7 : decode cX8_restore 7 = .ok (.iconst 1, 1) := by decide +kernel
theorem dX8_restore_8 : decode cX8_restore 8 = .ok (.isub, 1) := by decide +kernel
theorem dX8_restore_9 : decode cX8_restore 9 = .ok (.i2l, 1) := by decide +kernel
theorem dX8_restore_10 : decode cX8_restore 10 = .ok (.invokestatic 197, 3) := by decide +kernel
theorem dX8_restore_13 : decode cX8_restore 13 = .ok (.ifCond .ne 6, 3) := by decide +kernel
theorem dX8_restore_16 : decode cX8_restore 16 = .ok (.bipush (-101), 2) := by decide +kernel
theorem dX8_restore_18 : decode cX8_restore 18 = .ok (.ireturn, 1) := by decide +kernel
theorem dX8_restore_19 : decode cX8_restore 19 = .ok (.iconst 0, 1) := by decide +kernel
theorem dX8_restore_20 : decode cX8_restore 20 = .ok (.istore_n 2, 1) := by decide +kernel
theorem dX8_restore_21 : decode cX8_restore 21 = .ok (.iload_n 2, 1) := by decide +kernel
theorem dX8_restore_22 : decode cX8_restore 22 = .ok (.bipush 100, 2) := by decide +kernel
theorem dX8_restore_24 : decode cX8_restore 24 = .ok (.if_icmp .ge 108, 3) := by decide +kernel
theorem dX8_restore_27 : decode cX8_restore 27 = .ok (.aload_n 0, 1) := by decide +kernel
theorem dX8_restore_28 : decode cX8_restore 28 = .ok (.getfield 33, 3) := by decide +kernel
theorem dX8_restore_31 : decode cX8_restore 31 = .ok (.iload_n 2, 1) := by decide +kernel
theorem dX8_restore_32 : decode cX8_restore 32 = .ok (.iconst 1, 1) := by decide +kernel
theorem dX8_restore_33 : decode cX8_restore 33 = .ok (.iastore, 1) := by decide +kernel
theorem dX8_restore_34 : decode cX8_restore 34 = .ok (.iconst 0, 1) := by decide +kernel
theorem dX8_restore_35 : decode cX8_restore 35 = .ok (.istore_n 3, 1) := by decide +kernel
theorem dX8_restore_36 : decode cX8_restore 36 = .ok (.iload_n 3, 1) := by decide +kernel
theorem dX8_restore_37 : decode cX8_restore 37 = .ok (.aload_n 0, 1) := by decide +kernel
theorem dX8_restore_38 : decode cX8_restore 38 = .ok (.getfield 130, 3) := by decide +kernel
theorem dX8_restore_41 : decode cX8_restore 41 = .ok (.if_icmp .ge 37, 3) := by decide +kernel
theorem dX8_restore_44 : decode cX8_restore 44 = .ok (.aload_n 0, 1) := by decide +kernel
theorem dX8_restore_45 : decode cX8_restore 45 = .ok (.getfield 17, 3) := by decide +kernel
theorem dX8_restore_48 : decode cX8_restore 48 = .ok (.bipush 6, 2) := by decide +kernel
theorem dX8_restore_50 : decode cX8_restore 50 = .ok (.iload_n 2, 1) := by decide +kernel
theorem dX8_restore_51 : decode cX8_restore 51 = .ok (.imul, 1) := by decide +kernel
theorem dX8_restore_52 : decode cX8_restore 52 = .ok (.iload_n 3, 1) := by decide +kernel
theorem dX8_restore_53 : decode cX8_restore 53 = .ok (.iadd, 1) := by decide +kernel
theorem dX8_restore_54 : decode cX8_restore 54 = .ok (.aload_n 0, 1) := by decide +kernel
theorem dX8_restore_55 : decode cX8_restore 55 = .ok (.getfield 69, 3) := by decide +kernel
theorem dX8_restore_58 : decode cX8_restore 58 = .ok (.sipush 600, 3) := by decide +kernel
theorem dX8_restore_61 : decode cX8_restore 61 = .ok (.iload_n 1, 1) := by decide +kernel
theorem dX8_restore_62 : decode cX8_restore 62 = .ok (.imul, 1) := by decide +kernel
theorem dX8_restore_63 : decode cX8_restore 63 = .ok (.bipush 6, 2) := by decide +kernel
theorem dX8_restore_65 : decode cX8_restore 65 = .ok (.iload_n 2, 1) := by decide +kernel
theorem dX8_restore_66 : decode cX8_restore 66 = .ok (.imul, 1) := by decide +kernel
theorem dX8_restore_67 : decode cX8_restore 67 = .ok (.iadd, 1) := by decide +kernel
theorem dX8_restore_68 : decode cX8_restore 68 = .ok (.iload_n 3, 1) := by decide +kernel
theorem dX8_restore_69 : decode cX8_restore 69 = .ok (.iadd, 1) := by decide +kernel
theorem dX8_restore_70 : decode cX8_restore 70 = .ok (.laload, 1) := by decide +kernel
theorem dX8_restore_71 : decode cX8_restore 71 = .ok (.lastore, 1) := by decide +kernel
theorem dX8_restore_72 : decode cX8_restore 72 = .ok (.iinc 3 1, 3) := by decide +kernel
theorem dX8_restore_75 : decode cX8_restore 75 = .ok (.goto (-39), 3) := by decide +kernel
theorem dX8_restore_78 : decode cX8_restore 78 = .ok (.aload_n 0, 1) := by decide +kernel
theorem dX8_restore_79 : decode cX8_restore 79 = .ok (.getfield 21, 3) := by decide +kernel
theorem dX8_restore_82 : decode cX8_restore 82 = .ok (.iload_n 2, 1) := by decide +kernel
theorem dX8_restore_83 : decode cX8_restore 83 = .ok (.iconst (-1), 1) := by decide +kernel
theorem dX8_restore_84 : decode cX8_restore 84 = .ok (.iastore, 1) := by decide +kernel
theorem dX8_restore_85 : decode cX8_restore 85 = .ok (.aload_n 0, 1) := by decide +kernel
theorem dX8_restore_86 : decode cX8_restore 86 = .ok (.getfield 24, 3) := by decide +kernel
theorem dX8_restore_89 : decode cX8_restore 89 = .ok (.iload_n 2, 1) := by decide +kernel
theorem dX8_restore_90 : decode cX8_restore 90 = .ok (.aload_n 0, 1) := by decide +kernel
theorem dX8_restore_91 : decode cX8_restore 91 = .ok (.getfield 72, 3) := by decide +kernel
theorem dX8_restore_94 : decode cX8_restore 94 = .ok (.bipush 100, 2) := by decide +kernel
theorem dX8_restore_96 : decode cX8_restore 96 = .ok (.iload_n 1, 1) := by decide +kernel
theorem dX8_restore_97 : decode cX8_restore 97 = .ok (.imul, 1) := by decide +kernel
theorem dX8_restore_98 : decode cX8_restore 98 = .ok (.iload_n 2, 1) := by decide +kernel
theorem dX8_restore_99 : decode cX8_restore 99 = .ok (.iadd, 1) := by decide +kernel
theorem dX8_restore_100 : decode cX8_restore 100 = .ok (.iaload, 1) := by decide +kernel
theorem dX8_restore_101 : decode cX8_restore 101 = .ok (.iastore, 1) := by decide +kernel
theorem dX8_restore_102 : decode cX8_restore 102 = .ok (.aload_n 0, 1) := by decide +kernel
theorem dX8_restore_103 : decode cX8_restore 103 = .ok (.getfield 27, 3) := by decide +kernel
theorem dX8_restore_106 : decode cX8_restore 106 = .ok (.iload_n 2, 1) := by decide +kernel
theorem dX8_restore_107 : decode cX8_restore 107 = .ok (.aload_n 0, 1) := by decide +kernel
theorem dX8_restore_108 : decode cX8_restore 108 = .ok (.getfield 75, 3) := by decide +kernel
theorem dX8_restore_111 : decode cX8_restore 111 = .ok (.bipush 100, 2) := by decide +kernel
theorem dX8_restore_113 : decode cX8_restore 113 = .ok (.iload_n 1, 1) := by decide +kernel
theorem dX8_restore_114 : decode cX8_restore 114 = .ok (.imul, 1) := by decide +kernel
theorem dX8_restore_115 : decode cX8_restore 115 = .ok (.iload_n 2, 1) := by decide +kernel
theorem dX8_restore_116 : decode cX8_restore 116 = .ok (.iadd, 1) := by decide +kernel
theorem dX8_restore_117 : decode cX8_restore 117 = .ok (.baload, 1) := by decide +kernel
theorem dX8_restore_118 : decode cX8_restore 118 = .ok (.bastore, 1) := by decide +kernel
theorem dX8_restore_119 : decode cX8_restore 119 = .ok (.aload_n 0, 1) := by decide +kernel
theorem dX8_restore_120 : decode cX8_restore 120 = .ok (.getfield 30, 3) := by decide +kernel
theorem dX8_restore_123 : decode cX8_restore 123 = .ok (.iload_n 2, 1) := by decide +kernel
theorem dX8_restore_124 : decode cX8_restore 124 = .ok (.iconst 0, 1) := by decide +kernel
theorem dX8_restore_125 : decode cX8_restore 125 = .ok (.bastore, 1) := by decide +kernel
theorem dX8_restore_126 : decode cX8_restore 126 = .ok (.iinc 2 1, 3) := by decide +kernel
theorem dX8_restore_129 : decode cX8_restore 129 = .ok (.goto (-108), 3) := by decide +kernel
theorem dX8_restore_132 : decode cX8_restore 132 = .ok (.aload_n 0, 1) := by decide +kernel
theorem dX8_restore_133 : decode cX8_restore 133 = .ok (.aload_n 0, 1) := by decide +kernel
theorem dX8_restore_134 : decode cX8_restore 134 = .ok (.getfield 78, 3) := by decide +kernel
theorem dX8_restore_137 : decode cX8_restore 137 = .ok (.iload_n 1, 1) := by decide +kernel
theorem dX8_restore_138 : decode cX8_restore 138 = .ok (.iaload, 1) := by decide +kernel
theorem dX8_restore_139 : decode cX8_restore 139 = .ok (.putfield 158, 3) := by decide +kernel
theorem dX8_restore_142 : decode cX8_restore 142 = .ok (.iconst 0, 1) := by decide +kernel
theorem dX8_restore_143 : decode cX8_restore 143 = .ok (.istore_n 2, 1) := by decide +kernel
theorem dX8_restore_144 : decode cX8_restore 144 = .ok (.iload_n 2, 1) := by decide +kernel
theorem dX8_restore_145 : decode cX8_restore 145 = .ok (.aload_n 0, 1) := by decide +kernel
theorem dX8_restore_146 : decode cX8_restore 146 = .ok (.getfield 158, 3) := by decide +kernel
theorem dX8_restore_149 : decode cX8_restore 149 = .ok (.if_icmp .ge 43, 3) := by decide +kernel
theorem dX8_restore_152 : decode cX8_restore 152 = .ok (.aload_n 0, 1) := by decide +kernel
theorem dX8_restore_153 : decode cX8_restore 153 = .ok (.getfield 48, 3) := by decide +kernel
theorem dX8_restore_156 : decode cX8_restore 156 = .ok (.iload_n 2, 1) := by decide +kernel
theorem dX8_restore_157 : decode cX8_restore 157 = .ok (.aload_n 0, 1) := by decide +kernel
theorem dX8_restore_158 : decode cX8_restore 158 = .ok (.getfield 81, 3) := by decide +kernel
theorem dX8_restore_161 : decode cX8_restore 161 = .ok (.bipush 60, 2) := by decide +kernel
theorem dX8_restore_163 : decode cX8_restore 163 = .ok (.iload_n 1, 1) := by decide +kernel
theorem dX8_restore_164 : decode cX8_restore 164 = .ok (.imul, 1) := by decide +kernel
theorem dX8_restore_165 : decode cX8_restore 165 = .ok (.iload_n 2, 1) := by decide +kernel
theorem dX8_restore_166 : decode cX8_restore 166 = .ok (.iadd, 1) := by decide +kernel
theorem dX8_restore_167 : decode cX8_restore 167 = .ok (.iaload, 1) := by decide +kernel
theorem dX8_restore_168 : decode cX8_restore 168 = .ok (.iastore, 1) := by decide +kernel
theorem dX8_restore_169 : decode cX8_restore 169 = .ok (.aload_n 0, 1) := by decide +kernel
theorem dX8_restore_170 : decode cX8_restore 170 = .ok (.getfield 51, 3) := by decide +kernel
theorem dX8_restore_173 : decode cX8_restore 173 = .ok (.iload_n 2, 1) := by decide +kernel
theorem dX8_restore_174 : decode cX8_restore 174 = .ok (.aload_n 0, 1) := by decide +kernel
theorem dX8_restore_175 : decode cX8_restore 175 = .ok (.getfield 84, 3) := by decide +kernel
theorem dX8_restore_178 : decode cX8_restore 178 = .ok (.bipush 60, 2) := by decide +kernel
theorem dX8_restore_180 : decode cX8_restore 180 = .ok (.iload_n 1, 1) := by decide +kernel
theorem dX8_restore_181 : decode cX8_restore 181 = .ok (.imul, 1) := by decide +kernel
theorem dX8_restore_182 : decode cX8_restore 182 = .ok (.iload_n 2, 1) := by decide +kernel
theorem dX8_restore_183 : decode cX8_restore 183 = .ok (.iadd, 1) := by decide +kernel
theorem dX8_restore_184 : decode cX8_restore 184 = .ok (.iaload, 1) := by decide +kernel
theorem dX8_restore_185 : decode cX8_restore 185 = .ok (.iastore, 1) := by decide +kernel
theorem dX8_restore_186 : decode cX8_restore 186 = .ok (.iinc 2 1, 3) := by decide +kernel
theorem dX8_restore_189 : decode cX8_restore 189 = .ok (.goto (-45), 3) := by decide +kernel
theorem dX8_restore_192 : decode cX8_restore 192 = .ok (.aload_n 0, 1) := by decide +kernel
theorem dX8_restore_193 : decode cX8_restore 193 = .ok (.aload_n 0, 1) := by decide +kernel
theorem dX8_restore_194 : decode cX8_restore 194 = .ok (.getfield 87, 3) := by decide +kernel
theorem dX8_restore_197 : decode cX8_restore 197 = .ok (.iload_n 1, 1) := by decide +kernel
theorem dX8_restore_198 : decode cX8_restore 198 = .ok (.iaload, 1) := by decide +kernel
theorem dX8_restore_199 : decode cX8_restore 199 = .ok (.putfield 161, 3) := by decide +kernel
theorem dX8_restore_202 : decode cX8_restore 202 = .ok (.iconst 0, 1) := by decide +kernel
theorem dX8_restore_203 : decode cX8_restore 203 = .ok (.istore_n 2, 1) := by decide +kernel
theorem dX8_restore_204 : decode cX8_restore 204 = .ok (.iload_n 2, 1) := by decide +kernel
theorem dX8_restore_205 : decode cX8_restore 205 = .ok (.aload_n 0, 1) := by decide +kernel
theorem dX8_restore_206 : decode cX8_restore 206 = .ok (.getfield 161, 3) := by decide +kernel
theorem dX8_restore_209 : decode cX8_restore 209 = .ok (.if_icmp .ge 43, 3) := by decide +kernel
theorem dX8_restore_212 : decode cX8_restore 212 = .ok (.aload_n 0, 1) := by decide +kernel
theorem dX8_restore_213 : decode cX8_restore 213 = .ok (.getfield 54, 3) := by decide +kernel
theorem dX8_restore_216 : decode cX8_restore 216 = .ok (.iload_n 2, 1) := by decide +kernel
theorem dX8_restore_217 : decode cX8_restore 217 = .ok (.aload_n 0, 1) := by decide +kernel
theorem dX8_restore_218 : decode cX8_restore 218 = .ok (.getfield 90, 3) := by decide +kernel
theorem dX8_restore_221 : decode cX8_restore 221 = .ok (.bipush 40, 2) := by decide +kernel
theorem dX8_restore_223 : decode cX8_restore 223 = .ok (.iload_n 1, 1) := by decide +kernel
theorem dX8_restore_224 : decode cX8_restore 224 = .ok (.imul, 1) := by decide +kernel
theorem dX8_restore_225 : decode cX8_restore 225 = .ok (.iload_n 2, 1) := by decide +kernel
theorem dX8_restore_226 : decode cX8_restore 226 = .ok (.iadd, 1) := by decide +kernel
theorem dX8_restore_227 : decode cX8_restore 227 = .ok (.iaload, 1) := by decide +kernel
theorem dX8_restore_228 : decode cX8_restore 228 = .ok (.iastore, 1) := by decide +kernel
theorem dX8_restore_229 : decode cX8_restore 229 = .ok (.aload_n 0, 1) := by decide +kernel
theorem dX8_restore_230 : decode cX8_restore 230 = .ok (.getfield 57, 3) := by decide +kernel
theorem dX8_restore_233 : decode cX8_restore 233 = .ok (.iload_n 2, 1) := by decide +kernel
theorem dX8_restore_234 : decode cX8_restore 234 = .ok (.aload_n 0, 1) := by decide +kernel
theorem dX8_restore_235 : decode cX8_restore 235 = .ok (.getfield 93, 3) := by decide +kernel
theorem dX8_restore_238 : decode cX8_restore 238 = .ok (.bipush 40, 2) := by decide +kernel
theorem dX8_restore_240 : decode cX8_restore 240 = .ok (.iload_n 1, 1) := by decide +kernel
theorem dX8_restore_241 : decode cX8_restore 241 = .ok (.imul, 1) := by decide +kernel
theorem dX8_restore_242 : decode cX8_restore 242 = .ok (.iload_n 2, 1) := by decide +kernel
theorem dX8_restore_243 : decode cX8_restore 243 = .ok (.iadd, 1) := by decide +kernel
theorem dX8_restore_244 : decode cX8_restore 244 = .ok (.iaload, 1) := by decide +kernel
theorem dX8_restore_245 : decode cX8_restore 245 = .ok (.iastore, 1) := by decide +kernel
theorem dX8_restore_246 : decode cX8_restore 246 = .ok (.iinc 2 1, 3) := by decide +kernel
theorem dX8_restore_249 : decode cX8_restore 249 = .ok (.goto (-45), 3) := by decide +kernel
theorem dX8_restore_252 : decode cX8_restore 252 = .ok (.aload_n 0, 1) := by decide +kernel
theorem dX8_restore_253 : decode cX8_restore 253 = .ok (.aload_n 0, 1) := by decide +kernel
theorem dX8_restore_254 : decode cX8_restore 254 = .ok (.getfield 96, 3) := by decide +kernel
theorem dX8_restore_257 : decode cX8_restore 257 = .ok (.iload_n 1, 1) := by decide +kernel
theorem dX8_restore_258 : decode cX8_restore 258 = .ok (.iaload, 1) := by decide +kernel
theorem dX8_restore_259 : decode cX8_restore 259 = .ok (.putfield 151, 3) := by decide +kernel
theorem dX8_restore_262 : decode cX8_restore 262 = .ok (.aload_n 0, 1) := by decide +kernel
theorem dX8_restore_263 : decode cX8_restore 263 = .ok (.aload_n 0, 1) := by decide +kernel
theorem dX8_restore_264 : decode cX8_restore 264 = .ok (.getfield 99, 3) := by decide +kernel
theorem dX8_restore_267 : decode cX8_restore 267 = .ok (.iload_n 1, 1) := by decide +kernel
theorem dX8_restore_268 : decode cX8_restore 268 = .ok (.iaload, 1) := by decide +kernel
theorem dX8_restore_269 : decode cX8_restore 269 = .ok (.putfield 133, 3) := by decide +kernel
theorem dX8_restore_272 : decode cX8_restore 272 = .ok (.aload_n 0, 1) := by decide +kernel
theorem dX8_restore_273 : decode cX8_restore 273 = .ok (.aload_n 0, 1) := by decide +kernel
theorem dX8_restore_274 : decode cX8_restore 274 = .ok (.getfield 102, 3) := by decide +kernel
theorem dX8_restore_277 : decode cX8_restore 277 = .ok (.iload_n 1, 1) := by decide +kernel
theorem dX8_restore_278 : decode cX8_restore 278 = .ok (.iaload, 1) := by decide +kernel
theorem dX8_restore_279 : decode cX8_restore 279 = .ok (.putfield 145, 3) := by decide +kernel
theorem dX8_restore_282 : decode cX8_restore 282 = .ok (.aload_n 0, 1) := by decide +kernel
theorem dX8_restore_283 : decode cX8_restore 283 = .ok (.aload_n 0, 1) := by decide +kernel
theorem dX8_restore_284 : decode cX8_restore 284 = .ok (.getfield 105, 3) := by decide +kernel
theorem dX8_restore_287 : decode cX8_restore 287 = .ok (.iload_n 1, 1) := by decide +kernel
theorem dX8_restore_288 : decode cX8_restore 288 = .ok (.laload, 1) := by decide +kernel
theorem dX8_restore_289 : decode cX8_restore 289 = .ok (.putfield 154, 3) := by decide +kernel
theorem dX8_restore_292 : decode cX8_restore 292 = .ok (.aload_n 0, 1) := by decide +kernel
theorem dX8_restore_293 : decode cX8_restore 293 = .ok (.invokevirtual 171, 3) := by decide +kernel
theorem dX8_restore_296 : decode cX8_restore 296 = .ok (.aload_n 0, 1) := by decide +kernel
theorem dX8_restore_297 : decode cX8_restore 297 = .ok (.getfield 133, 3) := by decide +kernel
theorem dX8_restore_300 : decode cX8_restore 300 = .ok (.ireturn, 1) := by decide +kernel
theorem dX8_told_0 : decode cX8_told 0 = .ok (.iload_n 1, 1) := by decide +kernel
theorem dX8_told_1 : decode cX8_told 1 = .ok (.tableswitch 141 0 13 #[71, 76, 81, 86, 91, 96, 101, 106, 111, 116, 121, 126, 131, 136], 71) := by decide +kernel
theorem dX8_told_72 : decode cX8_told 72 = .ok (.aload_n 0, 1) := by decide +kernel
theorem dX8_told_73 : decode cX8_told 73 = .ok (.getfield 133, 3) := by decide +kernel
theorem dX8_told_76 : decode cX8_told 76 = .ok (.ireturn, 1) := by decide +kernel
theorem dX8_told_77 : decode cX8_told 77 = .ok (.aload_n 0, 1) := by decide +kernel
theorem dX8_told_78 : decode cX8_told 78 = .ok (.getfield 180, 3) := by decide +kernel
theorem dX8_told_81 : decode cX8_told 81 = .ok (.ireturn, 1) := by decide +kernel
theorem dX8_told_82 : decode cX8_told 82 = .ok (.aload_n 0, 1) := by decide +kernel
theorem dX8_told_83 : decode cX8_told 83 = .ok (.getfield 136, 3) := by decide +kernel
theorem dX8_told_86 : decode cX8_told 86 = .ok (.ireturn, 1) := by decide +kernel
theorem dX8_told_87 : decode cX8_told 87 = .ok (.aload_n 0, 1) := by decide +kernel
theorem dX8_told_88 : decode cX8_told 88 = .ok (.getfield 139, 3) := by decide +kernel
theorem dX8_told_91 : decode cX8_told 91 = .ok (.ireturn, 1) := by decide +kernel
theorem dX8_told_92 : decode cX8_told 92 = .ok (.aload_n 0, 1) := by decide +kernel
theorem dX8_told_93 : decode cX8_told 93 = .ok (.getfield 142, 3) := by decide +kernel
theorem dX8_told_96 : decode cX8_told 96 = .ok (.ireturn, 1) := by decide +kernel
theorem dX8_told_97 : decode cX8_told 97 = .ok (.aload_n 0, 1) := by decide +kernel
theorem dX8_told_98 : decode cX8_told 98 = .ok (.getfield 145, 3) := by decide +kernel
theorem dX8_told_101 : decode cX8_told 101 = .ok (.ireturn, 1) := by decide +kernel
theorem dX8_told_102 : decode cX8_told 102 = .ok (.aload_n 0, 1) := by decide +kernel
theorem dX8_told_103 : decode cX8_told 103 = .ok (.getfield 148, 3) := by decide +kernel
theorem dX8_told_106 : decode cX8_told 106 = .ok (.ireturn, 1) := by decide +kernel
theorem dX8_told_107 : decode cX8_told 107 = .ok (.aload_n 0, 1) := by decide +kernel
theorem dX8_told_108 : decode cX8_told 108 = .ok (.getfield 161, 3) := by decide +kernel
theorem dX8_told_111 : decode cX8_told 111 = .ok (.ireturn, 1) := by decide +kernel
theorem dX8_told_112 : decode cX8_told 112 = .ok (.aload_n 0, 1) := by decide +kernel
theorem dX8_told_113 : decode cX8_told 113 = .ok (.getfield 151, 3) := by decide +kernel
theorem dX8_told_116 : decode cX8_told 116 = .ok (.ireturn, 1) := by decide +kernel
theorem dX8_told_117 : decode cX8_told 117 = .ok (.aload_n 0, 1) := by decide +kernel
theorem dX8_told_118 : decode cX8_told 118 = .ok (.invokevirtual 279, 3) := by decide +kernel
theorem dX8_told_121 : decode cX8_told 121 = .ok (.ireturn, 1) := by decide +kernel
theorem dX8_told_122 : decode cX8_told 122 = .ok (.aload_n 0, 1) := by decide +kernel
theorem dX8_told_123 : decode cX8_told 123 = .ok (.getfield 130, 3) := by decide +kernel
theorem dX8_told_126 : decode cX8_told 126 = .ok (.ireturn, 1) := by decide +kernel
theorem dX8_told_127 : decode cX8_told 127 = .ok (.aload_n 0, 1) := by decide +kernel
theorem dX8_told_128 : decode cX8_told 128 = .ok (.getfield 164, 3) := by decide +kernel
theorem dX8_told_131 : decode cX8_told 131 = .ok (.ireturn, 1) := by decide +kernel
theorem dX8_told_132 : decode cX8_told 132 = .ok (.aload_n 0, 1) := by decide +kernel
theorem dX8_told_133 : decode cX8_told 133 = .ok (.invokevirtual 213, 3) := by decide +kernel
theorem dX8_told_136 : decode cX8_told 136 = .ok (.ireturn, 1) := by decide +kernel
theorem dX8_told_137 : decode cX8_told 137 = .ok (.aload_n 0, 1) := by decide +kernel
theorem dX8_told_138 : decode cX8_told 138 = .ok (.getfield 158, 3) := by decide +kernel
theorem dX8_told_141 : decode cX8_told 141 = .ok (.ireturn, 1) := by decide +kernel
theorem dX8_told_142 : decode cX8_told 142 = .ok (.bipush (-102), 2) := by decide +kernel
theorem dX8_told_144 : decode cX8_told 144 = .ok (.ireturn, 1) := by decide +kernel
theorem dX8_clear_0 : decode cX8_clear 0 = .ok (.aload_n 0, 1) := by decide +kernel
theorem dX8_clear_1 : decode cX8_clear 1 = .ok (.getfield 133, 3) := by decide +kernel
theorem dX8_clear_4 : decode cX8_clear 4 = .ok (.istore_n 1, 1) := by decide +kernel
theorem dX8_clear_5 : decode cX8_clear 5 = .ok (.aload_n 0, 1) := by decide +kernel
theorem dX8_clear_6 : decode cX8_clear 6 = .ok (.invokevirtual 111, 3) := by decide +kernel
theorem dX8_clear_9 : decode cX8_clear 9 = .ok (.iload_n 1, 1) := by decide +kernel
theorem dX8_clear_10 : decode cX8_clear 10 = .ok (.ireturn, 1) := by decide +kernel
end
section
/-! base: ONE list of words for all methods; nest words; worlds at calls -/
def hk_all : List Cond := lw_tbl.filter goodWord
theorem hk_in {w : Cond} (i : Nat) (h : lw_tbl[i]? = some w) (g : goodWord w = true) : w ∈ hk_all := List.mem_filter.mpr ⟨List.mem_of_getElem? h, g⟩
theorem hk_gw {w : Cond} (h : w ∈ hk_all) : goodWord w = true := (List.mem_filter.mp h).2
abbrev hk_ws (y : MethodName) (b : ByteArray) (n : Nat) (r : Option FieldType) : List Cond := Cond.code y b n r :: hk_all
theorem hk_goodIn {c1 : Cond} (h : c1 ∈ hk_all) : GoodIn hk_all (c1 :: hk_all) := by
  intro w hw
  rcases List.mem_cons.mp hw with rfl | hw
  · exact ⟨h, good_of_word (hk_gw h)⟩
  · exact ⟨hw, good_of_word (hk_gw hw)⟩
def hk_isNest : Cond → Bool
  | .fieldLinkNest _ _ _ _ _ _ => true
  | .methodLinkNest _ _ _ _ => true
  | _ => false
def hk_nest : List Cond := lw_tbl.filter hk_isNest
theorem hk_nin {w : Cond} (i : Nat) (h : lw_tbl[i]? = some w) (g : hk_isNest w = true) : w ∈ hk_nest := List.mem_filter.mpr ⟨List.mem_of_getElem? h, g⟩
/-- the nest words, and that arrays of marks can be -/
def hk_N (U : State) : Prop := (∀ w ∈ hk_nest, va_Nw w U) ∧ va_AO RX4 U
theorem hk_N.warm {s U : State} (hW : s.WarmedH U.vm) (h : hk_N s) : hk_N U := by
  refine ⟨fun w hw => ?_, h.2.moved hW.alike⟩
  have hz := h.1 w hw
  have hb := (List.mem_filter.mp hw).2
  cases w <;> first | (simp [hk_isNest] at hb; done) | exact va_Nw.warmF hW hz | exact va_Nw.warmM hW hz
theorem hk_N.same {u U : State} (hvm : u.vm = U.vm) (h : hk_N u) : hk_N U := by
  refine ⟨fun w hw => ?_, h.2.moved (by rw [hvm]; exact Vm.Alike.refl _)⟩
  have hz := h.1 w hw
  have hb := (List.mem_filter.mp hw).2
  cases w <;> first | (simp [hk_isNest] at hb; done) | exact va_Nw.same rfl hvm hz
abbrev hk_rm (f n : Nat) : Room := { frames := f, cells := 0, slots := 0, locals := n }
abbrev hk_rc (f n mc ms : Nat) : Room := { frames := f, cells := mc, slots := ms, locals := n }
abbrev hk_ty (cI cJ cZ cM : ClassId) : List (ClassId × FieldType) := [(cI, .int), (cJ, .long), (cZ, .boolean), (cM, .object RX4)]
def hk_PR (D : va_G) (ty : List (ClassId × FieldType)) (ws : va_W) (U : State) : Prop := va_P D vwCl ws U.heap ∧ va_K D vwCl ty U ∧ hk_N U
def hk_PM (D : va_G) (ty : List (ClassId × FieldType)) (sz : Nat) (ws : va_W) (U : State) : Prop := U.heap.size = sz ∧ va_P D vwCl ws U.heap ∧ va_K D vwCl ty U ∧ va_D (fun _ => True) ws ∧ hk_N U
def hk_B (D : va_G) (A : Nat → Prop) {S : Type} (w1 : S → va_W) (u : S) (t : State) : Prop := va_P D vwCl (w1 u) t.heap ∧ va_D A (w1 u)
theorem hk_blR {D : va_G} {ty : List (ClassId × FieldType)} {ws : va_W} {av : List Value} : FrameBlind (va_Pc av (hk_PR D ty ws)) := by
  intro a U g mk q
  obtain ⟨q0, qP, qK, qN⟩ := q
  exact ⟨q0, qP, va_K.moved (u := U) (U := U.calling g mk a) (Vm.Alike.refl U.vm) qK, hk_N.same (u := U) (U := U.calling g mk a) rfl qN⟩
theorem hk_blM {D : va_G} {ty : List (ClassId × FieldType)} {sz : Nat} {ws : va_W} {av : List Value} : FrameBlind (va_Pc av (hk_PM D ty sz ws)) := by
  intro a U g mk q
  obtain ⟨q0, q1, qP, qK, qD, qN⟩ := q
  exact ⟨q0, q1, qP, va_K.moved (u := U) (U := U.calling g mk a) (Vm.Alike.refl U.vm) qK, qD, hk_N.same (u := U) (U := U.calling g mk a) rfl qN⟩
theorem hk_atR {D : va_G} {ty : List (ClassId × FieldType)} {ws : va_W} {s : State} {H : Heap} (hP : va_P D vwCl ws H) (hK : va_K D vwCl ty s) (hN : hk_N s) : ∀ U : State, U.heap = H → s.WarmedH U.vm → hk_PR D ty ws U := fun U hU hW => ⟨by rw [hU]; exact hP, va_K.moved hW.alike hK, hN.warm hW⟩
theorem hk_atM {D : va_G} {ty : List (ClassId × FieldType)} {ws : va_W} {s : State} {H : Heap} {A : Nat → Prop} (hP : va_P D vwCl ws H) (hK : va_K D vwCl ty s) (hD : va_D A ws) (hN : hk_N s) : ∀ U : State, U.heap = H → s.WarmedH U.vm → hk_PM D ty H.size ws U := fun U hU hW => ⟨by rw [hU], by rw [hU]; exact hP, va_K.moved hW.alike hK, hD.weaken (fun _ _ _ _ => trivial), hN.warm hW⟩
def hk_MV (y : MethodName) (b : ByteArray) (n : Nat) (r : Option FieldType) (np : Nat) : Prop := Cond.code y b n r ∈ hk_all ∧ Cond.instanceMethod y ∈ hk_all ∧ Cond.selects y.cls y y ∈ hk_all ∧ Cond.initialized y.cls ∈ hk_all ∧ (y.cls ≠ "java/lang/invoke/MethodHandle" ∧ y.cls ≠ "java/lang/invoke/VarHandle" ∧ (parseMethodDescriptor y.desc).map (fun d => d.parameters.length) = some np)
def hk_MS (y : MethodName) (b : ByteArray) (n : Nat) (r : Option FieldType) (np : Nat) : Prop := Cond.code y b n r ∈ hk_all ∧ Cond.static y ∈ hk_all ∧ Cond.initialized y.cls ∈ hk_all ∧ (y.cls ≠ "java/lang/invoke/MethodHandle" ∧ y.cls ≠ "java/lang/invoke/VarHandle" ∧ (parseMethodDescriptor y.desc).map (fun d => d.parameters.length) = some np)
def hk_MI (y : MethodName) (b : ByteArray) (n : Nat) (np : Nat) : Prop := Cond.code y b n none ∈ hk_all ∧ Cond.instanceMethod y ∈ hk_all ∧ Cond.initialized y.cls ∈ hk_all ∧ y.name = "<init>" ∧ (y.cls ≠ "java/lang/invoke/MethodHandle" ∧ y.cls ≠ "java/lang/invoke/VarHandle" ∧ (parseMethodDescriptor y.desc).map (fun d => d.parameters.length) = some np)
def hk_fit (R rm : Room) (maxL mc ms : Nat) : Prop := rm.cells = mc ∧ rm.slots = ms ∧ rm.frames + 1 ≤ R.frames ∧ 8 + (maxL + 11) + rm.locals ≤ R.locals
section HKR
variable {p : Program} {l : Launch} {e : Env} {R : Room} {s : State} {m : MethodId} {args : Array Value} {below : List Frame} {meth : Method} {c : Code} {H : Heap} {locs : List Loc} {cells slots : Nat} {Q : State → Prop}
variable {y : MethodName} {bytes cc : ByteArray} {maxL nL mc ms n index pc : Nat} {ret : Option FieldType} {rm : Room} {Qc : Array Value → State → Outcome → State → Prop} {free : Addr → Prop} {own host : String} {b : Addr} {As rest st0 : List Value} {ls : Array Slot} {PB : State → Prop}
theorem hk_runV (S : CallFix p m c cc nL s args hk_all own) (mv : hk_MV y bytes maxL ret n) (hM : Met l y (hk_ws y bytes maxL ret) rm (va_Pc (.ref b :: As) PB) Qc mc ms free) (hlk : Cond.methodLink own index y ∈ hk_all) (hbl : FrameBlind (va_Pc (.ref b :: As) PB)) (hpb : ∀ U : State, U.heap = H → s.WarmedH U.vm → PB U) (hrv : ∃ cellB : Cell, H[b]? = some cellB ∧ cellB.vm.isStatics = false ∧ s.vm.findClass y.cls = some cellB.cls) (hrm : hk_fit R rm maxL mc ms) (hn : As.length = n) (hsz : ls.size = nL) (hst : st0 = As.reverse ++ .ref b :: rest) (hW : (rest.map fun v => v.category).sum ≤ 8) (hdg : decode cc pc = .ok (.invokevirtual index, 3)) (hf : cells + mc ≤ R.cells ∧ slots + ms ≤ R.slots) : va_Run p l e R s m args below meth c H locs cells slots mc ms (F0 m pc ls st0) rest (Qc (Value.ref b :: As).toArray) free := by
  obtain ⟨h1, h2, h3, h4, h5⟩ := mv
  have hts := S.2.2.2.2
  exact va_runV S hM ⟨callB_of n hts (hk_goodIn h1) rfl hrm.1 hrm.2.1 (hts _ h4) (hts _ hlk) h5 hrm.2.2, hts _ h2, hts _ h3⟩ ⟨hbl, hrv, fun U hU hW => ⟨rfl, hpb U hU hW⟩⟩ rfl hn hsz hst (lv_room hW) hdg hf
theorem hk_runVN (S : CallFix p m c cc nL s args hk_all own) (mv : hk_MV y bytes maxL ret n) (hM : Met l y (hk_ws y bytes maxL ret) rm (va_Pc (.ref b :: As) PB) Qc mc ms free) (hlk : va_Nw (.methodLinkNest own index y host) s) (hbl : FrameBlind (va_Pc (.ref b :: As) PB)) (hpb : ∀ U : State, U.heap = H → s.WarmedH U.vm → PB U) (hrv : ∃ cellB : Cell, H[b]? = some cellB ∧ cellB.vm.isStatics = false ∧ s.vm.findClass y.cls = some cellB.cls) (hrm : hk_fit R rm maxL mc ms) (hn : As.length = n) (hsz : ls.size = nL) (hst : st0 = As.reverse ++ .ref b :: rest) (hW : (rest.map fun v => v.category).sum ≤ 8) (hdg : decode cc pc = .ok (.invokevirtual index, 3)) (hf : cells + mc ≤ R.cells ∧ slots + ms ≤ R.slots) : va_Run p l e R s m args below meth c H locs cells slots mc ms (F0 m pc ls st0) rest (Qc (Value.ref b :: As).toArray) free := by
  obtain ⟨h1, h2, h3, h4, h5⟩ := mv
  have hts := S.2.2.2.2
  exact va_runVN S hM ⟨va_cnB n hts (hk_goodIn h1) rfl hrm.1 hrm.2.1 hlk (hts _ h4) h5 hrm.2.2, hts _ h2, hts _ h3⟩ ⟨hbl, hrv, fun U hU hW => ⟨rfl, hpb U hU hW⟩⟩ rfl hn hsz hst (lv_room hW) hdg hf
theorem hk_runS (S : CallFix p m c cc nL s args hk_all own) (mv : hk_MS y bytes maxL ret n) (hM : Met l y (hk_ws y bytes maxL ret) rm (va_Pc As PB) Qc mc ms free) (hlk : Cond.methodLink own index y ∈ hk_all) (hbl : FrameBlind (va_Pc As PB)) (hpb : ∀ U : State, U.heap = H → s.WarmedH U.vm → PB U) (hrm : hk_fit R rm maxL mc ms) (hn : As.length = n) (hsz : ls.size = nL) (hst : st0 = As.reverse ++ rest) (hW : (rest.map fun v => v.category).sum ≤ 8) (hdg : decode cc pc = .ok (.invokestatic index, 3)) (hf : cells + mc ≤ R.cells ∧ slots + ms ≤ R.slots) : va_Run p l e R s m args below meth c H locs cells slots mc ms (F0 m pc ls st0) rest (Qc As.toArray) free := by
  obtain ⟨h1, h2, h4, h5⟩ := mv
  have hts := S.2.2.2.2
  exact va_runS S hM ⟨callB_of n hts (hk_goodIn h1) rfl hrm.1 hrm.2.1 (hts _ h4) (hts _ hlk) h5 hrm.2.2, hts _ h2⟩ ⟨hbl, fun U hU hW => ⟨rfl, hpb U hU hW⟩⟩ rfl hn hsz hst (lv_room hW) hdg hf
theorem hk_runSN (S : CallFix p m c cc nL s args hk_all own) (mv : hk_MS y bytes maxL ret n) (hM : Met l y (hk_ws y bytes maxL ret) rm (va_Pc As PB) Qc mc ms free) (hlk : va_Nw (.methodLinkNest own index y host) s) (hbl : FrameBlind (va_Pc As PB)) (hpb : ∀ U : State, U.heap = H → s.WarmedH U.vm → PB U) (hrm : hk_fit R rm maxL mc ms) (hn : As.length = n) (hsz : ls.size = nL) (hst : st0 = As.reverse ++ rest) (hW : (rest.map fun v => v.category).sum ≤ 8) (hdg : decode cc pc = .ok (.invokestatic index, 3)) (hf : cells + mc ≤ R.cells ∧ slots + ms ≤ R.slots) : va_Run p l e R s m args below meth c H locs cells slots mc ms (F0 m pc ls st0) rest (Qc As.toArray) free := by
  obtain ⟨h1, h2, h4, h5⟩ := mv
  have hts := S.2.2.2.2
  exact va_runSN S hM ⟨va_cnB n hts (hk_goodIn h1) rfl hrm.1 hrm.2.1 hlk (hts _ h4) h5 hrm.2.2, hts _ h2, trivial⟩ ⟨hbl, fun U hU hW => ⟨rfl, hpb U hU hW⟩⟩ rfl hn hsz hst (lv_room hW) hdg hf
theorem hk_runI (S : CallFix p m c cc nL s args hk_all own) (mv : hk_MI y bytes maxL n) (hM : Met l y (hk_ws y bytes maxL none) rm (va_Pc (.ref b :: As) PB) Qc mc ms free) (hlk : Cond.methodLink own index y ∈ hk_all) (hbl : FrameBlind (va_Pc (.ref b :: As) PB)) (hpb : ∀ U : State, U.heap = H → s.WarmedH U.vm → PB U) (hrm : hk_fit R rm maxL mc ms) (hn : As.length = n) (hsz : ls.size = nL) (hst : st0 = As.reverse ++ .ref b :: rest) (hW : (rest.map fun v => v.category).sum ≤ 8) (hdg : decode cc pc = .ok (.invokespecial index, 3)) (hf : cells + mc ≤ R.cells ∧ slots + ms ≤ R.slots) : va_Run p l e R s m args below meth c H locs cells slots mc ms (F0 m pc ls st0) rest (Qc (Value.ref b :: As).toArray) free := by
  obtain ⟨h1, h2, h4, h6, h5⟩ := mv
  have hts := S.2.2.2.2
  exact va_runI S hM ⟨callB_of n hts (hk_goodIn h1) rfl hrm.1 hrm.2.1 (hts _ h4) (hts _ hlk) h5 hrm.2.2, h6, hts _ h2⟩ ⟨hbl, fun U hU hW => ⟨rfl, hpb U hU hW⟩⟩ rfl hn hsz hst (lv_room hW) hdg hf
theorem hk_runIN (S : CallFix p m c cc nL s args hk_all own) (mv : hk_MI y bytes maxL n) (hM : Met l y (hk_ws y bytes maxL none) rm (va_Pc (.ref b :: As) PB) Qc mc ms free) (hlk : va_Nw (.methodLinkNest own index y host) s) (hbl : FrameBlind (va_Pc (.ref b :: As) PB)) (hpb : ∀ U : State, U.heap = H → s.WarmedH U.vm → PB U) (hrm : hk_fit R rm maxL mc ms) (hn : As.length = n) (hsz : ls.size = nL) (hst : st0 = As.reverse ++ .ref b :: rest) (hW : (rest.map fun v => v.category).sum ≤ 8) (hdg : decode cc pc = .ok (.invokespecial index, 3)) (hf : cells + mc ≤ R.cells ∧ slots + ms ≤ R.slots) : va_Run p l e R s m args below meth c H locs cells slots mc ms (F0 m pc ls st0) rest (Qc (Value.ref b :: As).toArray) free := by
  obtain ⟨h1, h2, h4, h6, h5⟩ := mv
  have hts := S.2.2.2.2
  exact va_runIN S hM ⟨va_cnB n hts (hk_goodIn h1) rfl hrm.1 hrm.2.1 hlk (hts _ h4) h5 hrm.2.2, h6, hts _ h2⟩ ⟨hbl, fun U hU hW => ⟨rfl, hpb U hU hW⟩⟩ rfl hn hsz hst (lv_room hW) hdg hf
end HKR
/-- cells put in other cells' places -/
def hk_repl : va_W → List Nat → va_W → va_W
  | ws, i :: is, c :: cs => hk_repl (ws.set i c) is cs
  | ws, _, _ => ws
theorem hk_repl_get : ∀ (is : List Nat) (w1 ws : va_W) (k : Nat) (q : Nat × va_E), va_nd is = true → is.length = w1.length → (∀ i ∈ is, i < ws.length) → (hk_repl ws is w1)[k]? = some q → (∃ j : Nat, is[j]? = some k ∧ w1[j]? = some q) ∨ (k ∉ is ∧ ws[k]? = some q)
  | [], w1, ws, k, q, _, hl, _, h => by
    cases w1 with
    | nil => exact Or.inr ⟨List.not_mem_nil, h⟩
    | cons a b => simp at hl
  | i :: is, [], ws, k, q, _, hl, _, h => by simp at hl
  | i :: is, c :: cs, ws, k, q, hn, hl, hi, h => by
    simp only [hk_repl] at h
    have hn2 : va_nd is = true ∧ i ∉ is := by
      simp only [va_nd, Bool.and_eq_true] at hn
      refine ⟨hn.2, ?_⟩
      have h1 := hn.1
      simpa using h1
    rcases hk_repl_get is cs (ws.set i c) k q hn2.1 (by simpa using hl) (fun j hj => by rw [List.length_set]; exact hi j (List.mem_cons_of_mem _ hj)) h with ⟨j, h1, h2⟩ | ⟨h1, h2⟩
    · exact Or.inl ⟨j + 1, by simpa using h1, by simpa using h2⟩
    · by_cases hk : k = i
      · subst hk
        rw [List.getElem?_set_self (hi k List.mem_cons_self)] at h2
        exact Or.inl ⟨0, rfl, by simpa using h2⟩
      · rw [List.getElem?_set_ne (Ne.symm hk)] at h2
        refine Or.inr ⟨fun hm => ?_, h2⟩
        rcases List.mem_cons.mp hm with h3 | h3
        · exact hk h3
        · exact h1 h3
theorem hk_join {A : Nat → Prop} {D : va_G} {cl : List vw_C} {ws wc w1 : va_W} {H H1 : Heap} (hP : va_P D cl ws H) (hD : va_D A ws) (isC : List Nat) (hC : isC.map (fun i => ws[i]?) = wc.map some) (hn : va_nd isC = true) (ha : w1.map Prod.fst = wc.map Prod.fst) (hk : ∀ q : Nat, q < H.size → ¬ va_A wc H.size q → H1[q]? = H[q]?) (hP1 : va_P D cl w1 H1) : va_P D cl (hk_repl ws isC w1) H1 ∧ va_D A (hk_repl ws isC w1) := by
  have hl1 : isC.length = wc.length := by have := congrArg List.length hC; simpa using this
  have hl2 : w1.length = wc.length := by have := congrArg List.length ha; simpa using this
  have at' : ∀ (j k : Nat), isC[j]? = some k → ∃ q, wc[j]? = some q ∧ ws[k]? = some q := by
    intro j k hj
    have h1 : (isC.map (fun i => ws[i]?))[j]? = some (ws[k]?) := by rw [List.getElem?_map, hj]; rfl
    rw [hC, List.getElem?_map] at h1
    cases hq : wc[j]? with
    | none => rw [hq] at h1; cases h1
    | some q => rw [hq] at h1; exact ⟨q, rfl, (Option.some.inj h1).symm⟩
  have at1 : ∀ (j : Nat) (q : Nat × va_E), wc[j]? = some q → ∃ k, isC[j]? = some k ∧ ws[k]? = some q := by
    intro j q hq
    have hj : j < isC.length := by rw [hl1]; exact (List.getElem?_eq_some_iff.mp hq).1
    obtain ⟨q2, h1, h2⟩ := at' j isC[j] (List.getElem?_eq_getElem hj)
    have : q2 = q := Option.some.inj (h1.symm.trans hq)
    subst this
    exact ⟨isC[j], List.getElem?_eq_getElem hj, h2⟩
  have hlt : ∀ i ∈ isC, i < ws.length := by
    intro i hi
    obtain ⟨j, hj⟩ := List.getElem?_of_mem hi
    obtain ⟨q, -, h2⟩ := at' j i hj
    exact (List.getElem?_eq_some_iff.mp h2).1
  have addr : ∀ (j : Nat) (q q0 : Nat × va_E), w1[j]? = some q → wc[j]? = some q0 → q.1 = q0.1 := by
    intro j q q0 h1 h2
    have e : (w1.map Prod.fst)[j]? = (wc.map Prod.fst)[j]? := by rw [ha]
    rw [List.getElem?_map, List.getElem?_map, h1, h2] at e
    exact Option.some.inj e
  have old : ∀ (k : Nat) (q : Nat × va_E), (hk_repl ws isC w1)[k]? = some q → ∃ q0, ws[k]? = some q0 ∧ q0.1 = q.1 := by
    intro k q h
    rcases hk_repl_get isC w1 ws k q hn (hl1.trans hl2.symm) hlt h with ⟨j, h1, h2⟩ | ⟨h1, h2⟩
    · obtain ⟨q0, h3, h4⟩ := at' j k h1
      exact ⟨q0, h4, (addr j q q0 h2 h3).symm⟩
    · exact ⟨q, h2, rfl⟩
  refine ⟨fun k q h => ?_, fun i j x z hi hj hxz => ?_, fun k q h => ?_⟩
  · rcases hk_repl_get isC w1 ws k q hn (hl1.trans hl2.symm) hlt h with ⟨j, h1, h2⟩ | ⟨h1, h2⟩
    · exact hP1 j q h2
    · have hl := (hP k q h2).lt
      refine (hP k q h2).kept (hk q.1 hl (fun hh => ?_))
      rcases hh with ⟨k2, e, hh⟩ | hh
      · obtain ⟨k3, h5, h6⟩ := at1 k2 _ hh
        have := hD.1 k k3 q (q.1, e) h2 h6 rfl
        subst this
        exact h1 (List.mem_of_getElem? h5)
      · omega
  · obtain ⟨x0, h1, h2⟩ := old i x hi
    obtain ⟨z0, h3, h4⟩ := old j z hj
    exact hD.1 i j x0 z0 h1 h3 (h2.trans (hxz.trans h4.symm))
  · obtain ⟨q0, h1, h2⟩ := old k q h
    rw [← h2]
    exact hD.2 k q0 h1
section HKM
variable {p : Program} {l : Launch} {e : Env} {R : Room} {s : State} {m : MethodId} {args : Array Value} {below : List Frame} {meth : Method} {c : Code} {H H0 : Heap} {locs : List Loc} {cells slots : Nat} {Q : State → Prop}
variable {pc mc ms : Nat} {ls : Array Slot} {rest st0 : List Value} {a : Array Value} {A : Nat → Prop} {D : va_G} {ws wc : va_W} {S : Type} {w1 : S → va_W}
theorem hk_mi (isC : List Nat) {post : Int32 → S → Prop} (hr : va_Run p l e R s m args below meth c H locs cells slots mc ms (F0 m pc ls st0) rest (va_Qi post (hk_B D (va_A wc H.size) w1) (va_A wc H.size) a) (va_A wc H.size)) (hP : va_P D vwCl ws H) (hD : va_D A ws) (hS : va_S A H0 H locs) (hA : ∀ q, H0.size ≤ q → A q) (hC : isC.map (fun i => ws[i]?) = wc.map some) (hn : va_nd isC = true) (ha : ∀ u, (w1 u).map Prod.fst = wc.map Prod.fst)
    (kk : ∀ (r : Int32) (u : S) (H1 : Heap) (locs1 : List Loc), post r u → va_P D vwCl (hk_repl ws isC (w1 u)) H1 → va_D A (hk_repl ws isC (w1 u)) → va_S A H0 H1 locs1 → W p l e R s m args below meth c H1 locs1 (cells + mc) (slots + ms) Q (F0 m (pc + 3) ls (.int r :: rest))) : W p l e R s m args below meth c H locs cells slots Q (F0 m pc ls st0) := by
  have hF := va_free hD hS hA isC hC
  refine va_calli hr hS (fun q _ h => hF q h) hF (fun r u t H1 locs1 ht hvm hw hB hz hk hS1 => ?_)
  obtain ⟨hP1, hD1⟩ := hB
  rw [ht] at hP1
  obtain ⟨hP2, hD2⟩ := hk_join hP hD isC hC hn (ha u) hk hP1
  exact kk r u H1 locs1 hw hP2 hD2 hS1
theorem hk_ml (isC : List Nat) {post : Int64 → S → Prop} (hr : va_Run p l e R s m args below meth c H locs cells slots mc ms (F0 m pc ls st0) rest (va_Ql post (hk_B D (va_A wc H.size) w1) (va_A wc H.size) a) (va_A wc H.size)) (hP : va_P D vwCl ws H) (hD : va_D A ws) (hS : va_S A H0 H locs) (hA : ∀ q, H0.size ≤ q → A q) (hC : isC.map (fun i => ws[i]?) = wc.map some) (hn : va_nd isC = true) (ha : ∀ u, (w1 u).map Prod.fst = wc.map Prod.fst)
    (kk : ∀ (r : Int64) (u : S) (H1 : Heap) (locs1 : List Loc), post r u → va_P D vwCl (hk_repl ws isC (w1 u)) H1 → va_D A (hk_repl ws isC (w1 u)) → va_S A H0 H1 locs1 → W p l e R s m args below meth c H1 locs1 (cells + mc) (slots + ms) Q (F0 m (pc + 3) ls (.long r :: rest))) : W p l e R s m args below meth c H locs cells slots Q (F0 m pc ls st0) := by
  have hF := va_free hD hS hA isC hC
  refine va_calll hr hS (fun q _ h => hF q h) hF (fun r u t H1 locs1 ht hvm hw hB hz hk hS1 => ?_)
  obtain ⟨hP1, hD1⟩ := hB
  rw [ht] at hP1
  obtain ⟨hP2, hD2⟩ := hk_join hP hD isC hC hn (ha u) hk hP1
  exact kk r u H1 locs1 hw hP2 hD2 hS1
theorem hk_mv (isC : List Nat) {post : S → Prop} (hr : va_Run p l e R s m args below meth c H locs cells slots mc ms (F0 m pc ls st0) rest (va_Qv post (hk_B D (va_A wc H.size) w1) (va_A wc H.size) a) (va_A wc H.size)) (hP : va_P D vwCl ws H) (hD : va_D A ws) (hS : va_S A H0 H locs) (hA : ∀ q, H0.size ≤ q → A q) (hC : isC.map (fun i => ws[i]?) = wc.map some) (hn : va_nd isC = true) (ha : ∀ u, (w1 u).map Prod.fst = wc.map Prod.fst)
    (kk : ∀ (u : S) (H1 : Heap) (locs1 : List Loc), post u → va_P D vwCl (hk_repl ws isC (w1 u)) H1 → va_D A (hk_repl ws isC (w1 u)) → va_S A H0 H1 locs1 → W p l e R s m args below meth c H1 locs1 (cells + mc) (slots + ms) Q (F0 m (pc + 3) ls rest)) : W p l e R s m args below meth c H locs cells slots Q (F0 m pc ls st0) := by
  have hF := va_free hD hS hA isC hC
  refine va_callv hr hS (fun q _ h => hF q h) hF (fun u t H1 locs1 ht hvm hw hB hz hk hS1 => ?_)
  obtain ⟨hP1, hD1⟩ := hB
  rw [ht] at hP1
  obtain ⟨hP2, hD2⟩ := hk_join hP hD isC hC hn (ha u) hk hP1
  exact kk u H1 locs1 hw hP2 hD2 hS1
end HKM
end
section
theorem hk_im {w : Cond} (h : w ∈ lw_tbl) (g : goodWord w = true) : w ∈ hk_all := List.mem_filter.mpr ⟨h, g⟩
theorem hk_nim {w : Cond} (h : w ∈ lw_tbl) (g : hk_isNest w = true) : w ∈ hk_nest := List.mem_filter.mpr ⟨h, g⟩
theorem hk_t0 {w : Cond} (i : Nat) (h : (k2_sels lw_privs)[i]? = some w) : w ∈ lw_tbl := List.mem_append_left _ (List.mem_of_getElem? h)
theorem hk_t1 {w : Cond} (i : Nat) (h : tables_1_1[i]? = some w) : w ∈ lw_tbl := List.mem_append_right _ (List.mem_append_left _ (List.mem_of_getElem? h))
theorem hk_t2 {w : Cond} (i : Nat) (h : tables_1_2[i]? = some w) : w ∈ lw_tbl := List.mem_append_right _ (List.mem_append_right _ (List.mem_append_left _ (List.mem_of_getElem? h)))
theorem hk_t3 {w : Cond} (i : Nat) (h : tables_1_3[i]? = some w) : w ∈ lw_tbl := List.mem_append_right _ (List.mem_append_right _ (List.mem_append_right _ (List.mem_append_left _ (List.mem_of_getElem? h))))
theorem hk_t4 {w : Cond} (i : Nat) (h : tables_1_4[i]? = some w) : w ∈ lw_tbl := List.mem_append_right _ (List.mem_append_right _ (List.mem_append_right _ (List.mem_append_right _ (List.mem_append_left _ (List.mem_of_getElem? h)))))
theorem hk_t5 {w : Cond} (i : Nat) (h : tables_1_5[i]? = some w) : w ∈ lw_tbl := List.mem_append_right _ (List.mem_append_right _ (List.mem_append_right _ (List.mem_append_right _ (List.mem_append_right _ (List.mem_of_getElem? h)))))
set_option maxRecDepth 100000 in
theorem hw_4 : Cond.selects RX5 yX5_forgetAll yX5_forgetAll ∈ hk_all := hk_im (hk_t0 4 rfl) rfl
set_option maxRecDepth 100000 in
theorem hw_5 : Cond.selects RX6 yX6_forgetAll yX6_forgetAll ∈ hk_all := hk_im (hk_t0 5 rfl) rfl
set_option maxRecDepth 100000 in
theorem hw_9 : Cond.selects RX1 yX1_add yX1_add ∈ hk_all := hk_im (hk_t0 9 rfl) rfl
set_option maxRecDepth 100000 in
theorem hw_11 : Cond.selects RX1 yX1_emptyState yX1_emptyState ∈ hk_all := hk_im (hk_t0 11 rfl) rfl
set_option maxRecDepth 100000 in
theorem hw_15 : Cond.selects RX1 yX1_folded yX1_folded ∈ hk_all := hk_im (hk_t0 15 rfl) rfl
set_option maxRecDepth 100000 in
theorem hw_16 : Cond.selects RX5 yX5_meet yX5_meet ∈ hk_all := hk_im (hk_t0 16 rfl) rfl
set_option maxRecDepth 100000 in
theorem hw_17 : Cond.selects RX0 yX0_take yX0_take ∈ hk_all := hk_im (hk_t0 17 rfl) rfl
set_option maxRecDepth 100000 in
theorem hw_18 : Cond.selects RX0 yX0_find yX0_find ∈ hk_all := hk_im (hk_t0 18 rfl) rfl
set_option maxRecDepth 100000 in
theorem hw_19 : Cond.selects RX0 yX0_put yX0_put ∈ hk_all := hk_im (hk_t0 19 rfl) rfl
set_option maxRecDepth 100000 in
theorem hw_20 : Cond.selects RX0 yX0_leastAt yX0_leastAt ∈ hk_all := hk_im (hk_t0 20 rfl) rfl
set_option maxRecDepth 100000 in
theorem hw_23 : Cond.selects RX0 yX0_keyAt yX0_keyAt ∈ hk_all := hk_im (hk_t0 23 rfl) rfl
set_option maxRecDepth 100000 in
theorem hw_24 : Cond.selects RX0 yX0_surelyAt yX0_surelyAt ∈ hk_all := hk_im (hk_t0 24 rfl) rfl
set_option maxRecDepth 100000 in
theorem hw_25 : Cond.selects RX0 yX0_countAt yX0_countAt ∈ hk_all := hk_im (hk_t0 25 rfl) rfl
set_option maxRecDepth 100000 in
theorem hw_26 : Cond.selects RX0 yX0_errorAt yX0_errorAt ∈ hk_all := hk_im (hk_t0 26 rfl) rfl
set_option maxRecDepth 100000 in
theorem hw_27 : Cond.selects RX1 yX1_allCanBeJoined yX1_allCanBeJoined ∈ hk_all := hk_im (hk_t0 27 rfl) rfl
set_option maxRecDepth 100000 in
theorem hw_31 : Cond.selects RX0 yX0_atMost yX0_atMost ∈ hk_all := hk_im (hk_t0 31 rfl) rfl
set_option maxRecDepth 100000 in
theorem hw_34 : Cond.selects RX1 yX1_joined yX1_joined ∈ hk_all := hk_im (hk_t0 34 rfl) rfl
set_option maxRecDepth 100000 in
theorem hw_39 : Cond.selects RX0 yX0_atLeast yX0_atLeast ∈ hk_all := hk_im (hk_t0 39 rfl) rfl
set_option maxRecDepth 100000 in
theorem hw_41 : Cond.selects RX5 yX5_add yX5_add ∈ hk_all := hk_im (hk_t0 41 rfl) rfl
set_option maxRecDepth 100000 in
theorem hw_43 : Cond.selects RX6 yX6_add yX6_add ∈ hk_all := hk_im (hk_t0 43 rfl) rfl
set_option maxRecDepth 100000 in
theorem hw_44 : Cond.selects RX6 yX6_dueAt yX6_dueAt ∈ hk_all := hk_im (hk_t0 44 rfl) rfl
set_option maxRecDepth 100000 in
theorem hw_46 : Cond.selects RX3 yX3_open yX3_open ∈ hk_all := hk_im (hk_t0 46 rfl) rfl
set_option maxRecDepth 100000 in
theorem hw_47 : Cond.selects RX3 yX3_write yX3_write ∈ hk_all := hk_im (hk_t0 47 rfl) rfl
set_option maxRecDepth 100000 in
theorem hw_49 : Cond.selects RX6 yX6_dropFirst yX6_dropFirst ∈ hk_all := hk_im (hk_t0 49 rfl) rfl
set_option maxRecDepth 100000 in
theorem hw_50 : Cond.selects RX3 yX3_read yX3_read ∈ hk_all := hk_im (hk_t0 50 rfl) rfl
set_option maxRecDepth 100000 in
theorem hw_51 : Cond.selects RX5 yX5_copyFrom yX5_copyFrom ∈ hk_all := hk_im (hk_t0 51 rfl) rfl
set_option maxRecDepth 100000 in
theorem hw_52 : Cond.selects RX6 yX6_copyFrom yX6_copyFrom ∈ hk_all := hk_im (hk_t0 52 rfl) rfl
set_option maxRecDepth 100000 in
theorem hw_80 : Cond.initialized RX1 ∈ hk_all := hk_im (hk_t1 2 rfl) rfl
set_option maxRecDepth 100000 in
theorem hw_82 : Cond.initialized RX0 ∈ hk_all := hk_im (hk_t1 4 rfl) rfl
set_option maxRecDepth 100000 in
theorem hw_83 : Cond.initialized RX5 ∈ hk_all := hk_im (hk_t1 5 rfl) rfl
set_option maxRecDepth 100000 in
theorem hw_84 : Cond.initialized RX6 ∈ hk_all := hk_im (hk_t1 6 rfl) rfl
set_option maxRecDepth 100000 in
theorem hw_85 : Cond.initialized RX3 ∈ hk_all := hk_im (hk_t1 7 rfl) rfl
set_option maxRecDepth 100000 in
theorem hw_86 : Cond.initialized RJ7 ∈ hk_all := hk_im (hk_t1 8 rfl) rfl
set_option maxRecDepth 100000 in
theorem hw_88 : Cond.initialized RJ9 ∈ hk_all := hk_im (hk_t1 10 rfl) rfl
set_option maxRecDepth 100000 in
theorem hw_89 : Cond.initialized RJ10 ∈ hk_all := hk_im (hk_t1 11 rfl) rfl
set_option maxRecDepth 100000 in
theorem hw_105 : Cond.fieldLink RX1 9 RX1 "kinds" "[I" ∈ hk_all := hk_im (hk_t1 27 rfl) rfl
set_option maxRecDepth 100000 in
theorem hw_106 : Cond.fieldLink RX1 15 RX1 "declared" "[Z" ∈ hk_all := hk_im (hk_t1 28 rfl) rfl
set_option maxRecDepth 100000 in
theorem hw_107 : Cond.fieldLink RX1 19 RX1 "count" "I" ∈ hk_all := hk_im (hk_t1 29 rfl) rfl
set_option maxRecDepth 100000 in
theorem hw_152 : Cond.fieldLink RX0 9 RX0 "keys" "[I" ∈ hk_all := hk_im (hk_t1 74 rfl) rfl
set_option maxRecDepth 100000 in
theorem hw_153 : Cond.fieldLink RX0 15 RX0 "counts" "[I" ∈ hk_all := hk_im (hk_t1 75 rfl) rfl
set_option maxRecDepth 100000 in
theorem hw_154 : Cond.fieldLink RX0 18 RX0 "errors" "[I" ∈ hk_all := hk_im (hk_t1 76 rfl) rfl
set_option maxRecDepth 100000 in
theorem hw_155 : Cond.fieldLink RX0 29 RX0 "limit" "I" ∈ hk_all := hk_im (hk_t1 77 rfl) rfl
set_option maxRecDepth 100000 in
theorem hw_157 : Cond.fieldLink RX0 25 RX0 "used" "I" ∈ hk_all := hk_im (hk_t1 79 rfl) rfl
set_option maxRecDepth 100000 in
theorem hw_176 : Cond.fieldLink RX5 9 RX5 "keys" "[I" ∈ hk_all := hk_im (hk_t1 98 rfl) rfl
set_option maxRecDepth 100000 in
theorem hw_178 : Cond.fieldLink RX5 15 RX5 "weights" "[I" ∈ hk_all := hk_im (hk_t1 100 rfl) rfl
set_option maxRecDepth 100000 in
theorem hw_179 : Cond.fieldLink RX5 18 RX5 "count" "I" ∈ hk_all := hk_im (hk_t1 101 rfl) rfl
set_option maxRecDepth 100000 in
theorem hw_181 : Cond.fieldLink RX5 22 RX5 "matches" "I" ∈ hk_all := hk_im (hk_t1 103 rfl) rfl
set_option maxRecDepth 100000 in
theorem hw_183 : Cond.fieldLink RX5 25 RX5 "out" "J" ∈ hk_all := hk_im (hk_t1 105 rfl) rfl
set_option maxRecDepth 100000 in
theorem hw_202 : Cond.fieldLink RX6 9 RX6 "keys" "[I" ∈ hk_all := hk_im (hk_t1 124 rfl) rfl
set_option maxRecDepth 100000 in
theorem hw_204 : Cond.fieldLink RX6 15 RX6 "times" "[I" ∈ hk_all := hk_im (hk_t1 126 rfl) rfl
set_option maxRecDepth 100000 in
theorem hw_206 : Cond.fieldLink RX6 18 RX6 "count" "I" ∈ hk_all := hk_im (hk_t1 128 rfl) rfl
set_option maxRecDepth 100000 in
theorem hw_208 : Cond.fieldLink RX6 22 RX6 "now" "I" ∈ hk_all := hk_im (hk_t1 130 rfl) rfl
set_option maxRecDepth 100000 in
theorem hw_225 : Cond.fieldLink RX3 9 RX3 "cells" "[J" ∈ hk_all := hk_im (hk_t1 147 rfl) rfl
set_option maxRecDepth 100000 in
theorem hw_226 : Cond.fieldLink RX3 15 RX3 "newest" "I" ∈ hk_all := hk_im (hk_t1 148 rfl) rfl
set_option maxRecDepth 100000 in
theorem hw_227 : Cond.fieldLink RX3 19 RX3 "kept" "I" ∈ hk_all := hk_im (hk_t1 149 rfl) rfl
set_option maxRecDepth 100000 in
theorem hw_255 : Cond.static yJ7_fill_53178 ∈ hk_all := hk_im (hk_t1 177 rfl) rfl
set_option maxRecDepth 100000 in
theorem hw_256 : Cond.code yJ7_fill_53178 cJ7_fill_53178 4 none ∈ hk_all := hk_im (hk_t1 178 rfl) rfl
set_option maxRecDepth 100000 in
theorem hw_259 : Cond.static yJ7_fill_d0a16 ∈ hk_all := hk_im (hk_t1 181 rfl) rfl
set_option maxRecDepth 100000 in
theorem hw_260 : Cond.code yJ7_fill_d0a16 cJ7_fill_d0a16 5 none ∈ hk_all := hk_im (hk_t1 182 rfl) rfl
set_option maxRecDepth 100000 in
theorem hw_263 : Cond.instanceMethod yX5_forgetAll ∈ hk_all := hk_im (hk_t1 185 rfl) rfl
set_option maxRecDepth 100000 in
theorem hw_264 : Cond.code yX5_forgetAll cX5_forgetAll 1 none ∈ hk_all := hk_im (hk_t1 186 rfl) rfl
set_option maxRecDepth 100000 in
theorem hw_267 : Cond.instanceMethod yX6_forgetAll ∈ hk_all := hk_im (hk_t1 189 rfl) rfl
set_option maxRecDepth 100000 in
theorem hw_268 : Cond.code yX6_forgetAll cX6_forgetAll 1 none ∈ hk_all := hk_im (hk_t1 190 rfl) rfl
set_option maxRecDepth 100000 in
theorem hw_351 : Cond.instanceMethod yX1_add ∈ hk_all := hk_im (hk_t2 33 rfl) rfl
set_option maxRecDepth 100000 in
theorem hw_352 : Cond.code yX1_add cX1_add 4 (some .int) ∈ hk_all := hk_im (hk_t2 34 rfl) rfl
set_option maxRecDepth 100000 in
theorem hw_362 : Cond.instanceMethod yX1_emptyState ∈ hk_all := hk_im (hk_t2 44 rfl) rfl
set_option maxRecDepth 100000 in
theorem hw_363 : Cond.code yX1_emptyState cX1_emptyState 2 (some .long) ∈ hk_all := hk_im (hk_t2 45 rfl) rfl
set_option maxRecDepth 100000 in
theorem hw_364 : Cond.constantLong RX1 23 (-4000000000000) ∈ hk_all := hk_im (hk_t2 46 rfl) rfl
set_option maxRecDepth 100000 in
theorem hw_365 : Cond.constantLong RX1 25 7 ∈ hk_all := hk_im (hk_t2 47 rfl) rfl
set_option maxRecDepth 100000 in
theorem hw_394 : Cond.instanceMethod yX1_folded ∈ hk_all := hk_im (hk_t2 76 rfl) rfl
set_option maxRecDepth 100000 in
theorem hw_395 : Cond.code yX1_folded cX1_folded 7 (some .long) ∈ hk_all := hk_im (hk_t2 77 rfl) rfl
set_option maxRecDepth 100000 in
theorem hw_396 : Cond.methodLink RX1 27 yJ9_min_f86c9 ∈ hk_all := hk_im (hk_t2 78 rfl) rfl
set_option maxRecDepth 100000 in
theorem hw_397 : Cond.static yJ9_min_f86c9 ∈ hk_all := hk_im (hk_t2 79 rfl) rfl
set_option maxRecDepth 100000 in
theorem hw_398 : Cond.code yJ9_min_f86c9 cJ9_min_f86c9 4 (some .long) ∈ hk_all := hk_im (hk_t2 80 rfl) rfl
set_option maxRecDepth 100000 in
theorem hw_399 : Cond.methodLink RX1 33 yJ9_max_f86c9 ∈ hk_all := hk_im (hk_t2 81 rfl) rfl
set_option maxRecDepth 100000 in
theorem hw_400 : Cond.static yJ9_max_f86c9 ∈ hk_all := hk_im (hk_t2 82 rfl) rfl
set_option maxRecDepth 100000 in
theorem hw_401 : Cond.code yJ9_max_f86c9 cJ9_max_f86c9 4 (some .long) ∈ hk_all := hk_im (hk_t2 83 rfl) rfl
set_option maxRecDepth 100000 in
theorem hw_407 : Cond.instanceMethod yX5_meet ∈ hk_all := hk_im (hk_t2 89 rfl) rfl
set_option maxRecDepth 100000 in
theorem hw_408 : Cond.code yX5_meet cX5_meet 4 none ∈ hk_all := hk_im (hk_t2 90 rfl) rfl
set_option maxRecDepth 100000 in
theorem hw_411 : Cond.instanceMethod yX0_take ∈ hk_all := hk_im (hk_t2 93 rfl) rfl
set_option maxRecDepth 100000 in
theorem hw_412 : Cond.code yX0_take cX0_take 4 none ∈ hk_all := hk_im (hk_t2 94 rfl) rfl
set_option maxRecDepth 100000 in
theorem hw_413 : Cond.methodLink RX0 21 yX0_find ∈ hk_all := hk_im (hk_t2 95 rfl) rfl
set_option maxRecDepth 100000 in
theorem hw_415 : Cond.instanceMethod yX0_find ∈ hk_all := hk_im (hk_t2 97 rfl) rfl
set_option maxRecDepth 100000 in
theorem hw_416 : Cond.code yX0_find cX0_find 3 (some .int) ∈ hk_all := hk_im (hk_t2 98 rfl) rfl
set_option maxRecDepth 100000 in
theorem hw_417 : Cond.methodLink RX0 32 yX0_put ∈ hk_all := hk_im (hk_t2 99 rfl) rfl
set_option maxRecDepth 100000 in
theorem hw_419 : Cond.instanceMethod yX0_put ∈ hk_all := hk_im (hk_t2 101 rfl) rfl
set_option maxRecDepth 100000 in
theorem hw_420 : Cond.code yX0_put cX0_put 4 none ∈ hk_all := hk_im (hk_t2 102 rfl) rfl
set_option maxRecDepth 100000 in
theorem hw_421 : Cond.methodLink RX0 36 yX0_leastAt ∈ hk_all := hk_im (hk_t2 103 rfl) rfl
set_option maxRecDepth 100000 in
theorem hw_423 : Cond.instanceMethod yX0_leastAt ∈ hk_all := hk_im (hk_t2 105 rfl) rfl
set_option maxRecDepth 100000 in
theorem hw_424 : Cond.code yX0_leastAt cX0_leastAt 3 (some .int) ∈ hk_all := hk_im (hk_t2 106 rfl) rfl
set_option maxRecDepth 100000 in
theorem hw_435 : Cond.instanceMethod yX0_keyAt ∈ hk_all := hk_im (hk_t2 117 rfl) rfl
set_option maxRecDepth 100000 in
theorem hw_436 : Cond.code yX0_keyAt cX0_keyAt 2 (some .int) ∈ hk_all := hk_im (hk_t2 118 rfl) rfl
set_option maxRecDepth 100000 in
theorem hw_439 : Cond.instanceMethod yX0_surelyAt ∈ hk_all := hk_im (hk_t2 121 rfl) rfl
set_option maxRecDepth 100000 in
theorem hw_440 : Cond.code yX0_surelyAt cX0_surelyAt 2 (some .int) ∈ hk_all := hk_im (hk_t2 122 rfl) rfl
set_option maxRecDepth 100000 in
theorem hw_441 : Cond.methodLink RX0 40 yX0_countAt ∈ hk_all := hk_im (hk_t2 123 rfl) rfl
set_option maxRecDepth 100000 in
theorem hw_443 : Cond.instanceMethod yX0_countAt ∈ hk_all := hk_im (hk_t2 125 rfl) rfl
set_option maxRecDepth 100000 in
theorem hw_444 : Cond.code yX0_countAt cX0_countAt 2 (some .int) ∈ hk_all := hk_im (hk_t2 126 rfl) rfl
set_option maxRecDepth 100000 in
theorem hw_445 : Cond.methodLink RX0 43 yX0_errorAt ∈ hk_all := hk_im (hk_t2 127 rfl) rfl
set_option maxRecDepth 100000 in
theorem hw_447 : Cond.instanceMethod yX0_errorAt ∈ hk_all := hk_im (hk_t2 129 rfl) rfl
set_option maxRecDepth 100000 in
theorem hw_448 : Cond.code yX0_errorAt cX0_errorAt 2 (some .int) ∈ hk_all := hk_im (hk_t2 130 rfl) rfl
set_option maxRecDepth 100000 in
theorem hw_452 : Cond.instanceMethod yX1_allCanBeJoined ∈ hk_all := hk_im (hk_t2 134 rfl) rfl
set_option maxRecDepth 100000 in
theorem hw_453 : Cond.code yX1_allCanBeJoined cX1_allCanBeJoined 2 (some .boolean) ∈ hk_all := hk_im (hk_t2 135 rfl) rfl
set_option maxRecDepth 100000 in
theorem hw_459 : Cond.static yJ9_min_7cf53 ∈ hk_all := hk_im (hk_t2 141 rfl) rfl
set_option maxRecDepth 100000 in
theorem hw_460 : Cond.code yJ9_min_7cf53 cJ9_min_7cf53 2 (some .int) ∈ hk_all := hk_im (hk_t2 142 rfl) rfl
set_option maxRecDepth 100000 in
theorem hw_475 : Cond.instanceMethod yX0_atMost ∈ hk_all := hk_im (hk_t2 157 rfl) rfl
set_option maxRecDepth 100000 in
theorem hw_476 : Cond.code yX0_atMost cX0_atMost 3 (some .int) ∈ hk_all := hk_im (hk_t2 158 rfl) rfl
set_option maxRecDepth 100000 in
theorem hw_487 : Cond.instanceMethod yX1_joined ∈ hk_all := hk_im (hk_t2 169 rfl) rfl
set_option maxRecDepth 100000 in
theorem hw_488 : Cond.code yX1_joined cX1_joined 7 (some .long) ∈ hk_all := hk_im (hk_t2 170 rfl) rfl
set_option maxRecDepth 100000 in
theorem hw_553 : Cond.instanceMethod yX0_atLeast ∈ hk_all := hk_im (hk_t2 235 rfl) rfl
set_option maxRecDepth 100000 in
theorem hw_554 : Cond.code yX0_atLeast cX0_atLeast 3 (some .int) ∈ hk_all := hk_im (hk_t2 236 rfl) rfl
set_option maxRecDepth 100000 in
theorem hw_555 : Cond.methodLink RX0 46 yX0_surelyAt ∈ hk_all := hk_im (hk_t2 237 rfl) rfl
set_option maxRecDepth 100000 in
theorem hw_574 : Cond.instanceMethod yX5_add ∈ hk_all := hk_im (hk_t3 16 rfl) rfl
set_option maxRecDepth 100000 in
theorem hw_575 : Cond.code yX5_add cX5_add 3 none ∈ hk_all := hk_im (hk_t3 17 rfl) rfl
set_option maxRecDepth 100000 in
theorem hw_595 : Cond.instanceMethod yX6_add ∈ hk_all := hk_im (hk_t3 37 rfl) rfl
set_option maxRecDepth 100000 in
theorem hw_596 : Cond.code yX6_add cX6_add 4 none ∈ hk_all := hk_im (hk_t3 38 rfl) rfl
set_option maxRecDepth 100000 in
theorem hw_597 : Cond.methodLink RX6 25 yX6_dueAt ∈ hk_all := hk_im (hk_t3 39 rfl) rfl
set_option maxRecDepth 100000 in
theorem hw_599 : Cond.instanceMethod yX6_dueAt ∈ hk_all := hk_im (hk_t3 41 rfl) rfl
set_option maxRecDepth 100000 in
theorem hw_600 : Cond.code yX6_dueAt cX6_dueAt 3 (some .int) ∈ hk_all := hk_im (hk_t3 42 rfl) rfl
set_option maxRecDepth 100000 in
theorem hw_601 : Cond.methodLink RX6 29 arraycopyName ∈ hk_all := hk_im (hk_t3 43 rfl) rfl
set_option maxRecDepth 100000 in
theorem hw_602 : Cond.static arraycopyName ∈ hk_all := hk_im (hk_t3 44 rfl) rfl
set_option maxRecDepth 100000 in
theorem hw_603 : Cond.native arraycopyName ∈ hk_all := hk_im (hk_t3 45 rfl) rfl
set_option maxRecDepth 100000 in
theorem hw_615 : Cond.instanceMethod yX3_open ∈ hk_all := hk_im (hk_t3 57 rfl) rfl
set_option maxRecDepth 100000 in
theorem hw_616 : Cond.code yX3_open cX3_open 4 (some .int) ∈ hk_all := hk_im (hk_t3 58 rfl) rfl
set_option maxRecDepth 100000 in
theorem hw_617 : Cond.methodLink RX3 22 yJ9_min_7cf53 ∈ hk_all := hk_im (hk_t3 59 rfl) rfl
set_option maxRecDepth 100000 in
theorem hw_618 : Cond.constantLong RX3 28 (-4000000000000) ∈ hk_all := hk_im (hk_t3 60 rfl) rfl
set_option maxRecDepth 100000 in
theorem hw_619 : Cond.methodLink RX3 30 yJ7_fill_bad5a ∈ hk_all := hk_im (hk_t3 61 rfl) rfl
set_option maxRecDepth 100000 in
theorem hw_620 : Cond.static yJ7_fill_bad5a ∈ hk_all := hk_im (hk_t3 62 rfl) rfl
set_option maxRecDepth 100000 in
theorem hw_621 : Cond.code yJ7_fill_bad5a cJ7_fill_bad5a 6 none ∈ hk_all := hk_im (hk_t3 63 rfl) rfl
set_option maxRecDepth 100000 in
theorem hw_622 : Cond.methodLink RJ7 13 yJ7_rangeCheck_23922 ∈ hk_all := hk_im (hk_t3 64 rfl) rfl
set_option maxRecDepth 100000 in
theorem hw_623 : Cond.static yJ7_rangeCheck_23922 ∈ hk_all := hk_im (hk_t3 65 rfl) rfl
set_option maxRecDepth 100000 in
theorem hw_624 : Cond.code yJ7_rangeCheck_23922 cJ7_rangeCheck_23922 3 none ∈ hk_all := hk_im (hk_t3 66 rfl) rfl
set_option maxRecDepth 100000 in
theorem hw_627 : Cond.instanceMethod yX3_write ∈ hk_all := hk_im (hk_t3 69 rfl) rfl
set_option maxRecDepth 100000 in
theorem hw_628 : Cond.code yX3_write cX3_write 5 none ∈ hk_all := hk_im (hk_t3 70 rfl) rfl
set_option maxRecDepth 100000 in
theorem hw_635 : Cond.instanceMethod yX6_dropFirst ∈ hk_all := hk_im (hk_t3 77 rfl) rfl
set_option maxRecDepth 100000 in
theorem hw_636 : Cond.code yX6_dropFirst cX6_dropFirst 2 none ∈ hk_all := hk_im (hk_t3 78 rfl) rfl
set_option maxRecDepth 100000 in
theorem hw_643 : Cond.instanceMethod yX3_read ∈ hk_all := hk_im (hk_t3 85 rfl) rfl
set_option maxRecDepth 100000 in
theorem hw_644 : Cond.code yX3_read cX3_read 3 (some .long) ∈ hk_all := hk_im (hk_t3 86 rfl) rfl
set_option maxRecDepth 100000 in
theorem hw_645 : Cond.methodLink RX3 36 yJ9_floorMod_7cf53 ∈ hk_all := hk_im (hk_t3 87 rfl) rfl
set_option maxRecDepth 100000 in
theorem hw_646 : Cond.static yJ9_floorMod_7cf53 ∈ hk_all := hk_im (hk_t3 88 rfl) rfl
set_option maxRecDepth 100000 in
theorem hw_647 : Cond.code yJ9_floorMod_7cf53 cJ9_floorMod_7cf53 3 (some .int) ∈ hk_all := hk_im (hk_t3 89 rfl) rfl
set_option maxRecDepth 100000 in
theorem hw_687 : Cond.instanceMethod yX5_copyFrom ∈ hk_all := hk_im (hk_t3 129 rfl) rfl
set_option maxRecDepth 100000 in
theorem hw_688 : Cond.code yX5_copyFrom cX5_copyFrom 2 none ∈ hk_all := hk_im (hk_t3 130 rfl) rfl
set_option maxRecDepth 100000 in
theorem hw_689 : Cond.methodLink RX5 29 arraycopyName ∈ hk_all := hk_im (hk_t3 131 rfl) rfl
set_option maxRecDepth 100000 in
theorem hw_692 : Cond.instanceMethod yX6_copyFrom ∈ hk_all := hk_im (hk_t3 134 rfl) rfl
set_option maxRecDepth 100000 in
theorem hw_693 : Cond.code yX6_copyFrom cX6_copyFrom 2 none ∈ hk_all := hk_im (hk_t3 135 rfl) rfl
theorem ih_X0 : ∀ w ∈ u_ws RX0 TX0 5, w ∈ hk_all := by decide +kernel
theorem ih_X1 : ∀ w ∈ u_ws RX1 TX1 3, w ∈ hk_all := by decide +kernel
theorem ih_X2 : ∀ w ∈ u_ws RX2 TX2 6, w ∈ hk_all := by decide +kernel
theorem ih_X3 : ∀ w ∈ u_ws RX3 TX3 3, w ∈ hk_all := by decide +kernel
theorem ih_X4 : ∀ w ∈ u_ws RX4 TX4 6, w ∈ hk_all := by decide +kernel
theorem ih_X5 : ∀ w ∈ u_ws RX5 TX5 5, w ∈ hk_all := by decide +kernel
theorem ih_X6 : ∀ w ∈ u_ws RX6 TX6 4, w ∈ hk_all := by decide +kernel
theorem ih_X7 : ∀ w ∈ u_ws RX7 TX7 18, w ∈ hk_all := by decide +kernel
theorem ih_X8 : ∀ w ∈ u_ws RX8 TX8 52, w ∈ hk_all := by decide +kernel
end
section
def wv_cn (cI cJ cZ cM : ClassId) (h : Nat) (a : Nat → Nat) (cn_keys : Nat → Int32) (cn_counts : Nat → Int32) (cn_errors : Nat → Int32) (cn_limit : Int32) (cn_used : Int32) : va_W := [(h, .inr (0, [.ref (a 0), .ref (a 1), .ref (a 2), .int cn_limit, .int cn_used])), (a 0, .inl (cI, 12, .inl cn_keys)), (a 1, .inl (cI, 12, .inl cn_counts)), (a 2, .inl (cI, 12, .inl cn_errors))]
def wv_fo (cI cJ cZ cM : ClassId) (h : Nat) (a : Nat → Nat) (fo_kinds : Nat → Int32) (fo_declared : Nat → Int32) (fo_count : Int32) : va_W := [(h, .inr (1, [.ref (a 0), .ref (a 1), .int fo_count])), (a 0, .inl (cI, 6, .inl fo_kinds)), (a 1, .inl (cZ, 6, .inl fo_declared))]
def wv_ks (cI cJ cZ cM : ClassId) (h : Nat) (a : Nat → Nat) (r_folds : Nat) (ks_partCounts : Nat → Int32) (ks_states : Nat → Int64) (ks_latestRows : Nat → Int32) (ks_latestValues : Nat → Int64) (ks_moved : Int32) : va_W := [(h, .inr (2, [.ref r_folds, .ref (a 1), .ref (a 2), .ref (a 3), .ref (a 4), .int ks_moved])), (a 1, .inl (cI, 100, .inl ks_partCounts)), (a 2, .inl (cJ, 4800, .inr (.inl ks_states))), (a 3, .inl (cI, 800, .inl ks_latestRows)), (a 4, .inl (cJ, 100, .inr (.inl ks_latestValues)))]
def wv_lg (cI cJ cZ cM : ClassId) (h : Nat) (a : Nat → Nat) (lg_cells : Nat → Int64) (lg_newest : Int32) (lg_kept : Int32) : va_W := [(h, .inr (3, [.ref (a 0), .int lg_newest, .int lg_kept])), (a 0, .inl (cJ, 512, .inr (.inl lg_cells)))]
def wv_mk (cI cJ cZ cM : ClassId) (h : Nat) (a : Nat → Nat) (mk_states : Nat → Int64) (mk_latestRows : Nat → Int32) (mk_latestValues : Nat → Int64) (r_smalls : Nat) (r_timers : Nat) (mk_rows : Int32) : va_W := [(h, .inr (4, [.ref (a 0), .ref (a 1), .ref (a 2), .ref r_smalls, .ref r_timers, .int mk_rows])), (a 0, .inl (cJ, 600, .inr (.inl mk_states))), (a 1, .inl (cI, 100, .inl mk_latestRows)), (a 2, .inl (cJ, 100, .inr (.inl mk_latestValues)))]
def wv_sm (cI cJ cZ cM : ClassId) (h : Nat) (a : Nat → Nat) (sm_keys : Nat → Int32) (sm_weights : Nat → Int32) (sm_count : Int32) (sm_matches : Int32) (sm_out : Int64) : va_W := [(h, .inr (5, [.ref (a 0), .ref (a 1), .int sm_count, .int sm_matches, .long sm_out])), (a 0, .inl (cI, 60, .inl sm_keys)), (a 1, .inl (cI, 60, .inl sm_weights))]
def wv_ti (cI cJ cZ cM : ClassId) (h : Nat) (a : Nat → Nat) (ti_keys : Nat → Int32) (ti_times : Nat → Int32) (ti_count : Int32) (ti_now : Int32) : va_W := [(h, .inr (6, [.ref (a 0), .ref (a 1), .int ti_count, .int ti_now])), (a 0, .inl (cI, 40, .inl ti_keys)), (a 1, .inl (cI, 40, .inl ti_times))]
def wv_x (cI cJ cZ cM : ClassId) (h : Nat) (a : Nat → Nat) (x_places : Int32) (x_round : Int32) (x_threshold : Int32) (x_slack : Int32) (r_folds : Nat) (r_keyStates : Nat) (r_counters : Nat) (r_smalls : Nat) (r_timers : Nat) (r_log : Nat) (x_marks : Nat → Option Nat) (x_loads : Nat → Int32) (x_markCount : Int32) (x_rows : Int32) (x_roundRows : Int32) (x_rounds : Int32) (x_flips : Int32) (x_passedOver : Int32) : va_W := [(h, .inr (7, [.int x_places, .int x_round, .int x_threshold, .int x_slack, .ref r_folds, .ref r_keyStates, .ref r_counters, .ref r_smalls, .ref r_timers, .ref r_log, .ref (a 10), .ref (a 11), .int x_markCount, .int x_rows, .int x_roundRows, .int x_rounds, .int x_flips, .int x_passedOver])), (a 10, .inl (cM, 4, .inr (.inr (.inr (.inr x_marks))))), (a 11, .inl (cI, 8, .inl x_loads))]
def wv_d (cI cJ cZ cM : ClassId) (h : Nat) (a : Nat → Nat) (d_p : Int32) (d_r : Int32) (d_t : Int32) (d_slack : Int32) (d_m : Int32) (d_folds : Int32) (d_kinds : Nat → Int32) (d_declared : Nat → Int32) (d_states : Nat → Int64) (d_lastRow : Nat → Int32) (d_lastValue : Nat → Int32) (d_hasValue : Nat → Int32) (d_touched : Nat → Int32) (d_parts : Nat → Int32) (d_rows : Int32) (d_inRound : Int32) (d_rounds : Int32) (d_flips : Int32) (d_passed : Int32) (d_matches : Int32) (d_moved : Int32) (d_time : Int32) (d_out : Int64) (d_loads : Nat → Int32) (d_counterKey : Nat → Int32) (d_counterCount : Nat → Int32) (d_counterError : Nat → Int32) (d_smalls : Int32) (d_smallKey : Nat → Int32) (d_smallWeight : Nat → Int32) (d_timers : Int32) (d_timerKey : Nat → Int32) (d_timerTime : Nat → Int32) (d_logged : Int32) (d_logKey : Nat → Int32) (d_logTime : Nat → Int32) (d_logState : Nat → Int64) (d_marks : Int32) (d_markState : Nat → Int64) (d_markValue : Nat → Int32) (d_markHas : Nat → Int32) (d_markSmalls : Nat → Int32) (d_markSmallKey : Nat → Int32) (d_markSmallWeight : Nat → Int32) (d_markTimers : Nat → Int32) (d_markTimerKey : Nat → Int32) (d_markTimerTime : Nat → Int32) (d_markTime : Nat → Int32) (d_markRows : Nat → Int32) (d_markMatches : Nat → Int32) (d_markOut : Nat → Int64) (d_comes : Nat → Int64) : va_W := [(h, .inr (8, [.int d_p, .int d_r, .int d_t, .int d_slack, .int d_m, .int d_folds, .ref (a 6), .ref (a 7), .ref (a 8), .ref (a 9), .ref (a 10), .ref (a 11), .ref (a 12), .ref (a 13), .int d_rows, .int d_inRound, .int d_rounds, .int d_flips, .int d_passed, .int d_matches, .int d_moved, .int d_time, .long d_out, .ref (a 23), .ref (a 24), .ref (a 25), .ref (a 26), .int d_smalls, .ref (a 28), .ref (a 29), .int d_timers, .ref (a 31), .ref (a 32), .int d_logged, .ref (a 34), .ref (a 35), .ref (a 36), .int d_marks, .ref (a 38), .ref (a 39), .ref (a 40), .ref (a 41), .ref (a 42), .ref (a 43), .ref (a 44), .ref (a 45), .ref (a 46), .ref (a 47), .ref (a 48), .ref (a 49), .ref (a 50), .ref (a 51)])), (a 6, .inl (cI, 6, .inl d_kinds)), (a 7, .inl (cZ, 6, .inl d_declared)), (a 8, .inl (cJ, 4800, .inr (.inl d_states))), (a 9, .inl (cI, 800, .inl d_lastRow)), (a 10, .inl (cI, 800, .inl d_lastValue)), (a 11, .inl (cZ, 800, .inl d_hasValue)), (a 12, .inl (cZ, 800, .inl d_touched)), (a 13, .inl (cI, 100, .inl d_parts)), (a 23, .inl (cI, 8, .inl d_loads)), (a 24, .inl (cI, 12, .inl d_counterKey)), (a 25, .inl (cI, 12, .inl d_counterCount)), (a 26, .inl (cI, 12, .inl d_counterError)), (a 28, .inl (cI, 60, .inl d_smallKey)), (a 29, .inl (cI, 60, .inl d_smallWeight)), (a 31, .inl (cI, 40, .inl d_timerKey)), (a 32, .inl (cI, 40, .inl d_timerTime)), (a 34, .inl (cI, 64, .inl d_logKey)), (a 35, .inl (cI, 64, .inl d_logTime)), (a 36, .inl (cJ, 384, .inr (.inl d_logState))), (a 38, .inl (cJ, 2400, .inr (.inl d_markState))), (a 39, .inl (cI, 400, .inl d_markValue)), (a 40, .inl (cZ, 400, .inl d_markHas)), (a 41, .inl (cI, 4, .inl d_markSmalls)), (a 42, .inl (cI, 240, .inl d_markSmallKey)), (a 43, .inl (cI, 240, .inl d_markSmallWeight)), (a 44, .inl (cI, 4, .inl d_markTimers)), (a 45, .inl (cI, 160, .inl d_markTimerKey)), (a 46, .inl (cI, 160, .inl d_markTimerTime)), (a 47, .inl (cI, 4, .inl d_markTime)), (a 48, .inl (cI, 4, .inl d_markRows)), (a 49, .inl (cI, 4, .inl d_markMatches)), (a 50, .inl (cJ, 4, .inr (.inl d_markOut))), (a 51, .inl (cJ, 6, .inr (.inl d_comes)))]
def hk_ushr (x y : Int32) : Int32 := (x.toUInt32 >>> (y.toUInt32 &&& Int32.toUInt32 31)).toInt32
def hk_lshl (x : Int64) (y : Int32) : Int64 := x <<< (y.toInt64 &&& 63)
theorem hk_nz {r : Int32} (h : r = 0 ∨ r = 1) : narrow .boolean (.int r) = .int r := by rcases h with rfl | rfl <;> rfl
def hk_lp {σ : Type} (body : (σ → Prop) → σ → Prop) : Nat → σ → Prop
  | 0 => fun _ => False
  | n + 1 => fun v => body (hk_lp body n) v
end
section
theorem hk_ext_i {D : va_G} {q n : Nat} {cA : ClassId} {g g2 : Nat → Int32} {H : Heap} (h : va_P D vwCl [(q, .inl (cA, n, .inl g))] H) (e : ∀ j, j < n → g j = g2 j) : va_P D vwCl [(q, .inl (cA, n, .inl g2))] H := by
  have h0 : H[q]? = some (vp_cell cA (n, .inl g)) := h 0 _ rfl
  have hf : (fun j : Fin n => Value.int (g j.val)) = fun j : Fin n => Value.int (g2 j.val) := funext fun j => by rw [e j.val j.isLt]
  have hc : vp_cell cA (n, .inl g) = vp_cell cA (n, .inl g2) := by
    rw [vp_cell_i, vp_cell_i]
    simp only [arrV, hf]
  intro k x hk
  match k, hk with
  | 0, hk => cases hk; show H[q]? = some (vp_cell cA (n, .inl g2)); rw [h0, hc]
  | k + 1, hk => simp at hk
theorem hk_ext_l {D : va_G} {q n : Nat} {cA : ClassId} {g g2 : Nat → Int64} {H : Heap} (h : va_P D vwCl [(q, .inl (cA, n, .inr (.inl g)))] H) (e : ∀ j, j < n → g j = g2 j) : va_P D vwCl [(q, .inl (cA, n, .inr (.inl g2)))] H := by
  have h0 : H[q]? = some (vp_cell cA (n, .inr (.inl g))) := h 0 _ rfl
  have hf : (fun j : Fin n => Value.long (g j.val)) = fun j : Fin n => Value.long (g2 j.val) := funext fun j => by rw [e j.val j.isLt]
  have hc : vp_cell cA (n, .inr (.inl g)) = vp_cell cA (n, .inr (.inl g2)) := by
    rw [vp_cell_l, vp_cell_l]
    simp only [arrV, hf]
  intro k x hk
  match k, hk with
  | 0, hk => cases hk; show H[q]? = some (vp_cell cA (n, .inr (.inl g2))); rw [h0, hc]
  | k + 1, hk => simp at hk
theorem hk_dif {A : Nat → Prop} {q : Nat} {e1 e2 : va_E} (h : va_D A [(q, e1)]) : va_D A [(q, e2)] := h.set (p := 0) (a := q) (e0 := e1) (e := e2) rfl
def hk_fillr (f : Nat → Int64) (a b : Nat) (v : Int64) : Nat → Int64 := fun j => if a ≤ j ∧ j < b then v else f j
theorem mm_Arrays_rc : hk_MS yJ7_rangeCheck_23922 cJ7_rangeCheck_23922 3 none 3 := ⟨hw_624, hw_623, hw_86, by decide +kernel⟩
set_option maxRecDepth 100000 in
set_option maxHeartbeats 4000000 in
theorem c_Arrays_rc (l : Launch) (D : va_G) (ty : List (ClassId × FieldType)) (n a b : Int32) (h1 : ¬ b < a) (h2 : ¬ a < 0) (h3 : b ≤ n) : Met l yJ7_rangeCheck_23922 (hk_ws yJ7_rangeCheck_23922 cJ7_rangeCheck_23922 3 none) (hk_rm 0 0) (va_Pc [.int n, .int a, .int b] (hk_PR D ty [])) (va_Sv (fun _ => True)) 0 0 (fun _ => False) := by
  refine va_MetF (cc := cJ7_rangeCheck_23922) (maxL := 3) (ret := none) (by decide) rfl ?_
  intro p e s m args below meth c s₁ B hml hv
  obtain ⟨rfl, hP, hK, hN⟩ := hv
  have hx := B.exec
  have hb := B.bytes
  have hr := B.returns
  have hlocks := B.notSynchronized
  have hl := lv_entry ([.int n, .int a, .int b]) (n := 3) (Nat.le_of_ble_eq_true rfl)
  rw [lg_entry_eq]
  generalize (lg_sl ([.int n, .int a, .int b]) ++ List.replicate (3 - (lg_sl ([.int n, .int a, .int b])).length) Slot.unset).toArray = ls at hl ⊢
  have hl : lv_has ls 3 [(0, .int n), (1, .int a), (2, .int b)] := hl
  refine lv_iload_n hx hb dJ7_rangeCheck_23922_0 rfl (lv_at hl 1 rfl) ?_
  refine lv_iload_n hx hb dJ7_rangeCheck_23922_1 rfl (lv_at hl 2 rfl) ?_
  refine lv_icmp_le (tgt := 46) hx hb dJ7_rangeCheck_23922_2 (by decide) (fun _ => ?_) (fun q => absurd (Int32.not_lt.mp h1) q)
  refine lv_iload_n hx hb dJ7_rangeCheck_23922_46 rfl (lv_at hl 1 rfl) ?_
  refine lv_if_ge (tgt := 59) hx hb dJ7_rangeCheck_23922_47 (by decide) (fun _ => ?_) (fun q => absurd (Int32.not_lt.mp h2) q)
  refine lv_iload_n hx hb dJ7_rangeCheck_23922_59 rfl (lv_at hl 2 rfl) ?_
  refine lv_iload_n hx hb dJ7_rangeCheck_23922_60 rfl (lv_at hl 0 rfl) ?_
  refine lv_icmp_le (tgt := 73) hx hb dJ7_rangeCheck_23922_61 (by decide) (fun _ => ?_) (fun q => absurd h3 q)
  exact W.vret hx hb hr (fun t ht hW => ⟨rfl, trivial, ht⟩) (fun _ hq => by cases hq) dJ7_rangeCheck_23922_73
theorem mm_Arrays_fill_i : hk_MS yJ7_fill_53178 cJ7_fill_53178 4 none 2 := ⟨hw_256, hw_255, hw_86, by decide +kernel⟩
set_option maxRecDepth 100000 in
set_option maxHeartbeats 4000000 in
theorem c_Arrays_fill_i (l : Launch) (D : va_G) (cI cJ cZ cM : ClassId) (q n sz : Nat) (f : Nat → Int32) (v : Int32) (hn : n < 2 ^ 31) : Met l yJ7_fill_53178 (hk_ws yJ7_fill_53178 cJ7_fill_53178 4 none) (hk_rm 0 0) (va_Pc [.ref q, .int v] (hk_PM D (hk_ty cI cJ cZ cM) sz [(q, .inl (cI, n, .inl f))])) (va_Qv (fun (g : Nat → Int32) => g = fun _ => v) (hk_B D (va_A [(q, .inl (cI, n, .inl f))] sz) (fun (g : Nat → Int32) => [(q, .inl (cI, n, .inl g))])) (va_A [(q, .inl (cI, n, .inl f))] sz)) 0 0 (va_A [(q, .inl (cI, n, .inl f))] sz) := by
  refine va_MetF (cc := cJ7_fill_53178) (maxL := 4) (ret := none) (by decide) rfl ?_
  intro p e s m args below meth c s₁ B hml hv
  obtain ⟨rfl, hsz, hP, hK, hD0, hN⟩ := hv
  have hx := B.exec
  have hb := B.bytes
  have hr := B.returns
  have hts := atoms_spec (ws := hk_ws yJ7_fill_53178 cJ7_fill_53178 4 none) B.pre
  have hta : ∀ w ∈ hk_all, w.before ([.ref q, .int v] : List Value).toArray s = true := fun w hw => hts w (List.mem_cons_of_mem _ hw)
  have hown : s.vm.findClass RJ7 = some m.cls := findClass_of_methodNamed B.named
  have hlocks := B.notSynchronized
  have S0 : CallFix p m c cJ7_fill_53178 4 s ([.ref q, .int v] : List Value).toArray hk_all RJ7 := ⟨hx, hb, hml, hown, hta⟩
  subst hsz
  have hD := hD0.self (sz := s.heap.size)
  generalize hAe : va_A [(q, .inl (cI, n, .inl f))] s.heap.size = A at hD ⊢
  have hA : ∀ q : Nat, s.heap.size ≤ q → A q := fun q h => by rw [← hAe]; exact Or.inr h
  have hS : va_S A s.heap s.heap [] := va_S.rf
  have hl := lv_entry ([.ref q, .int v]) (n := 4) (Nat.le_of_ble_eq_true rfl)
  rw [lg_entry_eq]
  generalize (lg_sl ([.ref q, .int v]) ++ List.replicate (4 - (lg_sl ([.ref q, .int v])).length) Slot.unset).toArray = ls at hl ⊢
  have hl : lv_has ls 4 [(0, .ref q), (1, .int v)] := hl
  have P : ∀ (d k : Nat) (g : Nat → Int32) (H : Heap) (locs : List Loc) (ls : Array Slot), k + d = n → (∀ j, j < k → g j = v) → va_P D vwCl [(q, .inl (cI, n, .inl g))] H → va_D A [(q, .inl (cI, n, .inl g))] → va_S A s.heap H locs → lv_has ls 4 [(0, .ref q), (1, .int v), (2, .int (nI k)), (3, .int (nI n))] → W p l e (headSpec (hk_ws yJ7_fill_53178 cJ7_fill_53178 4 none) (hk_rm 0 0)).room s m ([.ref q, .int v] : List Value).toArray below meth c H locs 0 0 (MQ below (va_Qv (fun (g : Nat → Int32) => g = fun _ => v) (hk_B D (A) (fun (g : Nat → Int32) => [(q, .inl (cI, n, .inl g))])) (A)) ([.ref q, .int v] : List Value).toArray s 0 0 A) (F0 m 5 ls []) := by
    intro d
    induction d with
    | zero =>
      intro k g H locs ls hk hg hP hD hS hl
      refine lv_iload_n hx hb dJ7_fill_53178_5 rfl (lv_at hl 2 rfl) ?_
      refine lv_iload_n hx hb dJ7_fill_53178_6 rfl (lv_at hl 3 rfl) ?_
      refine lv_icmp_ge (tgt := 20) hx hb dJ7_fill_53178_7 (by decide) (fun _ => ?_) (fun z => absurd (nI_le (by omega) (by omega)) z)
      exact W.vret hx hb hr (fun t ht hW => ⟨⟨fun _ => v, rfl, rfl, by rw [ht]; exact hk_ext_i hP (fun j hj => hg j (by omega)), hk_dif hD⟩, hS.F ht⟩) hS.2.2 dJ7_fill_53178_20
    | succ d ih =>
      intro k g H locs ls hk hg hP hD hS hl
      refine lv_iload_n hx hb dJ7_fill_53178_5 rfl (lv_at hl 2 rfl) ?_
      refine lv_iload_n hx hb dJ7_fill_53178_6 rfl (lv_at hl 3 rfl) ?_
      refine lv_icmp_ge (tgt := 20) hx hb dJ7_fill_53178_7 (by decide) (fun z => absurd z (nI_ge (by omega) hn)) (fun _ => ?_)
      refine lv_aload_n hx hb dJ7_fill_53178_10 rfl (lv_at hl 0 rfl) ?_
      refine lv_iload_n hx hb dJ7_fill_53178_11 rfl (lv_at hl 2 rfl) ?_
      refine lv_iload_n hx hb dJ7_fill_53178_12 rfl (lv_at hl 1 rfl) ?_
      refine va_iast hx hb hK hP hD hS 0 0 rfl rfl (vp_in_nI (by omega) hn) dJ7_fill_53178_13 (fun H locs hP hD hS => ?_)
      rw [nI_clamp (show k < 2 ^ 31 by omega)] at hP hD
      refine lv_iinc (v := nI (k + 1)) (lv' := [(2, .int (nI (k + 1))), (0, .ref q), (1, .int v), (3, .int (nI n))]) hx hb dJ7_fill_53178_14 hl (k := 2) rfl (nI_1 k) (by decide) rfl (fun ls hl => ?_)
      refine lv_goto (tgt := 5) hx hb dJ7_fill_53178_17 (by decide) ?_
      refine ih (k + 1) _ H locs ls (by omega) ?_ hP hD hS (lv_sub hl [1, 2, 0, 3] rfl)
      intro j hj
      by_cases hjk : j = k
      · subst hjk; exact pk_us
      · rw [pk_un hjk]; exact hg j (by omega)
  refine lv_iconst (v := 0) hx hb dJ7_fill_53178_0 (by decide) ?_
  refine lv_istore_n (lv' := [(2, .int 0), (0, .ref q), (1, .int v)]) hx hb dJ7_fill_53178_1 rfl hl (by decide) rfl (fun ls hl => ?_)
  refine lv_aload_n hx hb dJ7_fill_53178_2 rfl (lv_at hl 1 rfl) ?_
  refine va_alen (v := nI n) hx hb hK hP 0 0 rfl rfl rfl dJ7_fill_53178_3 ?_
  refine lv_istore_n (lv' := [(3, .int (nI n)), (2, .int 0), (0, .ref q), (1, .int v)]) hx hb dJ7_fill_53178_4 rfl hl (by decide) rfl (fun ls hl => ?_)
  exact P n 0 f s.heap [] ls (by omega) (fun j hj => absurd hj (Nat.not_lt_zero j)) hP hD hS (lv_sub hl [2, 3, 1, 0] rfl)
theorem mm_Arrays_fill_l : hk_MS yJ7_fill_d0a16 cJ7_fill_d0a16 5 none 2 := ⟨hw_260, hw_259, hw_86, by decide +kernel⟩
set_option maxRecDepth 100000 in
set_option maxHeartbeats 4000000 in
theorem c_Arrays_fill_l (l : Launch) (D : va_G) (cI cJ cZ cM : ClassId) (q n sz : Nat) (f : Nat → Int64) (v : Int64) (hn : n < 2 ^ 31) : Met l yJ7_fill_d0a16 (hk_ws yJ7_fill_d0a16 cJ7_fill_d0a16 5 none) (hk_rm 0 0) (va_Pc [.ref q, .long v] (hk_PM D (hk_ty cI cJ cZ cM) sz [(q, .inl (cJ, n, .inr (.inl f)))])) (va_Qv (fun (g : Nat → Int64) => g = fun _ => v) (hk_B D (va_A [(q, .inl (cJ, n, .inr (.inl f)))] sz) (fun (g : Nat → Int64) => [(q, .inl (cJ, n, .inr (.inl g)))])) (va_A [(q, .inl (cJ, n, .inr (.inl f)))] sz)) 0 0 (va_A [(q, .inl (cJ, n, .inr (.inl f)))] sz) := by
  refine va_MetF (cc := cJ7_fill_d0a16) (maxL := 5) (ret := none) (by decide) rfl ?_
  intro p e s m args below meth c s₁ B hml hv
  obtain ⟨rfl, hsz, hP, hK, hD0, hN⟩ := hv
  have hx := B.exec
  have hb := B.bytes
  have hr := B.returns
  have hts := atoms_spec (ws := hk_ws yJ7_fill_d0a16 cJ7_fill_d0a16 5 none) B.pre
  have hta : ∀ w ∈ hk_all, w.before ([.ref q, .long v] : List Value).toArray s = true := fun w hw => hts w (List.mem_cons_of_mem _ hw)
  have hown : s.vm.findClass RJ7 = some m.cls := findClass_of_methodNamed B.named
  have hlocks := B.notSynchronized
  have S0 : CallFix p m c cJ7_fill_d0a16 5 s ([.ref q, .long v] : List Value).toArray hk_all RJ7 := ⟨hx, hb, hml, hown, hta⟩
  subst hsz
  have hD := hD0.self (sz := s.heap.size)
  generalize hAe : va_A [(q, .inl (cJ, n, .inr (.inl f)))] s.heap.size = A at hD ⊢
  have hA : ∀ q : Nat, s.heap.size ≤ q → A q := fun q h => by rw [← hAe]; exact Or.inr h
  have hS : va_S A s.heap s.heap [] := va_S.rf
  have hl := lv_entry ([.ref q, .long v]) (n := 5) (Nat.le_of_ble_eq_true rfl)
  rw [lg_entry_eq]
  generalize (lg_sl ([.ref q, .long v]) ++ List.replicate (5 - (lg_sl ([.ref q, .long v])).length) Slot.unset).toArray = ls at hl ⊢
  have hl : lv_has ls 5 [(0, .ref q), (1, .long v)] := hl
  have P : ∀ (d k : Nat) (g : Nat → Int64) (H : Heap) (locs : List Loc) (ls : Array Slot), k + d = n → (∀ j, j < k → g j = v) → va_P D vwCl [(q, .inl (cJ, n, .inr (.inl g)))] H → va_D A [(q, .inl (cJ, n, .inr (.inl g)))] → va_S A s.heap H locs → lv_has ls 5 [(0, .ref q), (1, .long v), (3, .int (nI k)), (4, .int (nI n))] → W p l e (headSpec (hk_ws yJ7_fill_d0a16 cJ7_fill_d0a16 5 none) (hk_rm 0 0)).room s m ([.ref q, .long v] : List Value).toArray below meth c H locs 0 0 (MQ below (va_Qv (fun (g : Nat → Int64) => g = fun _ => v) (hk_B D (A) (fun (g : Nat → Int64) => [(q, .inl (cJ, n, .inr (.inl g)))])) (A)) ([.ref q, .long v] : List Value).toArray s 0 0 A) (F0 m 6 ls []) := by
    intro d
    induction d with
    | zero =>
      intro k g H locs ls hk hg hP hD hS hl
      refine lv_iload_n hx hb dJ7_fill_d0a16_6 rfl (lv_at hl 2 rfl) ?_
      refine lv_iload hx hb dJ7_fill_d0a16_7 (lv_at hl 3 rfl) ?_
      refine lv_icmp_ge (tgt := 22) hx hb dJ7_fill_d0a16_9 (by decide) (fun _ => ?_) (fun z => absurd (nI_le (by omega) (by omega)) z)
      exact W.vret hx hb hr (fun t ht hW => ⟨⟨fun _ => v, rfl, rfl, by rw [ht]; exact hk_ext_l hP (fun j hj => hg j (by omega)), hk_dif hD⟩, hS.F ht⟩) hS.2.2 dJ7_fill_d0a16_22
    | succ d ih =>
      intro k g H locs ls hk hg hP hD hS hl
      refine lv_iload_n hx hb dJ7_fill_d0a16_6 rfl (lv_at hl 2 rfl) ?_
      refine lv_iload hx hb dJ7_fill_d0a16_7 (lv_at hl 3 rfl) ?_
      refine lv_icmp_ge (tgt := 22) hx hb dJ7_fill_d0a16_9 (by decide) (fun z => absurd z (nI_ge (by omega) hn)) (fun _ => ?_)
      refine lv_aload_n hx hb dJ7_fill_d0a16_12 rfl (lv_at hl 0 rfl) ?_
      refine lv_iload_n hx hb dJ7_fill_d0a16_13 rfl (lv_at hl 2 rfl) ?_
      refine lv_lload_n hx hb dJ7_fill_d0a16_14 rfl (lv_at hl 1 rfl) ?_
      refine va_last hx hb hK hP hD hS 0 1 rfl rfl (vp_in_nI (by omega) hn) dJ7_fill_d0a16_15 (fun H locs hP hD hS => ?_)
      rw [nI_clamp (show k < 2 ^ 31 by omega)] at hP hD
      refine lv_iinc (v := nI (k + 1)) (lv' := [(3, .int (nI (k + 1))), (0, .ref q), (1, .long v), (4, .int (nI n))]) hx hb dJ7_fill_d0a16_16 hl (k := 2) rfl (nI_1 k) (by decide) rfl (fun ls hl => ?_)
      refine lv_goto (tgt := 6) hx hb dJ7_fill_d0a16_19 (by decide) ?_
      refine ih (k + 1) _ H locs ls (by omega) ?_ hP hD hS (lv_sub hl [1, 2, 0, 3] rfl)
      intro j hj
      by_cases hjk : j = k
      · subst hjk; exact pk_uLs
      · rw [pk_uLn hjk]; exact hg j (by omega)
  refine lv_iconst (v := 0) hx hb dJ7_fill_d0a16_0 (by decide) ?_
  refine lv_istore_n (lv' := [(3, .int 0), (0, .ref q), (1, .long v)]) hx hb dJ7_fill_d0a16_1 rfl hl (by decide) rfl (fun ls hl => ?_)
  refine lv_aload_n hx hb dJ7_fill_d0a16_2 rfl (lv_at hl 1 rfl) ?_
  refine va_alen (v := nI n) hx hb hK hP 0 1 rfl rfl rfl dJ7_fill_d0a16_3 ?_
  refine lv_istore (lv' := [(4, .int (nI n)), (3, .int 0), (0, .ref q), (1, .long v)]) hx hb dJ7_fill_d0a16_4 hl (by decide) rfl (fun ls hl => ?_)
  exact P n 0 f s.heap [] ls (by omega) (fun j hj => absurd hj (Nat.not_lt_zero j)) hP hD hS (lv_sub hl [2, 3, 1, 0] rfl)
theorem mm_Arrays_fill_r : hk_MS yJ7_fill_bad5a cJ7_fill_bad5a 6 none 4 := ⟨hw_621, hw_620, hw_86, by decide +kernel⟩
set_option maxRecDepth 100000 in
set_option maxHeartbeats 4000000 in
theorem c_Arrays_fill_r (l : Launch) (D : va_G) (cI cJ cZ cM : ClassId) (q n sz : Nat) (f : Nat → Int64) (a b : Int32) (v : Int64) (hn : n < 2 ^ 31) (h1 : ¬ b < a) (h2 : ¬ a < 0) (h3 : b.toNatClampNeg ≤ n) : Met l yJ7_fill_bad5a (hk_ws yJ7_fill_bad5a cJ7_fill_bad5a 6 none) (hk_rm 1 22) (va_Pc [.ref q, .int a, .int b, .long v] (hk_PM D (hk_ty cI cJ cZ cM) sz [(q, .inl (cJ, n, .inr (.inl f)))])) (va_Qv (fun (g : Nat → Int64) => g = hk_fillr f a.toNatClampNeg b.toNatClampNeg v) (hk_B D (va_A [(q, .inl (cJ, n, .inr (.inl f)))] sz) (fun (g : Nat → Int64) => [(q, .inl (cJ, n, .inr (.inl g)))])) (va_A [(q, .inl (cJ, n, .inr (.inl f)))] sz)) 0 0 (va_A [(q, .inl (cJ, n, .inr (.inl f)))] sz) := by
  refine va_MetF (cc := cJ7_fill_bad5a) (maxL := 6) (ret := none) (by decide) rfl ?_
  intro p e s m args below meth c s₁ B hml hv
  obtain ⟨rfl, hsz, hP, hK, hD0, hN⟩ := hv
  have hx := B.exec
  have hb := B.bytes
  have hr := B.returns
  have hts := atoms_spec (ws := hk_ws yJ7_fill_bad5a cJ7_fill_bad5a 6 none) B.pre
  have hta : ∀ w ∈ hk_all, w.before ([.ref q, .int a, .int b, .long v] : List Value).toArray s = true := fun w hw => hts w (List.mem_cons_of_mem _ hw)
  have hown : s.vm.findClass RJ7 = some m.cls := findClass_of_methodNamed B.named
  have hlocks := B.notSynchronized
  have S0 : CallFix p m c cJ7_fill_bad5a 6 s ([.ref q, .int a, .int b, .long v] : List Value).toArray hk_all RJ7 := ⟨hx, hb, hml, hown, hta⟩
  subst hsz
  have hD := hD0.self (sz := s.heap.size)
  generalize hAe : va_A [(q, .inl (cJ, n, .inr (.inl f)))] s.heap.size = A at hD ⊢
  have hA : ∀ q : Nat, s.heap.size ≤ q → A q := fun q h => by rw [← hAe]; exact Or.inr h
  have hS : va_S A s.heap s.heap [] := va_S.rf
  have hl := lv_entry ([.ref q, .int a, .int b, .long v]) (n := 6) (Nat.le_of_ble_eq_true rfl)
  rw [lg_entry_eq]
  generalize (lg_sl ([.ref q, .int a, .int b, .long v]) ++ List.replicate (6 - (lg_sl ([.ref q, .int a, .int b, .long v])).length) Slot.unset).toArray = ls at hl ⊢
  have hl : lv_has ls 6 [(0, .ref q), (1, .int a), (2, .int b), (3, .long v)] := hl
  obtain ⟨x, hx31, rfl⟩ := nI_of h2
  obtain ⟨z, hz31, rfl⟩ := nI_of (x := b) (fun hh => h1 (by first | exact Int32.lt_of_lt_of_le hh (nI_pos' hx31) | exact Int32.lt_of_lt_of_le hh (nI_pos' (n := x) hx31)))
  have hxz : x ≤ z := by
    rcases Nat.lt_or_ge z x with hq | hq
    · exact absurd ((nI_ltI hz31 hx31).mpr hq) h1
    · exact hq
  simp only [nI_clamp hx31, nI_clamp hz31] at h3 ⊢
  have P : ∀ (d k : Nat) (g : Nat → Int64) (H : Heap) (locs : List Loc) (ls : Array Slot), k + d = z → x ≤ k → (∀ j, j < n → g j = hk_fillr f x k v j) → va_P D vwCl [(q, .inl (cJ, n, .inr (.inl g)))] H → va_D A [(q, .inl (cJ, n, .inr (.inl g)))] → va_S A s.heap H locs → lv_has ls 6 [(0, .ref q), (2, .int (nI z)), (3, .long v), (5, .int (nI k))] → W p l e (headSpec (hk_ws yJ7_fill_bad5a cJ7_fill_bad5a 6 none) (hk_rm 1 22)).room s m ([.ref q, .int (nI x), .int (nI z), .long v] : List Value).toArray below meth c H locs 0 0 (MQ below (va_Qv (fun (g : Nat → Int64) => g = hk_fillr f x z v) (hk_B D A (fun (g : Nat → Int64) => [(q, .inl (cJ, n, .inr (.inl g)))])) A) ([.ref q, .int (nI x), .int (nI z), .long v] : List Value).toArray s 0 0 A) (F0 m 10 ls []) := by
    intro d
    induction d with
    | zero =>
      intro k g H locs ls hk hxk hg hP hD hS hl
      refine lv_iload hx hb dJ7_fill_bad5a_10 (lv_at hl 3 rfl) ?_
      refine lv_iload_n hx hb dJ7_fill_bad5a_12 rfl (lv_at hl 1 rfl) ?_
      refine lv_icmp_ge (tgt := 27) hx hb dJ7_fill_bad5a_13 (by decide) (fun _ => ?_) (fun w => absurd (nI_le (by omega) (by omega)) w)
      have hkz : k = z := by omega
      subst hkz
      exact W.vret hx hb hr (fun t ht hW => ⟨⟨_, rfl, rfl, by rw [ht]; exact hk_ext_l hP hg, hk_dif hD⟩, hS.F ht⟩) hS.2.2 dJ7_fill_bad5a_27
    | succ d ih =>
      intro k g H locs ls hk hxk hg hP hD hS hl
      refine lv_iload hx hb dJ7_fill_bad5a_10 (lv_at hl 3 rfl) ?_
      refine lv_iload_n hx hb dJ7_fill_bad5a_12 rfl (lv_at hl 1 rfl) ?_
      refine lv_icmp_ge (tgt := 27) hx hb dJ7_fill_bad5a_13 (by decide) (fun w => absurd w (nI_ge (by omega) hz31)) (fun _ => ?_)
      refine lv_aload_n hx hb dJ7_fill_bad5a_16 rfl (lv_at hl 0 rfl) ?_
      refine lv_iload hx hb dJ7_fill_bad5a_17 (lv_at hl 3 rfl) ?_
      refine lv_lload_n hx hb dJ7_fill_bad5a_19 rfl (lv_at hl 2 rfl) ?_
      refine va_last hx hb hK hP hD hS 0 1 rfl rfl (vp_in_nI (by omega) hn) dJ7_fill_bad5a_20 (fun H locs hP hD hS => ?_)
      rw [nI_clamp (show k < 2 ^ 31 by omega)] at hP hD
      refine lv_iinc (v := nI (k + 1)) (lv' := [(5, .int (nI (k + 1))), (0, .ref q), (2, .int (nI z)), (3, .long v)]) hx hb dJ7_fill_bad5a_21 hl (k := 3) rfl (nI_1 k) (by decide) rfl (fun ls hl => ?_)
      refine lv_goto (tgt := 10) hx hb dJ7_fill_bad5a_24 (by decide) ?_
      refine ih (k + 1) _ H locs ls (by omega) (by omega) ?_ hP hD hS (lv_sub hl [1, 2, 3, 0] rfl)
      intro j hj
      by_cases hjk : j = k
      · subst hjk; rw [pk_uLs]; simp only [hk_fillr]; rw [if_pos (by omega)]
      · rw [pk_uLn hjk, hg j hj]; simp only [hk_fillr]
        by_cases hc : x ≤ j ∧ j < k
        · rw [if_pos hc, if_pos (by omega)]
        · rw [if_neg hc, if_neg (by omega)]
  refine lv_aload_n hx hb dJ7_fill_bad5a_0 rfl (lv_at hl 0 rfl) ?_
  refine va_alen (v := nI n) hx hb hK hP 0 1 rfl rfl rfl dJ7_fill_bad5a_1 ?_
  refine lv_iload_n hx hb dJ7_fill_bad5a_2 rfl (lv_at hl 1 rfl) ?_
  refine lv_iload_n hx hb dJ7_fill_bad5a_3 rfl (lv_at hl 2 rfl) ?_
  refine va_csv (hk_runS (As := [.int (nI n), .int (nI x), .int (nI z)]) (rest := []) S0 mm_Arrays_rc (c_Arrays_rc l D (hk_ty cI cJ cZ cM) (nI n) (nI x) (nI z) h1 h2 (nI_le h3 hn)) hw_622 hk_blR (hk_atR (hP.sub (ws' := []) [] rfl) hK hN) ⟨rfl, rfl, Nat.le_of_ble_eq_true rfl, Nat.le_of_ble_eq_true rfl⟩ rfl hl.1 rfl (Nat.le_of_ble_eq_true rfl) dJ7_fill_bad5a_4 ⟨Nat.le_of_ble_eq_true rfl, Nat.le_of_ble_eq_true rfl⟩).run (fun _ => ?_)
  refine lv_iload_n hx hb dJ7_fill_bad5a_7 rfl (lv_at hl 1 rfl) ?_
  refine lv_istore (lv' := [(5, .int (nI x)), (0, .ref q), (1, .int (nI x)), (2, .int (nI z)), (3, .long v)]) hx hb dJ7_fill_bad5a_8 hl (by decide) rfl (fun ls hl => ?_)
  refine P (z - x) x f s.heap [] ls (by omega) (Nat.le_refl x) (fun j hj => ?_) hP hD hS (lv_sub hl [1, 3, 4, 0] rfl)
  simp only [hk_fillr]; rw [if_neg (by omega)]
end
section
def wp_Math_floorMod_7cf53 (p1 : Int32) (p2 : Int32)  (post : Int32 → Prop) : Prop := ¬ p2 = 0 ∧ (∀ x1 : Int32, x1 = p1 - p1 / p2 * p2 → (0 ≤ (p1 ^^^ p2) → post x1) ∧ (¬ 0 ≤ (p1 ^^^ p2) → (x1 = 0 → post x1) ∧ (¬ x1 = 0 → post (x1 + p2))))
theorem mm_Math_floorMod_7cf53 : hk_MS yJ9_floorMod_7cf53 cJ9_floorMod_7cf53 3 (some .int) 2 := ⟨hw_647, hw_646, hw_88, by decide +kernel⟩
set_option maxRecDepth 100000 in
set_option maxHeartbeats 4000000 in
theorem c_Math_floorMod_7cf53 (l : Launch) (D : va_G) (cI cJ cZ cM : ClassId)    (p1 : Int32) (p2 : Int32) (post : Int32 → Prop) (h : wp_Math_floorMod_7cf53 p1 p2 post) : Met l yJ9_floorMod_7cf53 (hk_ws yJ9_floorMod_7cf53 cJ9_floorMod_7cf53 3 (some .int)) (hk_rm 0 0) (va_Pc [.int p1, .int p2] (hk_PR D (hk_ty cI cJ cZ cM) (([] : va_W)))) (vp_Si post) 0 0 (fun _ => False) := by
  refine va_MetF (cc := cJ9_floorMod_7cf53) (maxL := 3) (ret := (some .int)) (by decide +kernel) rfl ?_
  intro p e s m args below meth c s₁ B hml hv
  obtain ⟨rfl, hP, hK, hN⟩ := hv
  have hx := B.exec
  have hb := B.bytes
  have hr := B.returns
  have hts := atoms_spec (ws := hk_ws yJ9_floorMod_7cf53 cJ9_floorMod_7cf53 3 (some .int)) B.pre
  have hta : ∀ w ∈ hk_all, w.before ([.int p1, .int p2] : List Value).toArray s = true := fun w hw => hts w (List.mem_cons_of_mem _ hw)
  have hown : s.vm.findClass RJ9 = some m.cls := findClass_of_methodNamed B.named
  have hlocks := B.notSynchronized
  have S0 : CallFix p m c cJ9_floorMod_7cf53 3 s ([.int p1, .int p2] : List Value).toArray hk_all RJ9 := ⟨hx, hb, hml, hown, hta⟩
  have hl := lv_entry ([.int p1, .int p2]) (n := 3) (Nat.le_of_ble_eq_true rfl)
  rw [lg_entry_eq]
  generalize (lg_sl ([.int p1, .int p2]) ++ List.replicate (3 - (lg_sl ([.int p1, .int p2])).length) Slot.unset).toArray = ls at hl ⊢
  have hl : lv_has ls 3 [(0, .int p1), (1, .int p2)] := hl
  unfold wp_Math_floorMod_7cf53 at h
  refine lv_iload_n hx hb dJ9_floorMod_7cf53_0 rfl (lv_at hl 0 rfl) ?_
  refine lv_iload_n hx hb dJ9_floorMod_7cf53_1 rfl (lv_at hl 1 rfl) ?_
  refine lv_irem hx hb dJ9_floorMod_7cf53_2 h.1 ?_
  have h := h.2
  refine lv_topi (fun x1 ex1 => ?_)
  have h := h x1 ex1
  refine lv_istore_n (lv' := [(2, .int x1), (0, .int p1), (1, .int p2)]) hx hb dJ9_floorMod_7cf53_3 rfl hl (by decide) rfl (fun ls hl => ?_)
  refine lv_iload_n hx hb dJ9_floorMod_7cf53_4 rfl (lv_at hl 1 rfl) ?_
  refine lv_iload_n hx hb dJ9_floorMod_7cf53_5 rfl (lv_at hl 2 rfl) ?_
  refine lv_ixor hx hb dJ9_floorMod_7cf53_6 ?_
  refine lv_if_ge (tgt := 18) hx hb dJ9_floorMod_7cf53_7 (by decide) (fun c2 => ?_) (fun c2 => ?_)
  · have h := h.1 c2
    refine lv_iload_n hx hb dJ9_floorMod_7cf53_18 rfl (lv_at hl 0 rfl) ?_
    exact W.iret (v := x1) hx hb hr (fun t ht hW => ⟨_, rfl, h, ht⟩) (fun _ hq => by cases hq) dJ9_floorMod_7cf53_19
  · have h := h.2 c2
    refine lv_iload_n hx hb dJ9_floorMod_7cf53_10 rfl (lv_at hl 0 rfl) ?_
    refine lv_if_eq (tgt := 18) hx hb dJ9_floorMod_7cf53_11 (by decide) (fun c3 => ?_) (fun c3 => ?_)
    · have h := h.1 c3
      refine lv_iload_n hx hb dJ9_floorMod_7cf53_18 rfl (lv_at hl 0 rfl) ?_
      exact W.iret (v := x1) hx hb hr (fun t ht hW => ⟨_, rfl, h, ht⟩) (fun _ hq => by cases hq) dJ9_floorMod_7cf53_19
    · have h := h.2 c3
      refine lv_iload_n hx hb dJ9_floorMod_7cf53_14 rfl (lv_at hl 0 rfl) ?_
      refine lv_iload_n hx hb dJ9_floorMod_7cf53_15 rfl (lv_at hl 2 rfl) ?_
      refine lv_iadd hx hb dJ9_floorMod_7cf53_16 ?_
      exact W.iret (v := x1 + p2) hx hb hr (fun t ht hW => ⟨_, rfl, h, ht⟩) (fun _ hq => by cases hq) dJ9_floorMod_7cf53_17
end
section
def wp_cn_put (p1 : Int32) (p2 : Int32) (p3 : Int32) (cn_keys : Nat → Int32) (cn_counts : Nat → Int32) (cn_errors : Nat → Int32) (post : ((Nat → Int32) × (Nat → Int32) × (Nat → Int32)) → Prop) : Prop := vp_in p1 12 ∧ (vp_in p1 12 ∧ (∀ x1 : Int32, x1 = p3 + 1 → vp_in p1 12 ∧ (post (upd cn_keys p1.toNatClampNeg p2, upd cn_counts p1.toNatClampNeg x1, upd cn_errors p1.toNatClampNeg p3))))
theorem mm_cn_put : hk_MV yX0_put cX0_put 4 none 3 := ⟨hw_420, hw_419, hw_19, hw_82, by decide +kernel⟩
set_option maxRecDepth 100000 in
set_option maxHeartbeats 4000000 in
theorem c_cn_put (l : Launch) (D : va_G) (cI cJ cZ cM : ClassId) (h_cn : Nat) (a_cn : Nat → Nat) (sz : Nat) (cn_keys : Nat → Int32) (cn_counts : Nat → Int32) (cn_errors : Nat → Int32) (cn_limit : Int32) (cn_used : Int32) (p1 : Int32) (p2 : Int32) (p3 : Int32) (post : ((Nat → Int32) × (Nat → Int32) × (Nat → Int32)) → Prop) (h : wp_cn_put p1 p2 p3 cn_keys cn_counts cn_errors post) : Met l yX0_put (hk_ws yX0_put cX0_put 4 none) (hk_rm 0 0) (va_Pc [.ref h_cn, .int p1, .int p2, .int p3] (hk_PM D (hk_ty cI cJ cZ cM) sz (wv_cn cI cJ cZ cM h_cn a_cn cn_keys cn_counts cn_errors cn_limit cn_used))) (va_Qv post (hk_B D (va_A (wv_cn cI cJ cZ cM h_cn a_cn cn_keys cn_counts cn_errors cn_limit cn_used) sz) (fun (u : (Nat → Int32) × (Nat → Int32) × (Nat → Int32)) => wv_cn cI cJ cZ cM h_cn a_cn u.1 u.2.1 u.2.2 cn_limit cn_used)) (va_A (wv_cn cI cJ cZ cM h_cn a_cn cn_keys cn_counts cn_errors cn_limit cn_used) sz)) 0 0 (va_A (wv_cn cI cJ cZ cM h_cn a_cn cn_keys cn_counts cn_errors cn_limit cn_used) sz) := by
  refine Met.ofW (cc := cX0_put) (maxL := 4) (ret := none) (by decide) rfl ?_
  intro p e s m args below meth c s₁ B hml hv
  obtain ⟨rfl, hsz, hP, hK, hD0, hN⟩ := hv
  have hx := B.exec
  have hb := B.bytes
  have hr := B.returns
  have hts := atoms_spec (ws := hk_ws yX0_put cX0_put 4 none) B.pre
  have hta : ∀ w ∈ hk_all, w.before ([.ref h_cn, .int p1, .int p2, .int p3] : List Value).toArray s = true := fun w hw => hts w (List.mem_cons_of_mem _ hw)
  have hown : s.vm.findClass RX0 = some m.cls := findClass_of_methodNamed B.named
  have hlocks := B.notSynchronized
  have S0 : CallFix p m c cX0_put 4 s ([.ref h_cn, .int p1, .int p2, .int p3] : List Value).toArray hk_all RX0 := ⟨hx, hb, hml, hown, hta⟩
  subst hsz
  have hD := hD0.self (sz := s.heap.size)
  generalize hAe : va_A (wv_cn cI cJ cZ cM h_cn a_cn cn_keys cn_counts cn_errors cn_limit cn_used) s.heap.size = A at hD ⊢
  have hA : ∀ q : Nat, s.heap.size ≤ q → A q := fun q h => by rw [← hAe]; exact Or.inr h
  have hS : va_S A s.heap s.heap [] := va_S.rf
  have hl := lv_entry ([.ref h_cn, .int p1, .int p2, .int p3]) (n := 4) (Nat.le_of_ble_eq_true rfl)
  rw [lg_entry_eq]
  generalize (lg_sl ([.ref h_cn, .int p1, .int p2, .int p3]) ++ List.replicate (4 - (lg_sl ([.ref h_cn, .int p1, .int p2, .int p3])).length) Slot.unset).toArray = ls at hl ⊢
  have hl : lv_has ls 4 [(0, .ref h_cn), (1, .int p1), (2, .int p2), (3, .int p3)] := hl
  unfold wp_cn_put at h
  refine lv_aload_n hx hb dX0_put_0 rfl (lv_at hl 0 rfl) ?_
  refine va_get (D := D) (ci := 0) (v := .ref (a_cn 0)) (C := RX0) (T := TX0) (N := 5) hx hb hta ih_X0 hown hK hP 0 rfl rfl 0 (by decide) (hta _ hw_152) (fun _ h9 => h9) rfl dX0_put_1 ?_
  refine lv_iload_n hx hb dX0_put_4 rfl (lv_at hl 1 rfl) ?_
  refine lv_iload_n hx hb dX0_put_5 rfl (lv_at hl 2 rfl) ?_
  refine va_iast hx hb hK hP hD hS 1 0 rfl rfl h.1 dX0_put_6 (fun H locs hP hD hS => ?_)
  have h := h.2
  have hP : va_P D vwCl (wv_cn cI cJ cZ cM h_cn a_cn (upd cn_keys p1.toNatClampNeg p2) cn_counts cn_errors cn_limit cn_used) H := hP
  have hD : va_D A (wv_cn cI cJ cZ cM h_cn a_cn (upd cn_keys p1.toNatClampNeg p2) cn_counts cn_errors cn_limit cn_used) := hD
  refine lv_aload_n hx hb dX0_put_7 rfl (lv_at hl 0 rfl) ?_
  refine va_get (D := D) (ci := 0) (v := .ref (a_cn 2)) (C := RX0) (T := TX0) (N := 5) hx hb hta ih_X0 hown hK hP 0 rfl rfl 2 (by decide) (hta _ hw_154) (fun _ h9 => h9) rfl dX0_put_8 ?_
  refine lv_iload_n hx hb dX0_put_11 rfl (lv_at hl 1 rfl) ?_
  refine lv_iload_n hx hb dX0_put_12 rfl (lv_at hl 3 rfl) ?_
  refine va_iast hx hb hK hP hD hS 3 0 rfl rfl h.1 dX0_put_13 (fun H locs hP hD hS => ?_)
  have h := h.2
  have hP : va_P D vwCl (wv_cn cI cJ cZ cM h_cn a_cn (upd cn_keys p1.toNatClampNeg p2) cn_counts (upd cn_errors p1.toNatClampNeg p3) cn_limit cn_used) H := hP
  have hD : va_D A (wv_cn cI cJ cZ cM h_cn a_cn (upd cn_keys p1.toNatClampNeg p2) cn_counts (upd cn_errors p1.toNatClampNeg p3) cn_limit cn_used) := hD
  refine lv_aload_n hx hb dX0_put_14 rfl (lv_at hl 0 rfl) ?_
  refine va_get (D := D) (ci := 0) (v := .ref (a_cn 1)) (C := RX0) (T := TX0) (N := 5) hx hb hta ih_X0 hown hK hP 0 rfl rfl 1 (by decide) (hta _ hw_153) (fun _ h9 => h9) rfl dX0_put_15 ?_
  refine lv_iload_n hx hb dX0_put_18 rfl (lv_at hl 1 rfl) ?_
  refine lv_iload_n hx hb dX0_put_19 rfl (lv_at hl 3 rfl) ?_
  refine lv_iconst (v := 1) hx hb dX0_put_20 (by decide) ?_
  refine lv_iadd hx hb dX0_put_21 ?_
  refine lv_topi (fun x1 ex1 => ?_)
  have h := h x1 ex1
  refine va_iast hx hb hK hP hD hS 2 0 rfl rfl h.1 dX0_put_22 (fun H locs hP hD hS => ?_)
  have h := h.2
  have hP : va_P D vwCl (wv_cn cI cJ cZ cM h_cn a_cn (upd cn_keys p1.toNatClampNeg p2) (upd cn_counts p1.toNatClampNeg x1) (upd cn_errors p1.toNatClampNeg p3) cn_limit cn_used) H := hP
  have hD : va_D A (wv_cn cI cJ cZ cM h_cn a_cn (upd cn_keys p1.toNatClampNeg p2) (upd cn_counts p1.toNatClampNeg x1) (upd cn_errors p1.toNatClampNeg p3) cn_limit cn_used) := hD
  exact W.vret hx hb hr (fun t ht hW => ⟨⟨(upd cn_keys p1.toNatClampNeg p2, upd cn_counts p1.toNatClampNeg x1, upd cn_errors p1.toNatClampNeg p3), rfl, h, by rw [ht]; exact hP, hD⟩, hS.F ht⟩) hS.2.2 dX0_put_23
def wb_cn_find_2 (cn_keys : Nat → Int32) (cn_used : Int32) (p1 : Int32) (post : Int32 → Prop) (K2 : (Int32) → Prop) (v1 : Int32) : Prop := (cn_used ≤ v1 → post (-1)) ∧ (¬ cn_used ≤ v1 → vp_in v1 12 ∧ ((¬ (cn_keys v1.toNatClampNeg) = p1 → ∀ x4 : Int32, x4 = v1 + 1 → K2 x4) ∧ ((cn_keys v1.toNatClampNeg) = p1 → post v1)))
def wp_cn_find (p1 : Int32) (cn_keys : Nat → Int32) (cn_used : Int32) (post : Int32 → Prop) : Prop := ∃ n, hk_lp (wb_cn_find_2 cn_keys cn_used p1 post) n 0
theorem mm_cn_find : hk_MV yX0_find cX0_find 3 (some .int) 1 := ⟨hw_416, hw_415, hw_18, hw_82, by decide +kernel⟩
set_option maxRecDepth 100000 in
set_option maxHeartbeats 4000000 in
theorem c_cn_find (l : Launch) (D : va_G) (cI cJ cZ cM : ClassId) (h_cn : Nat) (a_cn : Nat → Nat)  (cn_keys : Nat → Int32) (cn_counts : Nat → Int32) (cn_errors : Nat → Int32) (cn_limit : Int32) (cn_used : Int32) (p1 : Int32) (post : Int32 → Prop) (h : wp_cn_find p1 cn_keys cn_used post) : Met l yX0_find (hk_ws yX0_find cX0_find 3 (some .int)) (hk_rm 0 0) (va_Pc [.ref h_cn, .int p1] (hk_PR D (hk_ty cI cJ cZ cM) (wv_cn cI cJ cZ cM h_cn a_cn cn_keys cn_counts cn_errors cn_limit cn_used))) (vp_Si post) 0 0 (fun _ => False) := by
  refine Met.ofW (cc := cX0_find) (maxL := 3) (ret := (some .int)) (by decide) rfl ?_
  intro p e s m args below meth c s₁ B hml hv
  obtain ⟨rfl, hP, hK, hN⟩ := hv
  have hx := B.exec
  have hb := B.bytes
  have hr := B.returns
  have hts := atoms_spec (ws := hk_ws yX0_find cX0_find 3 (some .int)) B.pre
  have hta : ∀ w ∈ hk_all, w.before ([.ref h_cn, .int p1] : List Value).toArray s = true := fun w hw => hts w (List.mem_cons_of_mem _ hw)
  have hown : s.vm.findClass RX0 = some m.cls := findClass_of_methodNamed B.named
  have hlocks := B.notSynchronized
  have S0 : CallFix p m c cX0_find 3 s ([.ref h_cn, .int p1] : List Value).toArray hk_all RX0 := ⟨hx, hb, hml, hown, hta⟩
  have hl := lv_entry ([.ref h_cn, .int p1]) (n := 3) (Nat.le_of_ble_eq_true rfl)
  rw [lg_entry_eq]
  generalize (lg_sl ([.ref h_cn, .int p1]) ++ List.replicate (3 - (lg_sl ([.ref h_cn, .int p1])).length) Slot.unset).toArray = ls at hl ⊢
  have hl : lv_has ls 3 [(0, .ref h_cn), (1, .int p1)] := hl
  unfold wp_cn_find at h
  refine lv_iconst (v := 0) hx hb dX0_find_0 (by decide) ?_
  refine lv_istore_n (lv' := [(2, .int 0), (0, .ref h_cn), (1, .int p1)]) hx hb dX0_find_1 rfl hl (by decide) rfl (fun ls hl => ?_)
  have P2 : ∀ (n : Nat) (v1 : Int32) (ls : Array Slot), lv_has ls 3 [(0, .ref h_cn), (1, .int p1), (2, .int v1)] → hk_lp (wb_cn_find_2 cn_keys cn_used p1 post) n v1 → W p l e (headSpec (hk_ws yX0_find cX0_find 3 (some .int)) (hk_rm 0 0)).room s m ([.ref h_cn, .int p1] : List Value).toArray below meth c s.heap [] 0 0 (MQ below (vp_Si post) ([.ref h_cn, .int p1] : List Value).toArray s 0 0 (fun _ => False)) (F0 m 2 ls []) := by
    intro n
    induction n with
    | zero => intro v1 ls hl h; exact False.elim h
    | succ n ih2 =>
      intro v1 ls hl h
      have h : wb_cn_find_2 cn_keys cn_used p1 post (hk_lp (wb_cn_find_2 cn_keys cn_used p1 post) n) v1 := h
      unfold wb_cn_find_2 at h
      refine lv_iload_n hx hb dX0_find_2 rfl (lv_at hl 2 rfl) ?_
      refine lv_aload_n hx hb dX0_find_3 rfl (lv_at hl 0 rfl) ?_
      refine va_get (D := D) (ci := 0) (v := .int cn_used) (C := RX0) (T := TX0) (N := 5) hx hb hta ih_X0 hown hK hP 0 rfl rfl 4 (by decide) (hta _ hw_157) (fun _ h9 => h9) rfl dX0_find_4 ?_
      refine lv_icmp_ge (tgt := 28) hx hb dX0_find_7 (by decide) (fun c2 => ?_) (fun c2 => ?_)
      · have h := h.1 c2
        refine lv_iconst (v := (-1)) hx hb dX0_find_28 (by decide) ?_
        exact W.iret (v := (-1)) hx hb hr (fun t ht hW => ⟨_, rfl, h, ht⟩) (fun _ hq => by cases hq) dX0_find_29
      · have h := h.2 c2
        refine lv_aload_n hx hb dX0_find_10 rfl (lv_at hl 0 rfl) ?_
        refine va_get (D := D) (ci := 0) (v := .ref (a_cn 0)) (C := RX0) (T := TX0) (N := 5) hx hb hta ih_X0 hown hK hP 0 rfl rfl 0 (by decide) (hta _ hw_152) (fun _ h9 => h9) rfl dX0_find_11 ?_
        refine lv_iload_n hx hb dX0_find_14 rfl (lv_at hl 2 rfl) ?_
        refine va_iald hx hb hK hP 1 0 rfl rfl h.1 dX0_find_15 ?_
        have h := h.2
        refine lv_iload_n hx hb dX0_find_16 rfl (lv_at hl 1 rfl) ?_
        refine lv_icmp_ne (tgt := 22) hx hb dX0_find_17 (by decide) (fun c3 => ?_) (fun c3 => ?_)
        · have h := h.1 c3
          obtain ⟨x4, ex4⟩ : ∃ y : Int32, y = v1 + 1 := ⟨_, rfl⟩
          have h := h x4 ex4
          refine lv_iinc (v := x4) (lv' := [(2, .int x4), (0, .ref h_cn), (1, .int p1)]) hx hb dX0_find_22 hl (k := 2) rfl (by rw [ex4]; rfl) (by decide) rfl (fun ls hl => ?_)
          refine lv_goto (tgt := 2) hx hb dX0_find_25 (by decide) ?_
          exact ih2 x4 ls (lv_sub hl [1, 2, 0] rfl) h
        · have h := h.2 c3
          refine lv_iload_n hx hb dX0_find_20 rfl (lv_at hl 2 rfl) ?_
          exact W.iret (v := v1) hx hb hr (fun t ht hW => ⟨_, rfl, h, ht⟩) (fun _ hq => by cases hq) dX0_find_21
  obtain ⟨n, h⟩ := h
  exact P2 n 0 ls (lv_sub hl [1, 2, 0] rfl) h
def wb_cn_leastAt_4 (cn_counts : Nat → Int32) (cn_used : Int32) (post : Int32 → Prop) (K4 : (Int32 × Int32) → Prop) (v1 : Int32 × Int32) : Prop := (cn_used ≤ v1.2 → post v1.1) ∧ (¬ cn_used ≤ v1.2 → vp_in v1.2 12 ∧ (vp_in v1.1 12 ∧ (((cn_counts v1.1.toNatClampNeg) ≤ (cn_counts v1.2.toNatClampNeg) → ∀ x4 : Int32, x4 = v1.2 + 1 → K4 (v1.1, x4)) ∧ (¬ (cn_counts v1.1.toNatClampNeg) ≤ (cn_counts v1.2.toNatClampNeg) → ∀ x5 : Int32, x5 = v1.2 + 1 → K4 (v1.2, x5)))))
def wp_cn_leastAt  (cn_counts : Nat → Int32) (cn_used : Int32) (post : Int32 → Prop) : Prop := ∃ n, hk_lp (wb_cn_leastAt_4 cn_counts cn_used post) n (0, 1)
theorem mm_cn_leastAt : hk_MV yX0_leastAt cX0_leastAt 3 (some .int) 0 := ⟨hw_424, hw_423, hw_20, hw_82, by decide +kernel⟩
set_option maxRecDepth 100000 in
set_option maxHeartbeats 4000000 in
theorem c_cn_leastAt (l : Launch) (D : va_G) (cI cJ cZ cM : ClassId) (h_cn : Nat) (a_cn : Nat → Nat)  (cn_keys : Nat → Int32) (cn_counts : Nat → Int32) (cn_errors : Nat → Int32) (cn_limit : Int32) (cn_used : Int32)  (post : Int32 → Prop) (h : wp_cn_leastAt cn_counts cn_used post) : Met l yX0_leastAt (hk_ws yX0_leastAt cX0_leastAt 3 (some .int)) (hk_rm 0 0) (va_Pc [.ref h_cn] (hk_PR D (hk_ty cI cJ cZ cM) (wv_cn cI cJ cZ cM h_cn a_cn cn_keys cn_counts cn_errors cn_limit cn_used))) (vp_Si post) 0 0 (fun _ => False) := by
  refine Met.ofW (cc := cX0_leastAt) (maxL := 3) (ret := (some .int)) (by decide) rfl ?_
  intro p e s m args below meth c s₁ B hml hv
  obtain ⟨rfl, hP, hK, hN⟩ := hv
  have hx := B.exec
  have hb := B.bytes
  have hr := B.returns
  have hts := atoms_spec (ws := hk_ws yX0_leastAt cX0_leastAt 3 (some .int)) B.pre
  have hta : ∀ w ∈ hk_all, w.before ([.ref h_cn] : List Value).toArray s = true := fun w hw => hts w (List.mem_cons_of_mem _ hw)
  have hown : s.vm.findClass RX0 = some m.cls := findClass_of_methodNamed B.named
  have hlocks := B.notSynchronized
  have S0 : CallFix p m c cX0_leastAt 3 s ([.ref h_cn] : List Value).toArray hk_all RX0 := ⟨hx, hb, hml, hown, hta⟩
  have hl := lv_entry ([.ref h_cn]) (n := 3) (Nat.le_of_ble_eq_true rfl)
  rw [lg_entry_eq]
  generalize (lg_sl ([.ref h_cn]) ++ List.replicate (3 - (lg_sl ([.ref h_cn])).length) Slot.unset).toArray = ls at hl ⊢
  have hl : lv_has ls 3 [(0, .ref h_cn)] := hl
  unfold wp_cn_leastAt at h
  refine lv_iconst (v := 0) hx hb dX0_leastAt_0 (by decide) ?_
  refine lv_istore_n (lv' := [(1, .int 0), (0, .ref h_cn)]) hx hb dX0_leastAt_1 rfl hl (by decide) rfl (fun ls hl => ?_)
  refine lv_iconst (v := 1) hx hb dX0_leastAt_2 (by decide) ?_
  refine lv_istore_n (lv' := [(2, .int 1), (1, .int 0), (0, .ref h_cn)]) hx hb dX0_leastAt_3 rfl hl (by decide) rfl (fun ls hl => ?_)
  have P4 : ∀ (n : Nat) (v1 : Int32 × Int32) (ls : Array Slot), lv_has ls 3 [(0, .ref h_cn), (1, .int v1.1), (2, .int v1.2)] → hk_lp (wb_cn_leastAt_4 cn_counts cn_used post) n v1 → W p l e (headSpec (hk_ws yX0_leastAt cX0_leastAt 3 (some .int)) (hk_rm 0 0)).room s m ([.ref h_cn] : List Value).toArray below meth c s.heap [] 0 0 (MQ below (vp_Si post) ([.ref h_cn] : List Value).toArray s 0 0 (fun _ => False)) (F0 m 4 ls []) := by
    intro n
    induction n with
    | zero => intro v1 ls hl h; exact False.elim h
    | succ n ih4 =>
      intro v1 ls hl h
      have h : wb_cn_leastAt_4 cn_counts cn_used post (hk_lp (wb_cn_leastAt_4 cn_counts cn_used post) n) v1 := h
      unfold wb_cn_leastAt_4 at h
      refine lv_iload_n hx hb dX0_leastAt_4 rfl (lv_at hl 2 rfl) ?_
      refine lv_aload_n hx hb dX0_leastAt_5 rfl (lv_at hl 0 rfl) ?_
      refine va_get (D := D) (ci := 0) (v := .int cn_used) (C := RX0) (T := TX0) (N := 5) hx hb hta ih_X0 hown hK hP 0 rfl rfl 4 (by decide) (hta _ hw_157) (fun _ h9 => h9) rfl dX0_leastAt_6 ?_
      refine lv_icmp_ge (tgt := 35) hx hb dX0_leastAt_9 (by decide) (fun c2 => ?_) (fun c2 => ?_)
      · have h := h.1 c2
        refine lv_iload_n hx hb dX0_leastAt_35 rfl (lv_at hl 1 rfl) ?_
        exact W.iret (v := v1.1) hx hb hr (fun t ht hW => ⟨_, rfl, h, ht⟩) (fun _ hq => by cases hq) dX0_leastAt_36
      · have h := h.2 c2
        refine lv_aload_n hx hb dX0_leastAt_12 rfl (lv_at hl 0 rfl) ?_
        refine va_get (D := D) (ci := 0) (v := .ref (a_cn 1)) (C := RX0) (T := TX0) (N := 5) hx hb hta ih_X0 hown hK hP 0 rfl rfl 1 (by decide) (hta _ hw_153) (fun _ h9 => h9) rfl dX0_leastAt_13 ?_
        refine lv_iload_n hx hb dX0_leastAt_16 rfl (lv_at hl 2 rfl) ?_
        refine va_iald hx hb hK hP 2 0 rfl rfl h.1 dX0_leastAt_17 ?_
        have h := h.2
        refine lv_aload_n hx hb dX0_leastAt_18 rfl (lv_at hl 0 rfl) ?_
        refine va_get (D := D) (ci := 0) (v := .ref (a_cn 1)) (C := RX0) (T := TX0) (N := 5) hx hb hta ih_X0 hown hK hP 0 rfl rfl 1 (by decide) (hta _ hw_153) (fun _ h9 => h9) rfl dX0_leastAt_19 ?_
        refine lv_iload_n hx hb dX0_leastAt_22 rfl (lv_at hl 1 rfl) ?_
        refine va_iald hx hb hK hP 2 0 rfl rfl h.1 dX0_leastAt_23 ?_
        have h := h.2
        refine lv_icmp_ge (tgt := 29) hx hb dX0_leastAt_24 (by decide) (fun c3 => ?_) (fun c3 => ?_)
        · have h := h.1 c3
          obtain ⟨x4, ex4⟩ : ∃ y : Int32, y = v1.2 + 1 := ⟨_, rfl⟩
          have h := h x4 ex4
          refine lv_iinc (v := x4) (lv' := [(2, .int x4), (0, .ref h_cn), (1, .int v1.1)]) hx hb dX0_leastAt_29 hl (k := 2) rfl (by rw [ex4]; rfl) (by decide) rfl (fun ls hl => ?_)
          refine lv_goto (tgt := 4) hx hb dX0_leastAt_32 (by decide) ?_
          exact ih4 (v1.1, x4) ls (lv_sub hl [1, 2, 0] rfl) h
        · have h := h.2 c3
          refine lv_iload_n hx hb dX0_leastAt_27 rfl (lv_at hl 2 rfl) ?_
          refine lv_istore_n (lv' := [(1, .int v1.2), (0, .ref h_cn), (2, .int v1.2)]) hx hb dX0_leastAt_28 rfl hl (by decide) rfl (fun ls hl => ?_)
          obtain ⟨x5, ex5⟩ : ∃ y : Int32, y = v1.2 + 1 := ⟨_, rfl⟩
          have h := h x5 ex5
          refine lv_iinc (v := x5) (lv' := [(2, .int x5), (1, .int v1.2), (0, .ref h_cn)]) hx hb dX0_leastAt_29 hl (k := 2) rfl (by rw [ex5]; rfl) (by decide) rfl (fun ls hl => ?_)
          refine lv_goto (tgt := 4) hx hb dX0_leastAt_32 (by decide) ?_
          exact ih4 (v1.2, x5) ls (lv_sub hl [2, 1, 0] rfl) h
  obtain ⟨n, h⟩ := h
  exact P4 n (0, 1) ls (lv_sub hl [2, 1, 0] rfl) h
def wp_cn_keyAt (p1 : Int32) (cn_keys : Nat → Int32) (cn_used : Int32) (post : Int32 → Prop) : Prop := (cn_used ≤ p1 → post (-1)) ∧ (¬ cn_used ≤ p1 → vp_in p1 12 ∧ (post (cn_keys p1.toNatClampNeg)))
theorem mm_cn_keyAt : hk_MV yX0_keyAt cX0_keyAt 2 (some .int) 1 := ⟨hw_436, hw_435, hw_23, hw_82, by decide +kernel⟩
set_option maxRecDepth 100000 in
set_option maxHeartbeats 4000000 in
theorem c_cn_keyAt (l : Launch) (D : va_G) (cI cJ cZ cM : ClassId) (h_cn : Nat) (a_cn : Nat → Nat)  (cn_keys : Nat → Int32) (cn_counts : Nat → Int32) (cn_errors : Nat → Int32) (cn_limit : Int32) (cn_used : Int32) (p1 : Int32) (post : Int32 → Prop) (h : wp_cn_keyAt p1 cn_keys cn_used post) : Met l yX0_keyAt (hk_ws yX0_keyAt cX0_keyAt 2 (some .int)) (hk_rm 0 0) (va_Pc [.ref h_cn, .int p1] (hk_PR D (hk_ty cI cJ cZ cM) (wv_cn cI cJ cZ cM h_cn a_cn cn_keys cn_counts cn_errors cn_limit cn_used))) (vp_Si post) 0 0 (fun _ => False) := by
  refine Met.ofW (cc := cX0_keyAt) (maxL := 2) (ret := (some .int)) (by decide) rfl ?_
  intro p e s m args below meth c s₁ B hml hv
  obtain ⟨rfl, hP, hK, hN⟩ := hv
  have hx := B.exec
  have hb := B.bytes
  have hr := B.returns
  have hts := atoms_spec (ws := hk_ws yX0_keyAt cX0_keyAt 2 (some .int)) B.pre
  have hta : ∀ w ∈ hk_all, w.before ([.ref h_cn, .int p1] : List Value).toArray s = true := fun w hw => hts w (List.mem_cons_of_mem _ hw)
  have hown : s.vm.findClass RX0 = some m.cls := findClass_of_methodNamed B.named
  have hlocks := B.notSynchronized
  have S0 : CallFix p m c cX0_keyAt 2 s ([.ref h_cn, .int p1] : List Value).toArray hk_all RX0 := ⟨hx, hb, hml, hown, hta⟩
  have hl := lv_entry ([.ref h_cn, .int p1]) (n := 2) (Nat.le_of_ble_eq_true rfl)
  rw [lg_entry_eq]
  generalize (lg_sl ([.ref h_cn, .int p1]) ++ List.replicate (2 - (lg_sl ([.ref h_cn, .int p1])).length) Slot.unset).toArray = ls at hl ⊢
  have hl : lv_has ls 2 [(0, .ref h_cn), (1, .int p1)] := hl
  unfold wp_cn_keyAt at h
  refine lv_iload_n hx hb dX0_keyAt_0 rfl (lv_at hl 1 rfl) ?_
  refine lv_aload_n hx hb dX0_keyAt_1 rfl (lv_at hl 0 rfl) ?_
  refine va_get (D := D) (ci := 0) (v := .int cn_used) (C := RX0) (T := TX0) (N := 5) hx hb hta ih_X0 hown hK hP 0 rfl rfl 4 (by decide) (hta _ hw_157) (fun _ h9 => h9) rfl dX0_keyAt_2 ?_
  refine lv_icmp_ge (tgt := 17) hx hb dX0_keyAt_5 (by decide) (fun c1 => ?_) (fun c1 => ?_)
  · have h := h.1 c1
    refine lv_iconst (v := (-1)) hx hb dX0_keyAt_17 (by decide) ?_
    exact W.iret (v := (-1)) hx hb hr (fun t ht hW => ⟨_, rfl, h, ht⟩) (fun _ hq => by cases hq) dX0_keyAt_18
  · have h := h.2 c1
    refine lv_aload_n hx hb dX0_keyAt_8 rfl (lv_at hl 0 rfl) ?_
    refine va_get (D := D) (ci := 0) (v := .ref (a_cn 0)) (C := RX0) (T := TX0) (N := 5) hx hb hta ih_X0 hown hK hP 0 rfl rfl 0 (by decide) (hta _ hw_152) (fun _ h9 => h9) rfl dX0_keyAt_9 ?_
    refine lv_iload_n hx hb dX0_keyAt_12 rfl (lv_at hl 1 rfl) ?_
    refine va_iald hx hb hK hP 1 0 rfl rfl h.1 dX0_keyAt_13 ?_
    have h := h.2
    refine lv_goto (tgt := 18) hx hb dX0_keyAt_14 (by decide) ?_
    exact W.iret (v := cn_keys p1.toNatClampNeg) hx hb hr (fun t ht hW => ⟨_, rfl, h, ht⟩) (fun _ hq => by cases hq) dX0_keyAt_18
def wp_cn_countAt (p1 : Int32) (cn_counts : Nat → Int32) (cn_used : Int32) (post : Int32 → Prop) : Prop := (cn_used ≤ p1 → post 0) ∧ (¬ cn_used ≤ p1 → vp_in p1 12 ∧ (post (cn_counts p1.toNatClampNeg)))
theorem mm_cn_countAt : hk_MV yX0_countAt cX0_countAt 2 (some .int) 1 := ⟨hw_444, hw_443, hw_25, hw_82, by decide +kernel⟩
set_option maxRecDepth 100000 in
set_option maxHeartbeats 4000000 in
theorem c_cn_countAt (l : Launch) (D : va_G) (cI cJ cZ cM : ClassId) (h_cn : Nat) (a_cn : Nat → Nat)  (cn_keys : Nat → Int32) (cn_counts : Nat → Int32) (cn_errors : Nat → Int32) (cn_limit : Int32) (cn_used : Int32) (p1 : Int32) (post : Int32 → Prop) (h : wp_cn_countAt p1 cn_counts cn_used post) : Met l yX0_countAt (hk_ws yX0_countAt cX0_countAt 2 (some .int)) (hk_rm 0 0) (va_Pc [.ref h_cn, .int p1] (hk_PR D (hk_ty cI cJ cZ cM) (wv_cn cI cJ cZ cM h_cn a_cn cn_keys cn_counts cn_errors cn_limit cn_used))) (vp_Si post) 0 0 (fun _ => False) := by
  refine Met.ofW (cc := cX0_countAt) (maxL := 2) (ret := (some .int)) (by decide) rfl ?_
  intro p e s m args below meth c s₁ B hml hv
  obtain ⟨rfl, hP, hK, hN⟩ := hv
  have hx := B.exec
  have hb := B.bytes
  have hr := B.returns
  have hts := atoms_spec (ws := hk_ws yX0_countAt cX0_countAt 2 (some .int)) B.pre
  have hta : ∀ w ∈ hk_all, w.before ([.ref h_cn, .int p1] : List Value).toArray s = true := fun w hw => hts w (List.mem_cons_of_mem _ hw)
  have hown : s.vm.findClass RX0 = some m.cls := findClass_of_methodNamed B.named
  have hlocks := B.notSynchronized
  have S0 : CallFix p m c cX0_countAt 2 s ([.ref h_cn, .int p1] : List Value).toArray hk_all RX0 := ⟨hx, hb, hml, hown, hta⟩
  have hl := lv_entry ([.ref h_cn, .int p1]) (n := 2) (Nat.le_of_ble_eq_true rfl)
  rw [lg_entry_eq]
  generalize (lg_sl ([.ref h_cn, .int p1]) ++ List.replicate (2 - (lg_sl ([.ref h_cn, .int p1])).length) Slot.unset).toArray = ls at hl ⊢
  have hl : lv_has ls 2 [(0, .ref h_cn), (1, .int p1)] := hl
  unfold wp_cn_countAt at h
  refine lv_iload_n hx hb dX0_countAt_0 rfl (lv_at hl 1 rfl) ?_
  refine lv_aload_n hx hb dX0_countAt_1 rfl (lv_at hl 0 rfl) ?_
  refine va_get (D := D) (ci := 0) (v := .int cn_used) (C := RX0) (T := TX0) (N := 5) hx hb hta ih_X0 hown hK hP 0 rfl rfl 4 (by decide) (hta _ hw_157) (fun _ h9 => h9) rfl dX0_countAt_2 ?_
  refine lv_icmp_ge (tgt := 17) hx hb dX0_countAt_5 (by decide) (fun c1 => ?_) (fun c1 => ?_)
  · have h := h.1 c1
    refine lv_iconst (v := 0) hx hb dX0_countAt_17 (by decide) ?_
    exact W.iret (v := 0) hx hb hr (fun t ht hW => ⟨_, rfl, h, ht⟩) (fun _ hq => by cases hq) dX0_countAt_18
  · have h := h.2 c1
    refine lv_aload_n hx hb dX0_countAt_8 rfl (lv_at hl 0 rfl) ?_
    refine va_get (D := D) (ci := 0) (v := .ref (a_cn 1)) (C := RX0) (T := TX0) (N := 5) hx hb hta ih_X0 hown hK hP 0 rfl rfl 1 (by decide) (hta _ hw_153) (fun _ h9 => h9) rfl dX0_countAt_9 ?_
    refine lv_iload_n hx hb dX0_countAt_12 rfl (lv_at hl 1 rfl) ?_
    refine va_iald hx hb hK hP 2 0 rfl rfl h.1 dX0_countAt_13 ?_
    have h := h.2
    refine lv_goto (tgt := 18) hx hb dX0_countAt_14 (by decide) ?_
    exact W.iret (v := cn_counts p1.toNatClampNeg) hx hb hr (fun t ht hW => ⟨_, rfl, h, ht⟩) (fun _ hq => by cases hq) dX0_countAt_18
def wp_cn_errorAt (p1 : Int32) (cn_errors : Nat → Int32) (cn_used : Int32) (post : Int32 → Prop) : Prop := (cn_used ≤ p1 → post 0) ∧ (¬ cn_used ≤ p1 → vp_in p1 12 ∧ (post (cn_errors p1.toNatClampNeg)))
theorem mm_cn_errorAt : hk_MV yX0_errorAt cX0_errorAt 2 (some .int) 1 := ⟨hw_448, hw_447, hw_26, hw_82, by decide +kernel⟩
set_option maxRecDepth 100000 in
set_option maxHeartbeats 4000000 in
theorem c_cn_errorAt (l : Launch) (D : va_G) (cI cJ cZ cM : ClassId) (h_cn : Nat) (a_cn : Nat → Nat)  (cn_keys : Nat → Int32) (cn_counts : Nat → Int32) (cn_errors : Nat → Int32) (cn_limit : Int32) (cn_used : Int32) (p1 : Int32) (post : Int32 → Prop) (h : wp_cn_errorAt p1 cn_errors cn_used post) : Met l yX0_errorAt (hk_ws yX0_errorAt cX0_errorAt 2 (some .int)) (hk_rm 0 0) (va_Pc [.ref h_cn, .int p1] (hk_PR D (hk_ty cI cJ cZ cM) (wv_cn cI cJ cZ cM h_cn a_cn cn_keys cn_counts cn_errors cn_limit cn_used))) (vp_Si post) 0 0 (fun _ => False) := by
  refine Met.ofW (cc := cX0_errorAt) (maxL := 2) (ret := (some .int)) (by decide) rfl ?_
  intro p e s m args below meth c s₁ B hml hv
  obtain ⟨rfl, hP, hK, hN⟩ := hv
  have hx := B.exec
  have hb := B.bytes
  have hr := B.returns
  have hts := atoms_spec (ws := hk_ws yX0_errorAt cX0_errorAt 2 (some .int)) B.pre
  have hta : ∀ w ∈ hk_all, w.before ([.ref h_cn, .int p1] : List Value).toArray s = true := fun w hw => hts w (List.mem_cons_of_mem _ hw)
  have hown : s.vm.findClass RX0 = some m.cls := findClass_of_methodNamed B.named
  have hlocks := B.notSynchronized
  have S0 : CallFix p m c cX0_errorAt 2 s ([.ref h_cn, .int p1] : List Value).toArray hk_all RX0 := ⟨hx, hb, hml, hown, hta⟩
  have hl := lv_entry ([.ref h_cn, .int p1]) (n := 2) (Nat.le_of_ble_eq_true rfl)
  rw [lg_entry_eq]
  generalize (lg_sl ([.ref h_cn, .int p1]) ++ List.replicate (2 - (lg_sl ([.ref h_cn, .int p1])).length) Slot.unset).toArray = ls at hl ⊢
  have hl : lv_has ls 2 [(0, .ref h_cn), (1, .int p1)] := hl
  unfold wp_cn_errorAt at h
  refine lv_iload_n hx hb dX0_errorAt_0 rfl (lv_at hl 1 rfl) ?_
  refine lv_aload_n hx hb dX0_errorAt_1 rfl (lv_at hl 0 rfl) ?_
  refine va_get (D := D) (ci := 0) (v := .int cn_used) (C := RX0) (T := TX0) (N := 5) hx hb hta ih_X0 hown hK hP 0 rfl rfl 4 (by decide) (hta _ hw_157) (fun _ h9 => h9) rfl dX0_errorAt_2 ?_
  refine lv_icmp_ge (tgt := 17) hx hb dX0_errorAt_5 (by decide) (fun c1 => ?_) (fun c1 => ?_)
  · have h := h.1 c1
    refine lv_iconst (v := 0) hx hb dX0_errorAt_17 (by decide) ?_
    exact W.iret (v := 0) hx hb hr (fun t ht hW => ⟨_, rfl, h, ht⟩) (fun _ hq => by cases hq) dX0_errorAt_18
  · have h := h.2 c1
    refine lv_aload_n hx hb dX0_errorAt_8 rfl (lv_at hl 0 rfl) ?_
    refine va_get (D := D) (ci := 0) (v := .ref (a_cn 2)) (C := RX0) (T := TX0) (N := 5) hx hb hta ih_X0 hown hK hP 0 rfl rfl 2 (by decide) (hta _ hw_154) (fun _ h9 => h9) rfl dX0_errorAt_9 ?_
    refine lv_iload_n hx hb dX0_errorAt_12 rfl (lv_at hl 1 rfl) ?_
    refine va_iald hx hb hK hP 3 0 rfl rfl h.1 dX0_errorAt_13 ?_
    have h := h.2
    refine lv_goto (tgt := 18) hx hb dX0_errorAt_14 (by decide) ?_
    exact W.iret (v := cn_errors p1.toNatClampNeg) hx hb hr (fun t ht hW => ⟨_, rfl, h, ht⟩) (fun _ hq => by cases hq) dX0_errorAt_18
def wp_cn_surelyAt (p1 : Int32) (cn_counts : Nat → Int32) (cn_errors : Nat → Int32) (cn_used : Int32) (post : Int32 → Prop) : Prop := wp_cn_countAt p1 cn_counts cn_used (fun (r1 : Int32) => wp_cn_errorAt p1 cn_errors cn_used (fun (r2 : Int32) => post (r1 - r2)))
theorem mm_cn_surelyAt : hk_MV yX0_surelyAt cX0_surelyAt 2 (some .int) 1 := ⟨hw_440, hw_439, hw_24, hw_82, by decide +kernel⟩
set_option maxRecDepth 100000 in
set_option maxHeartbeats 4000000 in
theorem c_cn_surelyAt (l : Launch) (D : va_G) (cI cJ cZ cM : ClassId) (h_cn : Nat) (a_cn : Nat → Nat)  (cn_keys : Nat → Int32) (cn_counts : Nat → Int32) (cn_errors : Nat → Int32) (cn_limit : Int32) (cn_used : Int32) (p1 : Int32) (post : Int32 → Prop) (h : wp_cn_surelyAt p1 cn_counts cn_errors cn_used post) : Met l yX0_surelyAt (hk_ws yX0_surelyAt cX0_surelyAt 2 (some .int)) (hk_rm 1 21) (va_Pc [.ref h_cn, .int p1] (hk_PR D (hk_ty cI cJ cZ cM) (wv_cn cI cJ cZ cM h_cn a_cn cn_keys cn_counts cn_errors cn_limit cn_used))) (vp_Si post) 0 0 (fun _ => False) := by
  refine Met.ofW (cc := cX0_surelyAt) (maxL := 2) (ret := (some .int)) (by decide) rfl ?_
  intro p e s m args below meth c s₁ B hml hv
  obtain ⟨rfl, hP, hK, hN⟩ := hv
  have hx := B.exec
  have hb := B.bytes
  have hr := B.returns
  have hts := atoms_spec (ws := hk_ws yX0_surelyAt cX0_surelyAt 2 (some .int)) B.pre
  have hta : ∀ w ∈ hk_all, w.before ([.ref h_cn, .int p1] : List Value).toArray s = true := fun w hw => hts w (List.mem_cons_of_mem _ hw)
  have hown : s.vm.findClass RX0 = some m.cls := findClass_of_methodNamed B.named
  have hlocks := B.notSynchronized
  have S0 : CallFix p m c cX0_surelyAt 2 s ([.ref h_cn, .int p1] : List Value).toArray hk_all RX0 := ⟨hx, hb, hml, hown, hta⟩
  have hl := lv_entry ([.ref h_cn, .int p1]) (n := 2) (Nat.le_of_ble_eq_true rfl)
  rw [lg_entry_eq]
  generalize (lg_sl ([.ref h_cn, .int p1]) ++ List.replicate (2 - (lg_sl ([.ref h_cn, .int p1])).length) Slot.unset).toArray = ls at hl ⊢
  have hl : lv_has ls 2 [(0, .ref h_cn), (1, .int p1)] := hl
  unfold wp_cn_surelyAt at h
  refine lv_aload_n hx hb dX0_surelyAt_0 rfl (lv_at hl 0 rfl) ?_
  refine lv_iload_n hx hb dX0_surelyAt_1 rfl (lv_at hl 1 rfl) ?_
  refine vp_callSi (hk_runV (As := [.int p1]) (rest := []) S0 mm_cn_countAt (c_cn_countAt l D cI cJ cZ cM h_cn a_cn cn_keys cn_counts cn_errors cn_limit cn_used p1 _ h) hw_441 hk_blR (hk_atR hP hK hN) (va_recv hK hP (ci := 0) (q0 := 0) rfl rfl) ⟨rfl, rfl, Nat.le_of_ble_eq_true rfl, Nat.le_of_ble_eq_true rfl⟩ rfl hl.1 rfl (Nat.le_of_ble_eq_true rfl) dX0_surelyAt_2 ⟨Nat.le_of_ble_eq_true rfl, Nat.le_of_ble_eq_true rfl⟩).run (fun r1 h => ?_)
  refine lv_aload_n hx hb dX0_surelyAt_5 rfl (lv_at hl 0 rfl) ?_
  refine lv_iload_n hx hb dX0_surelyAt_6 rfl (lv_at hl 1 rfl) ?_
  refine vp_callSi (hk_runV (As := [.int p1]) (rest := [.int r1]) S0 mm_cn_errorAt (c_cn_errorAt l D cI cJ cZ cM h_cn a_cn cn_keys cn_counts cn_errors cn_limit cn_used p1 _ h) hw_445 hk_blR (hk_atR hP hK hN) (va_recv hK hP (ci := 0) (q0 := 0) rfl rfl) ⟨rfl, rfl, Nat.le_of_ble_eq_true rfl, Nat.le_of_ble_eq_true rfl⟩ rfl hl.1 rfl (Nat.le_of_ble_eq_true rfl) dX0_surelyAt_7 ⟨Nat.le_of_ble_eq_true rfl, Nat.le_of_ble_eq_true rfl⟩).run (fun r2 h => ?_)
  refine lv_isub hx hb dX0_surelyAt_10 ?_
  exact W.iret (v := r1 - r2) hx hb hr (fun t ht hW => ⟨_, rfl, h, ht⟩) (fun _ hq => by cases hq) dX0_surelyAt_11
def wp_cn_take (p1 : Int32) (cn_keys : Nat → Int32) (cn_counts : Nat → Int32) (cn_errors : Nat → Int32) (cn_limit : Int32) (cn_used : Int32) (post : ((Nat → Int32) × (Nat → Int32) × (Nat → Int32) × Int32) → Prop) : Prop := wp_cn_find p1 cn_keys cn_used (fun (r1 : Int32) => (r1 = (-1) → (cn_limit ≤ cn_used → wp_cn_leastAt cn_counts cn_used (fun (r4 : Int32) => vp_in r4 12 ∧ (wp_cn_put r4 p1 (cn_counts r4.toNatClampNeg) cn_keys cn_counts cn_errors (fun (w5 : (Nat → Int32) × (Nat → Int32) × (Nat → Int32)) => post (w5.1, w5.2.1, w5.2.2, cn_used))))) ∧ (¬ cn_limit ≤ cn_used → wp_cn_put cn_used p1 0 cn_keys cn_counts cn_errors (fun (w6 : (Nat → Int32) × (Nat → Int32) × (Nat → Int32)) => ∀ x7 : Int32, x7 = cn_used + 1 → post (w6.1, w6.2.1, w6.2.2, x7)))) ∧ (¬ r1 = (-1) → vp_in r1 12 ∧ (∀ x8 : Int32, x8 = (cn_counts r1.toNatClampNeg) + 1 → vp_in r1 12 ∧ (post (cn_keys, upd cn_counts r1.toNatClampNeg x8, cn_errors, cn_used)))))
theorem mm_cn_take : hk_MV yX0_take cX0_take 4 none 1 := ⟨hw_412, hw_411, hw_17, hw_82, by decide +kernel⟩
set_option maxRecDepth 100000 in
set_option maxHeartbeats 4000000 in
theorem c_cn_take (l : Launch) (D : va_G) (cI cJ cZ cM : ClassId) (h_cn : Nat) (a_cn : Nat → Nat) (sz : Nat) (cn_keys : Nat → Int32) (cn_counts : Nat → Int32) (cn_errors : Nat → Int32) (cn_limit : Int32) (cn_used : Int32) (p1 : Int32) (post : ((Nat → Int32) × (Nat → Int32) × (Nat → Int32) × Int32) → Prop) (h : wp_cn_take p1 cn_keys cn_counts cn_errors cn_limit cn_used post) : Met l yX0_take (hk_ws yX0_take cX0_take 4 none) (hk_rm 1 23) (va_Pc [.ref h_cn, .int p1] (hk_PM D (hk_ty cI cJ cZ cM) sz (wv_cn cI cJ cZ cM h_cn a_cn cn_keys cn_counts cn_errors cn_limit cn_used))) (va_Qv post (hk_B D (va_A (wv_cn cI cJ cZ cM h_cn a_cn cn_keys cn_counts cn_errors cn_limit cn_used) sz) (fun (u : (Nat → Int32) × (Nat → Int32) × (Nat → Int32) × Int32) => wv_cn cI cJ cZ cM h_cn a_cn u.1 u.2.1 u.2.2.1 cn_limit u.2.2.2)) (va_A (wv_cn cI cJ cZ cM h_cn a_cn cn_keys cn_counts cn_errors cn_limit cn_used) sz)) 0 0 (va_A (wv_cn cI cJ cZ cM h_cn a_cn cn_keys cn_counts cn_errors cn_limit cn_used) sz) := by
  refine Met.ofW (cc := cX0_take) (maxL := 4) (ret := none) (by decide) rfl ?_
  intro p e s m args below meth c s₁ B hml hv
  obtain ⟨rfl, hsz, hP, hK, hD0, hN⟩ := hv
  have hx := B.exec
  have hb := B.bytes
  have hr := B.returns
  have hts := atoms_spec (ws := hk_ws yX0_take cX0_take 4 none) B.pre
  have hta : ∀ w ∈ hk_all, w.before ([.ref h_cn, .int p1] : List Value).toArray s = true := fun w hw => hts w (List.mem_cons_of_mem _ hw)
  have hown : s.vm.findClass RX0 = some m.cls := findClass_of_methodNamed B.named
  have hlocks := B.notSynchronized
  have S0 : CallFix p m c cX0_take 4 s ([.ref h_cn, .int p1] : List Value).toArray hk_all RX0 := ⟨hx, hb, hml, hown, hta⟩
  subst hsz
  have hD := hD0.self (sz := s.heap.size)
  generalize hAe : va_A (wv_cn cI cJ cZ cM h_cn a_cn cn_keys cn_counts cn_errors cn_limit cn_used) s.heap.size = A at hD ⊢
  have hA : ∀ q : Nat, s.heap.size ≤ q → A q := fun q h => by rw [← hAe]; exact Or.inr h
  have hS : va_S A s.heap s.heap [] := va_S.rf
  have hl := lv_entry ([.ref h_cn, .int p1]) (n := 4) (Nat.le_of_ble_eq_true rfl)
  rw [lg_entry_eq]
  generalize (lg_sl ([.ref h_cn, .int p1]) ++ List.replicate (4 - (lg_sl ([.ref h_cn, .int p1])).length) Slot.unset).toArray = ls at hl ⊢
  have hl : lv_has ls 4 [(0, .ref h_cn), (1, .int p1)] := hl
  unfold wp_cn_take at h
  refine lv_aload_n hx hb dX0_take_0 rfl (lv_at hl 0 rfl) ?_
  refine lv_iload_n hx hb dX0_take_1 rfl (lv_at hl 1 rfl) ?_
  refine vp_callSi (hk_runV (As := [.int p1]) (rest := []) S0 mm_cn_find (c_cn_find l D cI cJ cZ cM h_cn a_cn cn_keys cn_counts cn_errors cn_limit cn_used p1 _ h) hw_413 hk_blR (hk_atR hP hK hN) (va_recv hK hP (ci := 0) (q0 := 0) rfl rfl) ⟨rfl, rfl, Nat.le_of_ble_eq_true rfl, Nat.le_of_ble_eq_true rfl⟩ rfl hl.1 rfl (Nat.le_of_ble_eq_true rfl) dX0_take_2 ⟨Nat.le_of_ble_eq_true rfl, Nat.le_of_ble_eq_true rfl⟩).run (fun r1 h => ?_)
  refine lv_istore_n (lv' := [(2, .int r1), (0, .ref h_cn), (1, .int p1)]) hx hb dX0_take_5 rfl hl (by decide) rfl (fun ls hl => ?_)
  refine lv_iload_n hx hb dX0_take_6 rfl (lv_at hl 0 rfl) ?_
  refine lv_iconst (v := (-1)) hx hb dX0_take_7 (by decide) ?_
  refine lv_icmp_eq (tgt := 24) hx hb dX0_take_8 (by decide) (fun c2 => ?_) (fun c2 => ?_)
  · have h := h.1 c2
    refine lv_aload_n hx hb dX0_take_24 rfl (lv_at hl 1 rfl) ?_
    refine va_get (D := D) (ci := 0) (v := .int cn_used) (C := RX0) (T := TX0) (N := 5) hx hb hta ih_X0 hown hK hP 0 rfl rfl 4 (by decide) (hta _ hw_157) (fun _ h9 => h9) rfl dX0_take_25 ?_
    refine lv_aload_n hx hb dX0_take_28 rfl (lv_at hl 1 rfl) ?_
    refine va_get (D := D) (ci := 0) (v := .int cn_limit) (C := RX0) (T := TX0) (N := 5) hx hb hta ih_X0 hown hK hP 0 rfl rfl 3 (by decide) (hta _ hw_155) (fun _ h9 => h9) rfl dX0_take_29 ?_
    refine lv_icmp_ge (tgt := 58) hx hb dX0_take_32 (by decide) (fun c3 => ?_) (fun c3 => ?_)
    · have h := h.1 c3
      refine lv_aload_n hx hb dX0_take_58 rfl (lv_at hl 1 rfl) ?_
      refine vp_callSi (hk_runV (As := []) (rest := []) S0 mm_cn_leastAt (c_cn_leastAt l D cI cJ cZ cM h_cn a_cn cn_keys cn_counts cn_errors cn_limit cn_used _ h) hw_421 hk_blR (hk_atR hP hK hN) (va_recv hK hP (ci := 0) (q0 := 0) rfl rfl) ⟨rfl, rfl, Nat.le_of_ble_eq_true rfl, Nat.le_of_ble_eq_true rfl⟩ rfl hl.1 rfl (Nat.le_of_ble_eq_true rfl) dX0_take_59 ⟨Nat.le_of_ble_eq_true rfl, Nat.le_of_ble_eq_true rfl⟩).run (fun r4 h => ?_)
      refine lv_istore_n (lv' := [(3, .int r4), (2, .int r1), (0, .ref h_cn), (1, .int p1)]) hx hb dX0_take_62 rfl hl (by decide) rfl (fun ls hl => ?_)
      refine lv_aload_n hx hb dX0_take_63 rfl (lv_at hl 2 rfl) ?_
      refine lv_iload_n hx hb dX0_take_64 rfl (lv_at hl 0 rfl) ?_
      refine lv_iload_n hx hb dX0_take_65 rfl (lv_at hl 3 rfl) ?_
      refine lv_aload_n hx hb dX0_take_66 rfl (lv_at hl 2 rfl) ?_
      refine va_get (D := D) (ci := 0) (v := .ref (a_cn 1)) (C := RX0) (T := TX0) (N := 5) hx hb hta ih_X0 hown hK hP 0 rfl rfl 1 (by decide) (hta _ hw_153) (fun _ h9 => h9) rfl dX0_take_67 ?_
      refine lv_iload_n hx hb dX0_take_70 rfl (lv_at hl 0 rfl) ?_
      refine va_iald hx hb hK hP 2 0 rfl rfl h.1 dX0_take_71 ?_
      have h := h.2
      refine hk_mv [0, 1, 2, 3] (hk_runV (As := [.int r4, .int p1, .int (cn_counts r4.toNatClampNeg)]) (rest := []) S0 mm_cn_put (c_cn_put l D cI cJ cZ cM h_cn a_cn s.heap.size cn_keys cn_counts cn_errors cn_limit cn_used r4 p1 (cn_counts r4.toNatClampNeg) _ h) hw_417 hk_blM (hk_atM hP hK hD hN) (va_recv hK hP (ci := 0) (q0 := 0) rfl rfl) ⟨rfl, rfl, Nat.le_of_ble_eq_true rfl, Nat.le_of_ble_eq_true rfl⟩ rfl hl.1 rfl (Nat.le_of_ble_eq_true rfl) dX0_take_72 ⟨Nat.le_of_ble_eq_true rfl, Nat.le_of_ble_eq_true rfl⟩) hP hD hS hA rfl (by decide) (fun _ => rfl) (fun w5 H locs h hP hD hS => ?_)
      have hP : va_P D vwCl (wv_cn cI cJ cZ cM h_cn a_cn w5.1 w5.2.1 w5.2.2 cn_limit cn_used) H := hP
      have hD : va_D A (wv_cn cI cJ cZ cM h_cn a_cn w5.1 w5.2.1 w5.2.2 cn_limit cn_used) := hD
      exact W.vret hx hb hr (fun t ht hW => ⟨⟨(w5.1, w5.2.1, w5.2.2, cn_used), rfl, h, by rw [ht]; exact hP, hD⟩, hS.F ht⟩) hS.2.2 dX0_take_75
    · have h := h.2 c3
      refine lv_aload_n hx hb dX0_take_35 rfl (lv_at hl 1 rfl) ?_
      refine lv_aload_n hx hb dX0_take_36 rfl (lv_at hl 1 rfl) ?_
      refine va_get (D := D) (ci := 0) (v := .int cn_used) (C := RX0) (T := TX0) (N := 5) hx hb hta ih_X0 hown hK hP 0 rfl rfl 4 (by decide) (hta _ hw_157) (fun _ h9 => h9) rfl dX0_take_37 ?_
      refine lv_iload_n hx hb dX0_take_40 rfl (lv_at hl 2 rfl) ?_
      refine lv_iconst (v := 0) hx hb dX0_take_41 (by decide) ?_
      refine hk_mv [0, 1, 2, 3] (hk_runV (As := [.int cn_used, .int p1, .int 0]) (rest := []) S0 mm_cn_put (c_cn_put l D cI cJ cZ cM h_cn a_cn s.heap.size cn_keys cn_counts cn_errors cn_limit cn_used cn_used p1 0 _ h) hw_417 hk_blM (hk_atM hP hK hD hN) (va_recv hK hP (ci := 0) (q0 := 0) rfl rfl) ⟨rfl, rfl, Nat.le_of_ble_eq_true rfl, Nat.le_of_ble_eq_true rfl⟩ rfl hl.1 rfl (Nat.le_of_ble_eq_true rfl) dX0_take_42 ⟨Nat.le_of_ble_eq_true rfl, Nat.le_of_ble_eq_true rfl⟩) hP hD hS hA rfl (by decide) (fun _ => rfl) (fun w6 H locs h hP hD hS => ?_)
      have hP : va_P D vwCl (wv_cn cI cJ cZ cM h_cn a_cn w6.1 w6.2.1 w6.2.2 cn_limit cn_used) H := hP
      have hD : va_D A (wv_cn cI cJ cZ cM h_cn a_cn w6.1 w6.2.1 w6.2.2 cn_limit cn_used) := hD
      refine lv_aload_n hx hb dX0_take_45 rfl (lv_at hl 1 rfl) ?_
      refine lv_dup hx hb dX0_take_46 rfl ?_
      refine va_get (D := D) (ci := 0) (v := .int cn_used) (C := RX0) (T := TX0) (N := 5) hx hb hta ih_X0 hown hK hP 0 rfl rfl 4 (by decide) (hta _ hw_157) (fun _ h9 => h9) rfl dX0_take_47 ?_
      refine lv_iconst (v := 1) hx hb dX0_take_50 (by decide) ?_
      refine lv_iadd hx hb dX0_take_51 ?_
      refine lv_topi (fun x7 ex7 => ?_)
      have h := h x7 ex7
      refine va_put (D := D) (ci := 0) (v := .int x7) (ty := .int) (C := RX0) (T := TX0) (N := 5) hx hb hta ih_X0 tyX0 tyX0_ok nmX0 hown hK hP hD hS 0 rfl rfl 4 (by decide) (hta _ hw_157) (fun _ h9 => h9) rfl (by decide +kernel) rfl rfl (Nat.le_of_ble_eq_true rfl) dX0_take_52 (fun H locs hP hD hS => ?_)
      have hP : va_P D vwCl (wv_cn cI cJ cZ cM h_cn a_cn w6.1 w6.2.1 w6.2.2 cn_limit x7) H := hP
      have hD : va_D A (wv_cn cI cJ cZ cM h_cn a_cn w6.1 w6.2.1 w6.2.2 cn_limit x7) := hD
      refine lv_goto (tgt := 75) hx hb dX0_take_55 (by decide) ?_
      exact W.vret hx hb hr (fun t ht hW => ⟨⟨(w6.1, w6.2.1, w6.2.2, x7), rfl, h, by rw [ht]; exact hP, hD⟩, hS.F ht⟩) hS.2.2 dX0_take_75
  · have h := h.2 c2
    refine lv_aload_n hx hb dX0_take_11 rfl (lv_at hl 1 rfl) ?_
    refine va_get (D := D) (ci := 0) (v := .ref (a_cn 1)) (C := RX0) (T := TX0) (N := 5) hx hb hta ih_X0 hown hK hP 0 rfl rfl 1 (by decide) (hta _ hw_153) (fun _ h9 => h9) rfl dX0_take_12 ?_
    refine lv_iload_n hx hb dX0_take_15 rfl (lv_at hl 0 rfl) ?_
    refine lv_dup2_11 hx hb dX0_take_16 rfl rfl ?_
    refine va_iald hx hb hK hP 2 0 rfl rfl h.1 dX0_take_17 ?_
    have h := h.2
    refine lv_iconst (v := 1) hx hb dX0_take_18 (by decide) ?_
    refine lv_iadd hx hb dX0_take_19 ?_
    refine lv_topi (fun x8 ex8 => ?_)
    have h := h x8 ex8
    refine va_iast hx hb hK hP hD hS 2 0 rfl rfl h.1 dX0_take_20 (fun H locs hP hD hS => ?_)
    have h := h.2
    have hP : va_P D vwCl (wv_cn cI cJ cZ cM h_cn a_cn cn_keys (upd cn_counts r1.toNatClampNeg x8) cn_errors cn_limit cn_used) H := hP
    have hD : va_D A (wv_cn cI cJ cZ cM h_cn a_cn cn_keys (upd cn_counts r1.toNatClampNeg x8) cn_errors cn_limit cn_used) := hD
    refine lv_goto (tgt := 75) hx hb dX0_take_21 (by decide) ?_
    exact W.vret hx hb hr (fun t ht hW => ⟨⟨(cn_keys, upd cn_counts r1.toNatClampNeg x8, cn_errors, cn_used), rfl, h, by rw [ht]; exact hP, hD⟩, hS.F ht⟩) hS.2.2 dX0_take_75
def wp_cn_atLeast (p1 : Int32) (cn_keys : Nat → Int32) (cn_counts : Nat → Int32) (cn_errors : Nat → Int32) (cn_used : Int32) (post : Int32 → Prop) : Prop := wp_cn_find p1 cn_keys cn_used (fun (r1 : Int32) => (¬ r1 = (-1) → wp_cn_surelyAt r1 cn_counts cn_errors cn_used (fun (r3 : Int32) => post r3)) ∧ (r1 = (-1) → post 0))
theorem mm_cn_atLeast : hk_MV yX0_atLeast cX0_atLeast 3 (some .int) 1 := ⟨hw_554, hw_553, hw_39, hw_82, by decide +kernel⟩
set_option maxRecDepth 100000 in
set_option maxHeartbeats 4000000 in
theorem c_cn_atLeast (l : Launch) (D : va_G) (cI cJ cZ cM : ClassId) (h_cn : Nat) (a_cn : Nat → Nat)  (cn_keys : Nat → Int32) (cn_counts : Nat → Int32) (cn_errors : Nat → Int32) (cn_limit : Int32) (cn_used : Int32) (p1 : Int32) (post : Int32 → Prop) (h : wp_cn_atLeast p1 cn_keys cn_counts cn_errors cn_used post) : Met l yX0_atLeast (hk_ws yX0_atLeast cX0_atLeast 3 (some .int)) (hk_rm 2 42) (va_Pc [.ref h_cn, .int p1] (hk_PR D (hk_ty cI cJ cZ cM) (wv_cn cI cJ cZ cM h_cn a_cn cn_keys cn_counts cn_errors cn_limit cn_used))) (vp_Si post) 0 0 (fun _ => False) := by
  refine Met.ofW (cc := cX0_atLeast) (maxL := 3) (ret := (some .int)) (by decide) rfl ?_
  intro p e s m args below meth c s₁ B hml hv
  obtain ⟨rfl, hP, hK, hN⟩ := hv
  have hx := B.exec
  have hb := B.bytes
  have hr := B.returns
  have hts := atoms_spec (ws := hk_ws yX0_atLeast cX0_atLeast 3 (some .int)) B.pre
  have hta : ∀ w ∈ hk_all, w.before ([.ref h_cn, .int p1] : List Value).toArray s = true := fun w hw => hts w (List.mem_cons_of_mem _ hw)
  have hown : s.vm.findClass RX0 = some m.cls := findClass_of_methodNamed B.named
  have hlocks := B.notSynchronized
  have S0 : CallFix p m c cX0_atLeast 3 s ([.ref h_cn, .int p1] : List Value).toArray hk_all RX0 := ⟨hx, hb, hml, hown, hta⟩
  have hl := lv_entry ([.ref h_cn, .int p1]) (n := 3) (Nat.le_of_ble_eq_true rfl)
  rw [lg_entry_eq]
  generalize (lg_sl ([.ref h_cn, .int p1]) ++ List.replicate (3 - (lg_sl ([.ref h_cn, .int p1])).length) Slot.unset).toArray = ls at hl ⊢
  have hl : lv_has ls 3 [(0, .ref h_cn), (1, .int p1)] := hl
  unfold wp_cn_atLeast at h
  refine lv_aload_n hx hb dX0_atLeast_0 rfl (lv_at hl 0 rfl) ?_
  refine lv_iload_n hx hb dX0_atLeast_1 rfl (lv_at hl 1 rfl) ?_
  refine vp_callSi (hk_runV (As := [.int p1]) (rest := []) S0 mm_cn_find (c_cn_find l D cI cJ cZ cM h_cn a_cn cn_keys cn_counts cn_errors cn_limit cn_used p1 _ h) hw_413 hk_blR (hk_atR hP hK hN) (va_recv hK hP (ci := 0) (q0 := 0) rfl rfl) ⟨rfl, rfl, Nat.le_of_ble_eq_true rfl, Nat.le_of_ble_eq_true rfl⟩ rfl hl.1 rfl (Nat.le_of_ble_eq_true rfl) dX0_atLeast_2 ⟨Nat.le_of_ble_eq_true rfl, Nat.le_of_ble_eq_true rfl⟩).run (fun r1 h => ?_)
  refine lv_istore_n (lv' := [(2, .int r1), (0, .ref h_cn), (1, .int p1)]) hx hb dX0_atLeast_5 rfl hl (by decide) rfl (fun ls hl => ?_)
  refine lv_iload_n hx hb dX0_atLeast_6 rfl (lv_at hl 0 rfl) ?_
  refine lv_iconst (v := (-1)) hx hb dX0_atLeast_7 (by decide) ?_
  refine lv_icmp_ne (tgt := 15) hx hb dX0_atLeast_8 (by decide) (fun c2 => ?_) (fun c2 => ?_)
  · have h := h.1 c2
    refine lv_aload_n hx hb dX0_atLeast_15 rfl (lv_at hl 1 rfl) ?_
    refine lv_iload_n hx hb dX0_atLeast_16 rfl (lv_at hl 0 rfl) ?_
    refine vp_callSi (hk_runV (As := [.int r1]) (rest := []) S0 mm_cn_surelyAt (c_cn_surelyAt l D cI cJ cZ cM h_cn a_cn cn_keys cn_counts cn_errors cn_limit cn_used r1 _ h) hw_555 hk_blR (hk_atR hP hK hN) (va_recv hK hP (ci := 0) (q0 := 0) rfl rfl) ⟨rfl, rfl, Nat.le_of_ble_eq_true rfl, Nat.le_of_ble_eq_true rfl⟩ rfl hl.1 rfl (Nat.le_of_ble_eq_true rfl) dX0_atLeast_17 ⟨Nat.le_of_ble_eq_true rfl, Nat.le_of_ble_eq_true rfl⟩).run (fun r3 h => ?_)
    exact W.iret (v := r3) hx hb hr (fun t ht hW => ⟨_, rfl, h, ht⟩) (fun _ hq => by cases hq) dX0_atLeast_20
  · have h := h.2 c2
    refine lv_iconst (v := 0) hx hb dX0_atLeast_11 (by decide) ?_
    refine lv_goto (tgt := 20) hx hb dX0_atLeast_12 (by decide) ?_
    exact W.iret (v := 0) hx hb hr (fun t ht hW => ⟨_, rfl, h, ht⟩) (fun _ hq => by cases hq) dX0_atLeast_20
def wp_cn_atMost (p1 : Int32) (cn_keys : Nat → Int32) (cn_counts : Nat → Int32) (cn_limit : Int32) (cn_used : Int32) (post : Int32 → Prop) : Prop := wp_cn_find p1 cn_keys cn_used (fun (r1 : Int32) => (r1 = (-1) → (cn_limit ≤ cn_used → wp_cn_leastAt cn_counts cn_used (fun (r4 : Int32) => vp_in r4 12 ∧ (post (cn_counts r4.toNatClampNeg)))) ∧ (¬ cn_limit ≤ cn_used → post 0)) ∧ (¬ r1 = (-1) → vp_in r1 12 ∧ (post (cn_counts r1.toNatClampNeg))))
theorem mm_cn_atMost : hk_MV yX0_atMost cX0_atMost 3 (some .int) 1 := ⟨hw_476, hw_475, hw_31, hw_82, by decide +kernel⟩
set_option maxRecDepth 100000 in
set_option maxHeartbeats 4000000 in
theorem c_cn_atMost (l : Launch) (D : va_G) (cI cJ cZ cM : ClassId) (h_cn : Nat) (a_cn : Nat → Nat)  (cn_keys : Nat → Int32) (cn_counts : Nat → Int32) (cn_errors : Nat → Int32) (cn_limit : Int32) (cn_used : Int32) (p1 : Int32) (post : Int32 → Prop) (h : wp_cn_atMost p1 cn_keys cn_counts cn_limit cn_used post) : Met l yX0_atMost (hk_ws yX0_atMost cX0_atMost 3 (some .int)) (hk_rm 1 22) (va_Pc [.ref h_cn, .int p1] (hk_PR D (hk_ty cI cJ cZ cM) (wv_cn cI cJ cZ cM h_cn a_cn cn_keys cn_counts cn_errors cn_limit cn_used))) (vp_Si post) 0 0 (fun _ => False) := by
  refine Met.ofW (cc := cX0_atMost) (maxL := 3) (ret := (some .int)) (by decide) rfl ?_
  intro p e s m args below meth c s₁ B hml hv
  obtain ⟨rfl, hP, hK, hN⟩ := hv
  have hx := B.exec
  have hb := B.bytes
  have hr := B.returns
  have hts := atoms_spec (ws := hk_ws yX0_atMost cX0_atMost 3 (some .int)) B.pre
  have hta : ∀ w ∈ hk_all, w.before ([.ref h_cn, .int p1] : List Value).toArray s = true := fun w hw => hts w (List.mem_cons_of_mem _ hw)
  have hown : s.vm.findClass RX0 = some m.cls := findClass_of_methodNamed B.named
  have hlocks := B.notSynchronized
  have S0 : CallFix p m c cX0_atMost 3 s ([.ref h_cn, .int p1] : List Value).toArray hk_all RX0 := ⟨hx, hb, hml, hown, hta⟩
  have hl := lv_entry ([.ref h_cn, .int p1]) (n := 3) (Nat.le_of_ble_eq_true rfl)
  rw [lg_entry_eq]
  generalize (lg_sl ([.ref h_cn, .int p1]) ++ List.replicate (3 - (lg_sl ([.ref h_cn, .int p1])).length) Slot.unset).toArray = ls at hl ⊢
  have hl : lv_has ls 3 [(0, .ref h_cn), (1, .int p1)] := hl
  unfold wp_cn_atMost at h
  refine lv_aload_n hx hb dX0_atMost_0 rfl (lv_at hl 0 rfl) ?_
  refine lv_iload_n hx hb dX0_atMost_1 rfl (lv_at hl 1 rfl) ?_
  refine vp_callSi (hk_runV (As := [.int p1]) (rest := []) S0 mm_cn_find (c_cn_find l D cI cJ cZ cM h_cn a_cn cn_keys cn_counts cn_errors cn_limit cn_used p1 _ h) hw_413 hk_blR (hk_atR hP hK hN) (va_recv hK hP (ci := 0) (q0 := 0) rfl rfl) ⟨rfl, rfl, Nat.le_of_ble_eq_true rfl, Nat.le_of_ble_eq_true rfl⟩ rfl hl.1 rfl (Nat.le_of_ble_eq_true rfl) dX0_atMost_2 ⟨Nat.le_of_ble_eq_true rfl, Nat.le_of_ble_eq_true rfl⟩).run (fun r1 h => ?_)
  refine lv_istore_n (lv' := [(2, .int r1), (0, .ref h_cn), (1, .int p1)]) hx hb dX0_atMost_5 rfl hl (by decide) rfl (fun ls hl => ?_)
  refine lv_iload_n hx hb dX0_atMost_6 rfl (lv_at hl 0 rfl) ?_
  refine lv_iconst (v := (-1)) hx hb dX0_atMost_7 (by decide) ?_
  refine lv_icmp_eq (tgt := 18) hx hb dX0_atMost_8 (by decide) (fun c2 => ?_) (fun c2 => ?_)
  · have h := h.1 c2
    refine lv_aload_n hx hb dX0_atMost_18 rfl (lv_at hl 1 rfl) ?_
    refine va_get (D := D) (ci := 0) (v := .int cn_used) (C := RX0) (T := TX0) (N := 5) hx hb hta ih_X0 hown hK hP 0 rfl rfl 4 (by decide) (hta _ hw_157) (fun _ h9 => h9) rfl dX0_atMost_19 ?_
    refine lv_aload_n hx hb dX0_atMost_22 rfl (lv_at hl 1 rfl) ?_
    refine va_get (D := D) (ci := 0) (v := .int cn_limit) (C := RX0) (T := TX0) (N := 5) hx hb hta ih_X0 hown hK hP 0 rfl rfl 3 (by decide) (hta _ hw_155) (fun _ h9 => h9) rfl dX0_atMost_23 ?_
    refine lv_icmp_ge (tgt := 33) hx hb dX0_atMost_26 (by decide) (fun c3 => ?_) (fun c3 => ?_)
    · have h := h.1 c3
      refine lv_aload_n hx hb dX0_atMost_33 rfl (lv_at hl 1 rfl) ?_
      refine va_get (D := D) (ci := 0) (v := .ref (a_cn 1)) (C := RX0) (T := TX0) (N := 5) hx hb hta ih_X0 hown hK hP 0 rfl rfl 1 (by decide) (hta _ hw_153) (fun _ h9 => h9) rfl dX0_atMost_34 ?_
      refine lv_aload_n hx hb dX0_atMost_37 rfl (lv_at hl 1 rfl) ?_
      refine vp_callSi (hk_runV (As := []) (rest := [.ref (a_cn 1)]) S0 mm_cn_leastAt (c_cn_leastAt l D cI cJ cZ cM h_cn a_cn cn_keys cn_counts cn_errors cn_limit cn_used _ h) hw_421 hk_blR (hk_atR hP hK hN) (va_recv hK hP (ci := 0) (q0 := 0) rfl rfl) ⟨rfl, rfl, Nat.le_of_ble_eq_true rfl, Nat.le_of_ble_eq_true rfl⟩ rfl hl.1 rfl (Nat.le_of_ble_eq_true rfl) dX0_atMost_38 ⟨Nat.le_of_ble_eq_true rfl, Nat.le_of_ble_eq_true rfl⟩).run (fun r4 h => ?_)
      refine va_iald hx hb hK hP 2 0 rfl rfl h.1 dX0_atMost_41 ?_
      have h := h.2
      exact W.iret (v := cn_counts r4.toNatClampNeg) hx hb hr (fun t ht hW => ⟨_, rfl, h, ht⟩) (fun _ hq => by cases hq) dX0_atMost_42
    · have h := h.2 c3
      refine lv_iconst (v := 0) hx hb dX0_atMost_29 (by decide) ?_
      refine lv_goto (tgt := 42) hx hb dX0_atMost_30 (by decide) ?_
      exact W.iret (v := 0) hx hb hr (fun t ht hW => ⟨_, rfl, h, ht⟩) (fun _ hq => by cases hq) dX0_atMost_42
  · have h := h.2 c2
    refine lv_aload_n hx hb dX0_atMost_11 rfl (lv_at hl 1 rfl) ?_
    refine va_get (D := D) (ci := 0) (v := .ref (a_cn 1)) (C := RX0) (T := TX0) (N := 5) hx hb hta ih_X0 hown hK hP 0 rfl rfl 1 (by decide) (hta _ hw_153) (fun _ h9 => h9) rfl dX0_atMost_12 ?_
    refine lv_iload_n hx hb dX0_atMost_15 rfl (lv_at hl 0 rfl) ?_
    refine va_iald hx hb hK hP 2 0 rfl rfl h.1 dX0_atMost_16 ?_
    have h := h.2
    exact W.iret (v := cn_counts r1.toNatClampNeg) hx hb hr (fun t ht hW => ⟨_, rfl, h, ht⟩) (fun _ hq => by cases hq) dX0_atMost_17
end
section
def wp_fo_add (p1 : Int32) (p2 : Int32) (fo_kinds : Nat → Int32) (fo_declared : Nat → Int32) (fo_count : Int32) (post : Int32 → ((Nat → Int32) × (Nat → Int32) × Int32) → Prop) : Prop := vp_in fo_count 6 ∧ (vp_in fo_count 6 ∧ (∀ x1 : Int32, x1 = fo_count + 1 → post fo_count (upd fo_kinds fo_count.toNatClampNeg p1, upd fo_declared fo_count.toNatClampNeg (vp_nar .boolean p2), x1)))
theorem mm_fo_add : hk_MV yX1_add cX1_add 4 (some .int) 2 := ⟨hw_352, hw_351, hw_9, hw_80, by decide +kernel⟩
set_option maxRecDepth 100000 in
set_option maxHeartbeats 4000000 in
theorem c_fo_add (l : Launch) (D : va_G) (cI cJ cZ cM : ClassId) (h_fo : Nat) (a_fo : Nat → Nat) (sz : Nat) (fo_kinds : Nat → Int32) (fo_declared : Nat → Int32) (fo_count : Int32) (p1 : Int32) (p2 : Int32) (post : Int32 → ((Nat → Int32) × (Nat → Int32) × Int32) → Prop) (h : wp_fo_add p1 p2 fo_kinds fo_declared fo_count post) : Met l yX1_add (hk_ws yX1_add cX1_add 4 (some .int)) (hk_rm 0 0) (va_Pc [.ref h_fo, .int p1, .int p2] (hk_PM D (hk_ty cI cJ cZ cM) sz (wv_fo cI cJ cZ cM h_fo a_fo fo_kinds fo_declared fo_count))) (va_Qi post (hk_B D (va_A (wv_fo cI cJ cZ cM h_fo a_fo fo_kinds fo_declared fo_count) sz) (fun (u : (Nat → Int32) × (Nat → Int32) × Int32) => wv_fo cI cJ cZ cM h_fo a_fo u.1 u.2.1 u.2.2)) (va_A (wv_fo cI cJ cZ cM h_fo a_fo fo_kinds fo_declared fo_count) sz)) 0 0 (va_A (wv_fo cI cJ cZ cM h_fo a_fo fo_kinds fo_declared fo_count) sz) := by
  refine Met.ofW (cc := cX1_add) (maxL := 4) (ret := (some .int)) (by decide) rfl ?_
  intro p e s m args below meth c s₁ B hml hv
  obtain ⟨rfl, hsz, hP, hK, hD0, hN⟩ := hv
  have hx := B.exec
  have hb := B.bytes
  have hr := B.returns
  have hts := atoms_spec (ws := hk_ws yX1_add cX1_add 4 (some .int)) B.pre
  have hta : ∀ w ∈ hk_all, w.before ([.ref h_fo, .int p1, .int p2] : List Value).toArray s = true := fun w hw => hts w (List.mem_cons_of_mem _ hw)
  have hown : s.vm.findClass RX1 = some m.cls := findClass_of_methodNamed B.named
  have hlocks := B.notSynchronized
  have S0 : CallFix p m c cX1_add 4 s ([.ref h_fo, .int p1, .int p2] : List Value).toArray hk_all RX1 := ⟨hx, hb, hml, hown, hta⟩
  subst hsz
  have hD := hD0.self (sz := s.heap.size)
  generalize hAe : va_A (wv_fo cI cJ cZ cM h_fo a_fo fo_kinds fo_declared fo_count) s.heap.size = A at hD ⊢
  have hA : ∀ q : Nat, s.heap.size ≤ q → A q := fun q h => by rw [← hAe]; exact Or.inr h
  have hS : va_S A s.heap s.heap [] := va_S.rf
  have hl := lv_entry ([.ref h_fo, .int p1, .int p2]) (n := 4) (Nat.le_of_ble_eq_true rfl)
  rw [lg_entry_eq]
  generalize (lg_sl ([.ref h_fo, .int p1, .int p2]) ++ List.replicate (4 - (lg_sl ([.ref h_fo, .int p1, .int p2])).length) Slot.unset).toArray = ls at hl ⊢
  have hl : lv_has ls 4 [(0, .ref h_fo), (1, .int p1), (2, .int p2)] := hl
  unfold wp_fo_add at h
  refine lv_aload_n hx hb dX1_add_0 rfl (lv_at hl 0 rfl) ?_
  refine va_get (D := D) (ci := 1) (v := .int fo_count) (C := RX1) (T := TX1) (N := 3) hx hb hta ih_X1 hown hK hP 0 rfl rfl 2 (by decide) (hta _ hw_107) (fun _ h9 => h9) rfl dX1_add_1 ?_
  refine lv_istore_n (lv' := [(3, .int fo_count), (0, .ref h_fo), (1, .int p1), (2, .int p2)]) hx hb dX1_add_4 rfl hl (by decide) rfl (fun ls hl => ?_)
  refine lv_aload_n hx hb dX1_add_5 rfl (lv_at hl 1 rfl) ?_
  refine va_get (D := D) (ci := 1) (v := .ref (a_fo 0)) (C := RX1) (T := TX1) (N := 3) hx hb hta ih_X1 hown hK hP 0 rfl rfl 0 (by decide) (hta _ hw_105) (fun _ h9 => h9) rfl dX1_add_6 ?_
  refine lv_iload_n hx hb dX1_add_9 rfl (lv_at hl 0 rfl) ?_
  refine lv_iload_n hx hb dX1_add_10 rfl (lv_at hl 2 rfl) ?_
  refine va_iast hx hb hK hP hD hS 1 0 rfl rfl h.1 dX1_add_11 (fun H locs hP hD hS => ?_)
  have h := h.2
  have hP : va_P D vwCl (wv_fo cI cJ cZ cM h_fo a_fo (upd fo_kinds fo_count.toNatClampNeg p1) fo_declared fo_count) H := hP
  have hD : va_D A (wv_fo cI cJ cZ cM h_fo a_fo (upd fo_kinds fo_count.toNatClampNeg p1) fo_declared fo_count) := hD
  refine lv_aload_n hx hb dX1_add_12 rfl (lv_at hl 1 rfl) ?_
  refine va_get (D := D) (ci := 1) (v := .ref (a_fo 1)) (C := RX1) (T := TX1) (N := 3) hx hb hta ih_X1 hown hK hP 0 rfl rfl 1 (by decide) (hta _ hw_106) (fun _ h9 => h9) rfl dX1_add_13 ?_
  refine lv_iload_n hx hb dX1_add_16 rfl (lv_at hl 0 rfl) ?_
  refine lv_iload_n hx hb dX1_add_17 rfl (lv_at hl 3 rfl) ?_
  refine va_zast hx hb hK hP hD hS 2 2 rfl rfl h.1 dX1_add_18 (fun H locs hP hD hS => ?_)
  have h := h.2
  have hP : va_P D vwCl (wv_fo cI cJ cZ cM h_fo a_fo (upd fo_kinds fo_count.toNatClampNeg p1) (upd fo_declared fo_count.toNatClampNeg (vp_nar .boolean p2)) fo_count) H := hP
  have hD : va_D A (wv_fo cI cJ cZ cM h_fo a_fo (upd fo_kinds fo_count.toNatClampNeg p1) (upd fo_declared fo_count.toNatClampNeg (vp_nar .boolean p2)) fo_count) := hD
  refine lv_aload_n hx hb dX1_add_19 rfl (lv_at hl 1 rfl) ?_
  refine lv_dup hx hb dX1_add_20 rfl ?_
  refine va_get (D := D) (ci := 1) (v := .int fo_count) (C := RX1) (T := TX1) (N := 3) hx hb hta ih_X1 hown hK hP 0 rfl rfl 2 (by decide) (hta _ hw_107) (fun _ h9 => h9) rfl dX1_add_21 ?_
  refine lv_iconst (v := 1) hx hb dX1_add_24 (by decide) ?_
  refine lv_iadd hx hb dX1_add_25 ?_
  refine lv_topi (fun x1 ex1 => ?_)
  have h := h x1 ex1
  refine va_put (D := D) (ci := 1) (v := .int x1) (ty := .int) (C := RX1) (T := TX1) (N := 3) hx hb hta ih_X1 tyX1 tyX1_ok nmX1 hown hK hP hD hS 0 rfl rfl 2 (by decide) (hta _ hw_107) (fun _ h9 => h9) rfl (by decide +kernel) rfl rfl (Nat.le_of_ble_eq_true rfl) dX1_add_26 (fun H locs hP hD hS => ?_)
  have hP : va_P D vwCl (wv_fo cI cJ cZ cM h_fo a_fo (upd fo_kinds fo_count.toNatClampNeg p1) (upd fo_declared fo_count.toNatClampNeg (vp_nar .boolean p2)) x1) H := hP
  have hD : va_D A (wv_fo cI cJ cZ cM h_fo a_fo (upd fo_kinds fo_count.toNatClampNeg p1) (upd fo_declared fo_count.toNatClampNeg (vp_nar .boolean p2)) x1) := hD
  refine lv_iload_n hx hb dX1_add_29 rfl (lv_at hl 0 rfl) ?_
  exact W.iret (v := fo_count) hx hb hr (fun t ht hW => ⟨⟨fo_count, (upd fo_kinds fo_count.toNatClampNeg p1, upd fo_declared fo_count.toNatClampNeg (vp_nar .boolean p2), x1), rfl, h, by rw [ht]; exact hP, hD⟩, hS.F ht⟩) hS.2.2 dX1_add_30
def wb_fo_allCanBeJoined_2 (fo_kinds : Nat → Int32) (fo_declared : Nat → Int32) (fo_count : Int32) (post : Int32 → Prop) (K2 : (Int32) → Prop) (v1 : Int32) : Prop := (fo_count ≤ v1 → post 1) ∧ (¬ fo_count ≤ v1 → vp_in v1 6 ∧ (((fo_declared v1.toNatClampNeg) = 0 → post 0) ∧ (¬ (fo_declared v1.toNatClampNeg) = 0 → vp_in v1 6 ∧ (((fo_kinds v1.toNatClampNeg) = 6 → post 0) ∧ (¬ (fo_kinds v1.toNatClampNeg) = 6 → vp_in v1 6 ∧ ((¬ (fo_kinds v1.toNatClampNeg) = 7 → ∀ x6 : Int32, x6 = v1 + 1 → K2 x6) ∧ ((fo_kinds v1.toNatClampNeg) = 7 → post 0)))))))
def wp_fo_allCanBeJoined  (fo_kinds : Nat → Int32) (fo_declared : Nat → Int32) (fo_count : Int32) (post : Int32 → Prop) : Prop := ∃ n, hk_lp (wb_fo_allCanBeJoined_2 fo_kinds fo_declared fo_count post) n 0
theorem mm_fo_allCanBeJoined : hk_MV yX1_allCanBeJoined cX1_allCanBeJoined 2 (some .boolean) 0 := ⟨hw_453, hw_452, hw_27, hw_80, by decide +kernel⟩
set_option maxRecDepth 100000 in
set_option maxHeartbeats 4000000 in
theorem c_fo_allCanBeJoined (l : Launch) (D : va_G) (cI cJ cZ cM : ClassId) (h_fo : Nat) (a_fo : Nat → Nat)  (fo_kinds : Nat → Int32) (fo_declared : Nat → Int32) (fo_count : Int32)  (post : Int32 → Prop) (h : wp_fo_allCanBeJoined fo_kinds fo_declared fo_count post) : Met l yX1_allCanBeJoined (hk_ws yX1_allCanBeJoined cX1_allCanBeJoined 2 (some .boolean)) (hk_rm 0 0) (va_Pc [.ref h_fo] (hk_PR D (hk_ty cI cJ cZ cM) (wv_fo cI cJ cZ cM h_fo a_fo fo_kinds fo_declared fo_count))) (vp_Si post) 0 0 (fun _ => False) := by
  refine Met.ofW (cc := cX1_allCanBeJoined) (maxL := 2) (ret := (some .boolean)) (by decide) rfl ?_
  intro p e s m args below meth c s₁ B hml hv
  obtain ⟨rfl, hP, hK, hN⟩ := hv
  have hx := B.exec
  have hb := B.bytes
  have hr := B.returns
  have hts := atoms_spec (ws := hk_ws yX1_allCanBeJoined cX1_allCanBeJoined 2 (some .boolean)) B.pre
  have hta : ∀ w ∈ hk_all, w.before ([.ref h_fo] : List Value).toArray s = true := fun w hw => hts w (List.mem_cons_of_mem _ hw)
  have hown : s.vm.findClass RX1 = some m.cls := findClass_of_methodNamed B.named
  have hlocks := B.notSynchronized
  have S0 : CallFix p m c cX1_allCanBeJoined 2 s ([.ref h_fo] : List Value).toArray hk_all RX1 := ⟨hx, hb, hml, hown, hta⟩
  have hl := lv_entry ([.ref h_fo]) (n := 2) (Nat.le_of_ble_eq_true rfl)
  rw [lg_entry_eq]
  generalize (lg_sl ([.ref h_fo]) ++ List.replicate (2 - (lg_sl ([.ref h_fo])).length) Slot.unset).toArray = ls at hl ⊢
  have hl : lv_has ls 2 [(0, .ref h_fo)] := hl
  unfold wp_fo_allCanBeJoined at h
  refine lv_iconst (v := 0) hx hb dX1_allCanBeJoined_0 (by decide) ?_
  refine lv_istore_n (lv' := [(1, .int 0), (0, .ref h_fo)]) hx hb dX1_allCanBeJoined_1 rfl hl (by decide) rfl (fun ls hl => ?_)
  have P2 : ∀ (n : Nat) (v1 : Int32) (ls : Array Slot), lv_has ls 2 [(0, .ref h_fo), (1, .int v1)] → hk_lp (wb_fo_allCanBeJoined_2 fo_kinds fo_declared fo_count post) n v1 → W p l e (headSpec (hk_ws yX1_allCanBeJoined cX1_allCanBeJoined 2 (some .boolean)) (hk_rm 0 0)).room s m ([.ref h_fo] : List Value).toArray below meth c s.heap [] 0 0 (MQ below (vp_Si post) ([.ref h_fo] : List Value).toArray s 0 0 (fun _ => False)) (F0 m 2 ls []) := by
    intro n
    induction n with
    | zero => intro v1 ls hl h; exact False.elim h
    | succ n ih2 =>
      intro v1 ls hl h
      have h : wb_fo_allCanBeJoined_2 fo_kinds fo_declared fo_count post (hk_lp (wb_fo_allCanBeJoined_2 fo_kinds fo_declared fo_count post) n) v1 := h
      unfold wb_fo_allCanBeJoined_2 at h
      refine lv_iload_n hx hb dX1_allCanBeJoined_2 rfl (lv_at hl 1 rfl) ?_
      refine lv_aload_n hx hb dX1_allCanBeJoined_3 rfl (lv_at hl 0 rfl) ?_
      refine va_get (D := D) (ci := 1) (v := .int fo_count) (C := RX1) (T := TX1) (N := 3) hx hb hta ih_X1 hown hK hP 0 rfl rfl 2 (by decide) (hta _ hw_107) (fun _ h9 => h9) rfl dX1_allCanBeJoined_4 ?_
      refine lv_icmp_ge (tgt := 49) hx hb dX1_allCanBeJoined_7 (by decide) (fun c2 => ?_) (fun c2 => ?_)
      · have h := h.1 c2
        refine lv_iconst (v := 1) hx hb dX1_allCanBeJoined_49 (by decide) ?_
        exact W.zret (ty := .boolean) (v := 1) hx hb hr rfl (fun t ht hW => ⟨_, rfl, h, ht⟩) (fun _ hq => by cases hq) dX1_allCanBeJoined_50
      · have h := h.2 c2
        refine lv_aload_n hx hb dX1_allCanBeJoined_10 rfl (lv_at hl 0 rfl) ?_
        refine va_get (D := D) (ci := 1) (v := .ref (a_fo 1)) (C := RX1) (T := TX1) (N := 3) hx hb hta ih_X1 hown hK hP 0 rfl rfl 1 (by decide) (hta _ hw_106) (fun _ h9 => h9) rfl dX1_allCanBeJoined_11 ?_
        refine lv_iload_n hx hb dX1_allCanBeJoined_14 rfl (lv_at hl 1 rfl) ?_
        refine va_zald hx hb hK hP 2 2 rfl rfl h.1 dX1_allCanBeJoined_15 ?_
        have h := h.2
        refine lv_if_eq (tgt := 41) hx hb dX1_allCanBeJoined_16 (by decide) (fun c3 => ?_) (fun c3 => ?_)
        · have h := h.1 c3
          refine lv_iconst (v := 0) hx hb dX1_allCanBeJoined_41 (by decide) ?_
          exact W.zret (ty := .boolean) (v := 0) hx hb hr rfl (fun t ht hW => ⟨_, rfl, h, ht⟩) (fun _ hq => by cases hq) dX1_allCanBeJoined_42
        · have h := h.2 c3
          refine lv_aload_n hx hb dX1_allCanBeJoined_19 rfl (lv_at hl 0 rfl) ?_
          refine va_get (D := D) (ci := 1) (v := .ref (a_fo 0)) (C := RX1) (T := TX1) (N := 3) hx hb hta ih_X1 hown hK hP 0 rfl rfl 0 (by decide) (hta _ hw_105) (fun _ h9 => h9) rfl dX1_allCanBeJoined_20 ?_
          refine lv_iload_n hx hb dX1_allCanBeJoined_23 rfl (lv_at hl 1 rfl) ?_
          refine va_iald hx hb hK hP 1 0 rfl rfl h.1 dX1_allCanBeJoined_24 ?_
          have h := h.2
          refine lv_bipush (v := 6) hx hb dX1_allCanBeJoined_25 (by decide) ?_
          refine lv_icmp_eq (tgt := 41) hx hb dX1_allCanBeJoined_27 (by decide) (fun c4 => ?_) (fun c4 => ?_)
          · have h := h.1 c4
            refine lv_iconst (v := 0) hx hb dX1_allCanBeJoined_41 (by decide) ?_
            exact W.zret (ty := .boolean) (v := 0) hx hb hr rfl (fun t ht hW => ⟨_, rfl, h, ht⟩) (fun _ hq => by cases hq) dX1_allCanBeJoined_42
          · have h := h.2 c4
            refine lv_aload_n hx hb dX1_allCanBeJoined_30 rfl (lv_at hl 0 rfl) ?_
            refine va_get (D := D) (ci := 1) (v := .ref (a_fo 0)) (C := RX1) (T := TX1) (N := 3) hx hb hta ih_X1 hown hK hP 0 rfl rfl 0 (by decide) (hta _ hw_105) (fun _ h9 => h9) rfl dX1_allCanBeJoined_31 ?_
            refine lv_iload_n hx hb dX1_allCanBeJoined_34 rfl (lv_at hl 1 rfl) ?_
            refine va_iald hx hb hK hP 1 0 rfl rfl h.1 dX1_allCanBeJoined_35 ?_
            have h := h.2
            refine lv_bipush (v := 7) hx hb dX1_allCanBeJoined_36 (by decide) ?_
            refine lv_icmp_ne (tgt := 43) hx hb dX1_allCanBeJoined_38 (by decide) (fun c5 => ?_) (fun c5 => ?_)
            · have h := h.1 c5
              obtain ⟨x6, ex6⟩ : ∃ y : Int32, y = v1 + 1 := ⟨_, rfl⟩
              have h := h x6 ex6
              refine lv_iinc (v := x6) (lv' := [(1, .int x6), (0, .ref h_fo)]) hx hb dX1_allCanBeJoined_43 hl (k := 1) rfl (by rw [ex6]; rfl) (by decide) rfl (fun ls hl => ?_)
              refine lv_goto (tgt := 2) hx hb dX1_allCanBeJoined_46 (by decide) ?_
              exact ih2 x6 ls (lv_sub hl [1, 0] rfl) h
            · have h := h.2 c5
              refine lv_iconst (v := 0) hx hb dX1_allCanBeJoined_41 (by decide) ?_
              exact W.zret (ty := .boolean) (v := 0) hx hb hr rfl (fun t ht hW => ⟨_, rfl, h, ht⟩) (fun _ hq => by cases hq) dX1_allCanBeJoined_42
  obtain ⟨n, h⟩ := h
  exact P2 n 0 ls (lv_sub hl [1, 0] rfl) h
def wp_fo_emptyState (p1 : Int32) (fo_kinds : Nat → Int32) (post : Int64 → Prop) : Prop := vp_in p1 6 ∧ (∀ x1 : Int32, x1 = fo_kinds p1.toNatClampNeg → (x1 = 2 → post (-4000000000000)) ∧ (¬ x1 = 2 → (x1 = 3 → post (-4000000000000)) ∧ (¬ x1 = 3 → (x1 = 4 → post 0) ∧ (¬ x1 = 4 → (x1 = 5 → post (-4000000000000)) ∧ (¬ x1 = 5 → (x1 = 6 → post 7) ∧ (¬ x1 = 6 → post 0))))))
theorem mm_fo_emptyState : hk_MV yX1_emptyState cX1_emptyState 2 (some .long) 1 := ⟨hw_363, hw_362, hw_11, hw_80, by decide +kernel⟩
set_option maxRecDepth 100000 in
set_option maxHeartbeats 4000000 in
theorem c_fo_emptyState (l : Launch) (D : va_G) (cI cJ cZ cM : ClassId) (h_fo : Nat) (a_fo : Nat → Nat)  (fo_kinds : Nat → Int32) (fo_declared : Nat → Int32) (fo_count : Int32) (p1 : Int32) (post : Int64 → Prop) (h : wp_fo_emptyState p1 fo_kinds post) : Met l yX1_emptyState (hk_ws yX1_emptyState cX1_emptyState 2 (some .long)) (hk_rm 0 0) (va_Pc [.ref h_fo, .int p1] (hk_PR D (hk_ty cI cJ cZ cM) (wv_fo cI cJ cZ cM h_fo a_fo fo_kinds fo_declared fo_count))) (vp_Sl post) 0 0 (fun _ => False) := by
  refine Met.ofW (cc := cX1_emptyState) (maxL := 2) (ret := (some .long)) (by decide) rfl ?_
  intro p e s m args below meth c s₁ B hml hv
  obtain ⟨rfl, hP, hK, hN⟩ := hv
  have hx := B.exec
  have hb := B.bytes
  have hr := B.returns
  have hts := atoms_spec (ws := hk_ws yX1_emptyState cX1_emptyState 2 (some .long)) B.pre
  have hta : ∀ w ∈ hk_all, w.before ([.ref h_fo, .int p1] : List Value).toArray s = true := fun w hw => hts w (List.mem_cons_of_mem _ hw)
  have hown : s.vm.findClass RX1 = some m.cls := findClass_of_methodNamed B.named
  have hlocks := B.notSynchronized
  have S0 : CallFix p m c cX1_emptyState 2 s ([.ref h_fo, .int p1] : List Value).toArray hk_all RX1 := ⟨hx, hb, hml, hown, hta⟩
  have hl := lv_entry ([.ref h_fo, .int p1]) (n := 2) (Nat.le_of_ble_eq_true rfl)
  rw [lg_entry_eq]
  generalize (lg_sl ([.ref h_fo, .int p1]) ++ List.replicate (2 - (lg_sl ([.ref h_fo, .int p1])).length) Slot.unset).toArray = ls at hl ⊢
  have hl : lv_has ls 2 [(0, .ref h_fo), (1, .int p1)] := hl
  unfold wp_fo_emptyState at h
  refine lv_aload_n hx hb dX1_emptyState_0 rfl (lv_at hl 0 rfl) ?_
  refine va_get (D := D) (ci := 1) (v := .ref (a_fo 0)) (C := RX1) (T := TX1) (N := 3) hx hb hta ih_X1 hown hK hP 0 rfl rfl 0 (by decide) (hta _ hw_105) (fun _ h9 => h9) rfl dX1_emptyState_1 ?_
  refine lv_iload_n hx hb dX1_emptyState_4 rfl (lv_at hl 1 rfl) ?_
  refine va_iald hx hb hK hP 1 0 rfl rfl h.1 dX1_emptyState_5 ?_
  have h := h.2
  refine lv_topi (fun x1 ex1 => ?_)
  have h := h x1 ex1
  by_cases c2 : x1 = 2
  · have h := h.1 c2
    refine lv_tableIn (tgt := 40) hx hb dX1_emptyState_6 (by rw [c2]; decide) (by rw [c2]; decide) (by rw [c2]; rfl) (by decide) ?_
    refine lv_ldc2 (v := (-4000000000000)) hx hb hown (hta _ hw_364) dX1_emptyState_40 ?_
    exact W.lret (v := (-4000000000000)) hx hb hr (fun t ht hW => ⟨_, rfl, h, ht⟩) (fun _ hq => by cases hq) dX1_emptyState_43
  · have h := h.2 c2
    by_cases c3 : x1 = 3
    · have h := h.1 c3
      refine lv_tableIn (tgt := 40) hx hb dX1_emptyState_6 (by rw [c3]; decide) (by rw [c3]; decide) (by rw [c3]; rfl) (by decide) ?_
      refine lv_ldc2 (v := (-4000000000000)) hx hb hown (hta _ hw_364) dX1_emptyState_40 ?_
      exact W.lret (v := (-4000000000000)) hx hb hr (fun t ht hW => ⟨_, rfl, h, ht⟩) (fun _ hq => by cases hq) dX1_emptyState_43
    · have h := h.2 c3
      by_cases c4 : x1 = 4
      · have h := h.1 c4
        refine lv_tableIn (tgt := 48) hx hb dX1_emptyState_6 (by rw [c4]; decide) (by rw [c4]; decide) (by rw [c4]; rfl) (by decide) ?_
        refine lv_lconst (v := 0) hx hb dX1_emptyState_48 (by decide) ?_
        exact W.lret (v := 0) hx hb hr (fun t ht hW => ⟨_, rfl, h, ht⟩) (fun _ hq => by cases hq) dX1_emptyState_49
      · have h := h.2 c4
        by_cases c5 : x1 = 5
        · have h := h.1 c5
          refine lv_tableIn (tgt := 40) hx hb dX1_emptyState_6 (by rw [c5]; decide) (by rw [c5]; decide) (by rw [c5]; rfl) (by decide) ?_
          refine lv_ldc2 (v := (-4000000000000)) hx hb hown (hta _ hw_364) dX1_emptyState_40 ?_
          exact W.lret (v := (-4000000000000)) hx hb hr (fun t ht hW => ⟨_, rfl, h, ht⟩) (fun _ hq => by cases hq) dX1_emptyState_43
        · have h := h.2 c5
          by_cases c6 : x1 = 6
          · have h := h.1 c6
            refine lv_tableIn (tgt := 44) hx hb dX1_emptyState_6 (by rw [c6]; decide) (by rw [c6]; decide) (by rw [c6]; rfl) (by decide) ?_
            refine lv_ldc2 (v := 7) hx hb hown (hta _ hw_365) dX1_emptyState_44 ?_
            exact W.lret (v := 7) hx hb hr (fun t ht hW => ⟨_, rfl, h, ht⟩) (fun _ hq => by cases hq) dX1_emptyState_47
          · have h := h.2 c6
            refine lv_tableOut (tgt := 48) hx hb dX1_emptyState_6 (by have qc2 := lv_neT c2 (a := 2) rfl; have qc3 := lv_neT c3 (a := 3) rfl; have qc4 := lv_neT c4 (a := 4) rfl; have qc5 := lv_neT c5 (a := 5) rfl; have qc6 := lv_neT c6 (a := 6) rfl; omega) (by decide) ?_
            refine lv_lconst (v := 0) hx hb dX1_emptyState_48 (by decide) ?_
            exact W.lret (v := 0) hx hb hr (fun t ht hW => ⟨_, rfl, h, ht⟩) (fun _ hq => by cases hq) dX1_emptyState_49
def wp_fo_folded (p1 : Int32) (p2 : Int64) (p3 : Int32) (p4 : Int64) (fo_kinds : Nat → Int32) (post : Int64 → Prop) : Prop := vp_in p1 6 ∧ (∀ x1 : Int32, x1 = fo_kinds p1.toNatClampNeg → (x1 = 0 → post (p2 + 1)) ∧ (¬ x1 = 0 → (x1 = 1 → post (p2 + p3.toInt64)) ∧ (¬ x1 = 1 → (x1 = 2 → (¬ (lg_cmp p2 (-4000000000000)) = 0 → post (if p3.toInt64 < p2 then p3.toInt64 else p2)) ∧ ((lg_cmp p2 (-4000000000000)) = 0 → post p3.toInt64)) ∧ (¬ x1 = 2 → (x1 = 3 → post (if p3.toInt64 < p2 then p2 else p3.toInt64)) ∧ (¬ x1 = 3 → (x1 = 4 → post (p2 ||| (hk_lshl 1 (p3 &&& 15)))) ∧ (¬ x1 = 4 → (x1 = 5 → post p3.toInt64) ∧ (¬ x1 = 5 → (x1 = 6 → post (((31 * p2.toInt32) + p3).toInt64)) ∧ (¬ x1 = 6 → (x1 = 7 → (0 ≤ (lg_cmp p3.toInt64 p4) → post p2) ∧ (¬ 0 ≤ (lg_cmp p3.toInt64 p4) → post (p2 + 1))) ∧ (¬ x1 = 7 → post p2)))))))))
theorem mm_fo_folded : hk_MV yX1_folded cX1_folded 7 (some .long) 4 := ⟨hw_395, hw_394, hw_15, hw_80, by decide +kernel⟩
set_option maxRecDepth 100000 in
set_option maxHeartbeats 4000000 in
theorem c_fo_folded (l : Launch) (D : va_G) (cI cJ cZ cM : ClassId) (h_fo : Nat) (a_fo : Nat → Nat)  (fo_kinds : Nat → Int32) (fo_declared : Nat → Int32) (fo_count : Int32) (p1 : Int32) (p2 : Int64) (p3 : Int32) (p4 : Int64) (post : Int64 → Prop) (h : wp_fo_folded p1 p2 p3 p4 fo_kinds post) : Met l yX1_folded (hk_ws yX1_folded cX1_folded 7 (some .long)) (hk_rm 1 23) (va_Pc [.ref h_fo, .int p1, .long p2, .int p3, .long p4] (hk_PR D (hk_ty cI cJ cZ cM) (wv_fo cI cJ cZ cM h_fo a_fo fo_kinds fo_declared fo_count))) (vp_Sl post) 0 0 (fun _ => False) := by
  refine Met.ofW (cc := cX1_folded) (maxL := 7) (ret := (some .long)) (by decide) rfl ?_
  intro p e s m args below meth c s₁ B hml hv
  obtain ⟨rfl, hP, hK, hN⟩ := hv
  have hx := B.exec
  have hb := B.bytes
  have hr := B.returns
  have hts := atoms_spec (ws := hk_ws yX1_folded cX1_folded 7 (some .long)) B.pre
  have hta : ∀ w ∈ hk_all, w.before ([.ref h_fo, .int p1, .long p2, .int p3, .long p4] : List Value).toArray s = true := fun w hw => hts w (List.mem_cons_of_mem _ hw)
  have hown : s.vm.findClass RX1 = some m.cls := findClass_of_methodNamed B.named
  have hlocks := B.notSynchronized
  have S0 : CallFix p m c cX1_folded 7 s ([.ref h_fo, .int p1, .long p2, .int p3, .long p4] : List Value).toArray hk_all RX1 := ⟨hx, hb, hml, hown, hta⟩
  have hl := lv_entry ([.ref h_fo, .int p1, .long p2, .int p3, .long p4]) (n := 7) (Nat.le_of_ble_eq_true rfl)
  rw [lg_entry_eq]
  generalize (lg_sl ([.ref h_fo, .int p1, .long p2, .int p3, .long p4]) ++ List.replicate (7 - (lg_sl ([.ref h_fo, .int p1, .long p2, .int p3, .long p4])).length) Slot.unset).toArray = ls at hl ⊢
  have hl : lv_has ls 7 [(0, .ref h_fo), (1, .int p1), (2, .long p2), (4, .int p3), (5, .long p4)] := hl
  unfold wp_fo_folded at h
  refine lv_aload_n hx hb dX1_folded_0 rfl (lv_at hl 0 rfl) ?_
  refine va_get (D := D) (ci := 1) (v := .ref (a_fo 0)) (C := RX1) (T := TX1) (N := 3) hx hb hta ih_X1 hown hK hP 0 rfl rfl 0 (by decide) (hta _ hw_105) (fun _ h9 => h9) rfl dX1_folded_1 ?_
  refine lv_iload_n hx hb dX1_folded_4 rfl (lv_at hl 1 rfl) ?_
  refine va_iald hx hb hK hP 1 0 rfl rfl h.1 dX1_folded_5 ?_
  have h := h.2
  refine lv_topi (fun x1 ex1 => ?_)
  have h := h x1 ex1
  by_cases c4 : x1 = 0
  · have h := h.1 c4
    refine lv_tableIn (tgt := 52) hx hb dX1_folded_6 (by rw [c4]; decide) (by rw [c4]; decide) (by rw [c4]; rfl) (by decide) ?_
    refine lv_lload_n hx hb dX1_folded_52 rfl (lv_at hl 2 rfl) ?_
    refine lv_lconst (v := 1) hx hb dX1_folded_53 (by decide) ?_
    refine lv_ladd hx hb dX1_folded_54 ?_
    exact W.lret (v := p2 + 1) hx hb hr (fun t ht hW => ⟨_, rfl, h, ht⟩) (fun _ hq => by cases hq) dX1_folded_55
  · have h := h.2 c4
    by_cases c5 : x1 = 1
    · have h := h.1 c5
      refine lv_tableIn (tgt := 56) hx hb dX1_folded_6 (by rw [c5]; decide) (by rw [c5]; decide) (by rw [c5]; rfl) (by decide) ?_
      refine lv_lload_n hx hb dX1_folded_56 rfl (lv_at hl 2 rfl) ?_
      refine lv_iload hx hb dX1_folded_57 (lv_at hl 3 rfl) ?_
      refine lv_i2l (v := p3.toInt64) hx hb dX1_folded_59 rfl ?_
      refine lv_ladd hx hb dX1_folded_60 ?_
      exact W.lret (v := p2 + p3.toInt64) hx hb hr (fun t ht hW => ⟨_, rfl, h, ht⟩) (fun _ hq => by cases hq) dX1_folded_61
    · have h := h.2 c5
      by_cases c6 : x1 = 2
      · have h := h.1 c6
        refine lv_tableIn (tgt := 62) hx hb dX1_folded_6 (by rw [c6]; decide) (by rw [c6]; decide) (by rw [c6]; rfl) (by decide) ?_
        refine lv_lload_n hx hb dX1_folded_62 rfl (lv_at hl 2 rfl) ?_
        refine lv_ldc2 (v := (-4000000000000)) hx hb hown (hta _ hw_364) dX1_folded_63 ?_
        refine W.lcmp hx hb dX1_folded_66 ?_
        refine lv_if_ne (tgt := 76) hx hb dX1_folded_67 (by decide) (fun c2 => ?_) (fun c2 => ?_)
        · have h := h.1 c2
          refine lv_lload_n hx hb dX1_folded_76 rfl (lv_at hl 2 rfl) ?_
          refine lv_iload hx hb dX1_folded_77 (lv_at hl 3 rfl) ?_
          refine lv_i2l (v := p3.toInt64) hx hb dX1_folded_79 rfl ?_
          refine va_mmin_long hx hb (hml.trans hl.1.symm) hown (hta _ hw_396) (hta _ hw_397) (hta _ hw_88) (hta _ hw_398) (Nat.le_of_ble_eq_true rfl) (Nat.le_of_ble_eq_true rfl) (Nat.le_of_ble_eq_true rfl) (Nat.le_of_ble_eq_true rfl) dX1_folded_80 ?_
          exact W.lret (v := (if p3.toInt64 < p2 then p3.toInt64 else p2)) hx hb hr (fun t ht hW => ⟨_, rfl, h, ht⟩) (fun _ hq => by cases hq) dX1_folded_83
        · have h := h.2 c2
          refine lv_iload hx hb dX1_folded_70 (lv_at hl 3 rfl) ?_
          refine lv_i2l (v := p3.toInt64) hx hb dX1_folded_72 rfl ?_
          refine lv_goto (tgt := 83) hx hb dX1_folded_73 (by decide) ?_
          exact W.lret (v := p3.toInt64) hx hb hr (fun t ht hW => ⟨_, rfl, h, ht⟩) (fun _ hq => by cases hq) dX1_folded_83
      · have h := h.2 c6
        by_cases c7 : x1 = 3
        · have h := h.1 c7
          refine lv_tableIn (tgt := 84) hx hb dX1_folded_6 (by rw [c7]; decide) (by rw [c7]; decide) (by rw [c7]; rfl) (by decide) ?_
          refine lv_lload_n hx hb dX1_folded_84 rfl (lv_at hl 2 rfl) ?_
          refine lv_iload hx hb dX1_folded_85 (lv_at hl 3 rfl) ?_
          refine lv_i2l (v := p3.toInt64) hx hb dX1_folded_87 rfl ?_
          refine va_mmax_long hx hb (hml.trans hl.1.symm) hown (hta _ hw_399) (hta _ hw_400) (hta _ hw_88) (hta _ hw_401) (Nat.le_of_ble_eq_true rfl) (Nat.le_of_ble_eq_true rfl) (Nat.le_of_ble_eq_true rfl) (Nat.le_of_ble_eq_true rfl) dX1_folded_88 ?_
          exact W.lret (v := (if p3.toInt64 < p2 then p2 else p3.toInt64)) hx hb hr (fun t ht hW => ⟨_, rfl, h, ht⟩) (fun _ hq => by cases hq) dX1_folded_91
        · have h := h.2 c7
          by_cases c8 : x1 = 4
          · have h := h.1 c8
            refine lv_tableIn (tgt := 92) hx hb dX1_folded_6 (by rw [c8]; decide) (by rw [c8]; decide) (by rw [c8]; rfl) (by decide) ?_
            refine lv_lload_n hx hb dX1_folded_92 rfl (lv_at hl 2 rfl) ?_
            refine lv_lconst (v := 1) hx hb dX1_folded_93 (by decide) ?_
            refine lv_iload hx hb dX1_folded_94 (lv_at hl 3 rfl) ?_
            refine lv_bipush (v := 15) hx hb dX1_folded_96 (by decide) ?_
            refine lv_iand hx hb dX1_folded_98 ?_
            refine lv_lshl (v := hk_lshl 1 (p3 &&& 15)) hx hb dX1_folded_99 rfl ?_
            refine lv_lor hx hb dX1_folded_100 ?_
            exact W.lret (v := p2 ||| (hk_lshl 1 (p3 &&& 15))) hx hb hr (fun t ht hW => ⟨_, rfl, h, ht⟩) (fun _ hq => by cases hq) dX1_folded_101
          · have h := h.2 c8
            by_cases c9 : x1 = 5
            · have h := h.1 c9
              refine lv_tableIn (tgt := 102) hx hb dX1_folded_6 (by rw [c9]; decide) (by rw [c9]; decide) (by rw [c9]; rfl) (by decide) ?_
              refine lv_iload hx hb dX1_folded_102 (lv_at hl 3 rfl) ?_
              refine lv_i2l (v := p3.toInt64) hx hb dX1_folded_104 rfl ?_
              exact W.lret (v := p3.toInt64) hx hb hr (fun t ht hW => ⟨_, rfl, h, ht⟩) (fun _ hq => by cases hq) dX1_folded_105
            · have h := h.2 c9
              by_cases c10 : x1 = 6
              · have h := h.1 c10
                refine lv_tableIn (tgt := 106) hx hb dX1_folded_6 (by rw [c10]; decide) (by rw [c10]; decide) (by rw [c10]; rfl) (by decide) ?_
                refine lv_bipush (v := 31) hx hb dX1_folded_106 (by decide) ?_
                refine lv_lload_n hx hb dX1_folded_108 rfl (lv_at hl 2 rfl) ?_
                refine lv_l2i (v := p2.toInt32) hx hb dX1_folded_109 rfl ?_
                refine lv_imul hx hb dX1_folded_110 ?_
                refine lv_iload hx hb dX1_folded_111 (lv_at hl 3 rfl) ?_
                refine lv_iadd hx hb dX1_folded_113 ?_
                refine lv_i2l (v := ((31 * p2.toInt32) + p3).toInt64) hx hb dX1_folded_114 rfl ?_
                exact W.lret (v := ((31 * p2.toInt32) + p3).toInt64) hx hb hr (fun t ht hW => ⟨_, rfl, h, ht⟩) (fun _ hq => by cases hq) dX1_folded_115
              · have h := h.2 c10
                by_cases c11 : x1 = 7
                · have h := h.1 c11
                  refine lv_tableIn (tgt := 116) hx hb dX1_folded_6 (by rw [c11]; decide) (by rw [c11]; decide) (by rw [c11]; rfl) (by decide) ?_
                  refine lv_iload hx hb dX1_folded_116 (lv_at hl 3 rfl) ?_
                  refine lv_i2l (v := p3.toInt64) hx hb dX1_folded_118 rfl ?_
                  refine lv_lload hx hb dX1_folded_119 (lv_at hl 4 rfl) ?_
                  refine W.lcmp hx hb dX1_folded_121 ?_
                  refine lv_if_ge (tgt := 131) hx hb dX1_folded_122 (by decide) (fun c3 => ?_) (fun c3 => ?_)
                  · have h := h.1 c3
                    refine lv_lload_n hx hb dX1_folded_131 rfl (lv_at hl 2 rfl) ?_
                    exact W.lret (v := p2) hx hb hr (fun t ht hW => ⟨_, rfl, h, ht⟩) (fun _ hq => by cases hq) dX1_folded_132
                  · have h := h.2 c3
                    refine lv_lload_n hx hb dX1_folded_125 rfl (lv_at hl 2 rfl) ?_
                    refine lv_lconst (v := 1) hx hb dX1_folded_126 (by decide) ?_
                    refine lv_ladd hx hb dX1_folded_127 ?_
                    refine lv_goto (tgt := 132) hx hb dX1_folded_128 (by decide) ?_
                    exact W.lret (v := p2 + 1) hx hb hr (fun t ht hW => ⟨_, rfl, h, ht⟩) (fun _ hq => by cases hq) dX1_folded_132
                · have h := h.2 c11
                  refine lv_tableOut (tgt := 133) hx hb dX1_folded_6 (by have qc4 := lv_neT c4 (a := 0) rfl; have qc5 := lv_neT c5 (a := 1) rfl; have qc6 := lv_neT c6 (a := 2) rfl; have qc7 := lv_neT c7 (a := 3) rfl; have qc8 := lv_neT c8 (a := 4) rfl; have qc9 := lv_neT c9 (a := 5) rfl; have qc10 := lv_neT c10 (a := 6) rfl; have qc11 := lv_neT c11 (a := 7) rfl; omega) (by decide) ?_
                  refine lv_lload_n hx hb dX1_folded_133 rfl (lv_at hl 2 rfl) ?_
                  exact W.lret (v := p2) hx hb hr (fun t ht hW => ⟨_, rfl, h, ht⟩) (fun _ hq => by cases hq) dX1_folded_134
def wp_fo_joined (p1 : Int32) (p2 : Int64) (p3 : Int64) (p4 : Int32) (fo_kinds : Nat → Int32) (post : Int64 → Prop) : Prop := vp_in p1 6 ∧ (∀ x1 : Int32, x1 = fo_kinds p1.toNatClampNeg → (x1 = 0 → post (p2 + p3)) ∧ (¬ x1 = 0 → (x1 = 1 → post (p2 + p3)) ∧ (¬ x1 = 1 → (x1 = 2 → ((lg_cmp p2 (-4000000000000)) = 0 → post (if p3 < p2 then p2 else p3)) ∧ (¬ (lg_cmp p2 (-4000000000000)) = 0 → (¬ (lg_cmp p3 (-4000000000000)) = 0 → post (if p3 < p2 then p3 else p2)) ∧ ((lg_cmp p3 (-4000000000000)) = 0 → post (if p3 < p2 then p2 else p3)))) ∧ (¬ x1 = 2 → (x1 = 3 → post (if p3 < p2 then p2 else p3)) ∧ (¬ x1 = 3 → (x1 = 4 → post (p2 ||| p3)) ∧ (¬ x1 = 4 → (x1 = 5 → (p4 = 0 → post p2) ∧ (¬ p4 = 0 → post p3)) ∧ (¬ x1 = 5 → post p2)))))))
theorem mm_fo_joined : hk_MV yX1_joined cX1_joined 7 (some .long) 4 := ⟨hw_488, hw_487, hw_34, hw_80, by decide +kernel⟩
set_option maxRecDepth 100000 in
set_option maxHeartbeats 4000000 in
theorem c_fo_joined (l : Launch) (D : va_G) (cI cJ cZ cM : ClassId) (h_fo : Nat) (a_fo : Nat → Nat)  (fo_kinds : Nat → Int32) (fo_declared : Nat → Int32) (fo_count : Int32) (p1 : Int32) (p2 : Int64) (p3 : Int64) (p4 : Int32) (post : Int64 → Prop) (h : wp_fo_joined p1 p2 p3 p4 fo_kinds post) : Met l yX1_joined (hk_ws yX1_joined cX1_joined 7 (some .long)) (hk_rm 1 23) (va_Pc [.ref h_fo, .int p1, .long p2, .long p3, .int p4] (hk_PR D (hk_ty cI cJ cZ cM) (wv_fo cI cJ cZ cM h_fo a_fo fo_kinds fo_declared fo_count))) (vp_Sl post) 0 0 (fun _ => False) := by
  refine Met.ofW (cc := cX1_joined) (maxL := 7) (ret := (some .long)) (by decide) rfl ?_
  intro p e s m args below meth c s₁ B hml hv
  obtain ⟨rfl, hP, hK, hN⟩ := hv
  have hx := B.exec
  have hb := B.bytes
  have hr := B.returns
  have hts := atoms_spec (ws := hk_ws yX1_joined cX1_joined 7 (some .long)) B.pre
  have hta : ∀ w ∈ hk_all, w.before ([.ref h_fo, .int p1, .long p2, .long p3, .int p4] : List Value).toArray s = true := fun w hw => hts w (List.mem_cons_of_mem _ hw)
  have hown : s.vm.findClass RX1 = some m.cls := findClass_of_methodNamed B.named
  have hlocks := B.notSynchronized
  have S0 : CallFix p m c cX1_joined 7 s ([.ref h_fo, .int p1, .long p2, .long p3, .int p4] : List Value).toArray hk_all RX1 := ⟨hx, hb, hml, hown, hta⟩
  have hl := lv_entry ([.ref h_fo, .int p1, .long p2, .long p3, .int p4]) (n := 7) (Nat.le_of_ble_eq_true rfl)
  rw [lg_entry_eq]
  generalize (lg_sl ([.ref h_fo, .int p1, .long p2, .long p3, .int p4]) ++ List.replicate (7 - (lg_sl ([.ref h_fo, .int p1, .long p2, .long p3, .int p4])).length) Slot.unset).toArray = ls at hl ⊢
  have hl : lv_has ls 7 [(0, .ref h_fo), (1, .int p1), (2, .long p2), (4, .long p3), (6, .int p4)] := hl
  unfold wp_fo_joined at h
  refine lv_aload_n hx hb dX1_joined_0 rfl (lv_at hl 0 rfl) ?_
  refine va_get (D := D) (ci := 1) (v := .ref (a_fo 0)) (C := RX1) (T := TX1) (N := 3) hx hb hta ih_X1 hown hK hP 0 rfl rfl 0 (by decide) (hta _ hw_105) (fun _ h9 => h9) rfl dX1_joined_1 ?_
  refine lv_iload_n hx hb dX1_joined_4 rfl (lv_at hl 1 rfl) ?_
  refine va_iald hx hb hK hP 1 0 rfl rfl h.1 dX1_joined_5 ?_
  have h := h.2
  refine lv_topi (fun x1 ex1 => ?_)
  have h := h x1 ex1
  by_cases c5 : x1 = 0
  · have h := h.1 c5
    refine lv_tableIn (tgt := 44) hx hb dX1_joined_6 (by rw [c5]; decide) (by rw [c5]; decide) (by rw [c5]; rfl) (by decide) ?_
    refine lv_lload_n hx hb dX1_joined_44 rfl (lv_at hl 2 rfl) ?_
    refine lv_lload hx hb dX1_joined_45 (lv_at hl 3 rfl) ?_
    refine lv_ladd hx hb dX1_joined_47 ?_
    exact W.lret (v := p2 + p3) hx hb hr (fun t ht hW => ⟨_, rfl, h, ht⟩) (fun _ hq => by cases hq) dX1_joined_48
  · have h := h.2 c5
    by_cases c6 : x1 = 1
    · have h := h.1 c6
      refine lv_tableIn (tgt := 44) hx hb dX1_joined_6 (by rw [c6]; decide) (by rw [c6]; decide) (by rw [c6]; rfl) (by decide) ?_
      refine lv_lload_n hx hb dX1_joined_44 rfl (lv_at hl 2 rfl) ?_
      refine lv_lload hx hb dX1_joined_45 (lv_at hl 3 rfl) ?_
      refine lv_ladd hx hb dX1_joined_47 ?_
      exact W.lret (v := p2 + p3) hx hb hr (fun t ht hW => ⟨_, rfl, h, ht⟩) (fun _ hq => by cases hq) dX1_joined_48
    · have h := h.2 c6
      by_cases c7 : x1 = 2
      · have h := h.1 c7
        refine lv_tableIn (tgt := 49) hx hb dX1_joined_6 (by rw [c7]; decide) (by rw [c7]; decide) (by rw [c7]; rfl) (by decide) ?_
        refine lv_lload_n hx hb dX1_joined_49 rfl (lv_at hl 2 rfl) ?_
        refine lv_ldc2 (v := (-4000000000000)) hx hb hown (hta _ hw_364) dX1_joined_50 ?_
        refine W.lcmp hx hb dX1_joined_53 ?_
        refine lv_if_eq (tgt := 66) hx hb dX1_joined_54 (by decide) (fun c2 => ?_) (fun c2 => ?_)
        · have h := h.1 c2
          refine lv_lload_n hx hb dX1_joined_66 rfl (lv_at hl 2 rfl) ?_
          refine lv_lload hx hb dX1_joined_67 (lv_at hl 3 rfl) ?_
          refine va_mmax_long hx hb (hml.trans hl.1.symm) hown (hta _ hw_399) (hta _ hw_400) (hta _ hw_88) (hta _ hw_401) (Nat.le_of_ble_eq_true rfl) (Nat.le_of_ble_eq_true rfl) (Nat.le_of_ble_eq_true rfl) (Nat.le_of_ble_eq_true rfl) dX1_joined_69 ?_
          refine lv_goto (tgt := 81) hx hb dX1_joined_72 (by decide) ?_
          exact W.lret (v := (if p3 < p2 then p2 else p3)) hx hb hr (fun t ht hW => ⟨_, rfl, h, ht⟩) (fun _ hq => by cases hq) dX1_joined_81
        · have h := h.2 c2
          refine lv_lload hx hb dX1_joined_57 (lv_at hl 3 rfl) ?_
          refine lv_ldc2 (v := (-4000000000000)) hx hb hown (hta _ hw_364) dX1_joined_59 ?_
          refine W.lcmp hx hb dX1_joined_62 ?_
          refine lv_if_ne (tgt := 75) hx hb dX1_joined_63 (by decide) (fun c3 => ?_) (fun c3 => ?_)
          · have h := h.1 c3
            refine lv_lload_n hx hb dX1_joined_75 rfl (lv_at hl 2 rfl) ?_
            refine lv_lload hx hb dX1_joined_76 (lv_at hl 3 rfl) ?_
            refine va_mmin_long hx hb (hml.trans hl.1.symm) hown (hta _ hw_396) (hta _ hw_397) (hta _ hw_88) (hta _ hw_398) (Nat.le_of_ble_eq_true rfl) (Nat.le_of_ble_eq_true rfl) (Nat.le_of_ble_eq_true rfl) (Nat.le_of_ble_eq_true rfl) dX1_joined_78 ?_
            exact W.lret (v := (if p3 < p2 then p3 else p2)) hx hb hr (fun t ht hW => ⟨_, rfl, h, ht⟩) (fun _ hq => by cases hq) dX1_joined_81
          · have h := h.2 c3
            refine lv_lload_n hx hb dX1_joined_66 rfl (lv_at hl 2 rfl) ?_
            refine lv_lload hx hb dX1_joined_67 (lv_at hl 3 rfl) ?_
            refine va_mmax_long hx hb (hml.trans hl.1.symm) hown (hta _ hw_399) (hta _ hw_400) (hta _ hw_88) (hta _ hw_401) (Nat.le_of_ble_eq_true rfl) (Nat.le_of_ble_eq_true rfl) (Nat.le_of_ble_eq_true rfl) (Nat.le_of_ble_eq_true rfl) dX1_joined_69 ?_
            refine lv_goto (tgt := 81) hx hb dX1_joined_72 (by decide) ?_
            exact W.lret (v := (if p3 < p2 then p2 else p3)) hx hb hr (fun t ht hW => ⟨_, rfl, h, ht⟩) (fun _ hq => by cases hq) dX1_joined_81
      · have h := h.2 c7
        by_cases c8 : x1 = 3
        · have h := h.1 c8
          refine lv_tableIn (tgt := 82) hx hb dX1_joined_6 (by rw [c8]; decide) (by rw [c8]; decide) (by rw [c8]; rfl) (by decide) ?_
          refine lv_lload_n hx hb dX1_joined_82 rfl (lv_at hl 2 rfl) ?_
          refine lv_lload hx hb dX1_joined_83 (lv_at hl 3 rfl) ?_
          refine va_mmax_long hx hb (hml.trans hl.1.symm) hown (hta _ hw_399) (hta _ hw_400) (hta _ hw_88) (hta _ hw_401) (Nat.le_of_ble_eq_true rfl) (Nat.le_of_ble_eq_true rfl) (Nat.le_of_ble_eq_true rfl) (Nat.le_of_ble_eq_true rfl) dX1_joined_85 ?_
          exact W.lret (v := (if p3 < p2 then p2 else p3)) hx hb hr (fun t ht hW => ⟨_, rfl, h, ht⟩) (fun _ hq => by cases hq) dX1_joined_88
        · have h := h.2 c8
          by_cases c9 : x1 = 4
          · have h := h.1 c9
            refine lv_tableIn (tgt := 89) hx hb dX1_joined_6 (by rw [c9]; decide) (by rw [c9]; decide) (by rw [c9]; rfl) (by decide) ?_
            refine lv_lload_n hx hb dX1_joined_89 rfl (lv_at hl 2 rfl) ?_
            refine lv_lload hx hb dX1_joined_90 (lv_at hl 3 rfl) ?_
            refine lv_lor hx hb dX1_joined_92 ?_
            exact W.lret (v := p2 ||| p3) hx hb hr (fun t ht hW => ⟨_, rfl, h, ht⟩) (fun _ hq => by cases hq) dX1_joined_93
          · have h := h.2 c9
            by_cases c10 : x1 = 5
            · have h := h.1 c10
              refine lv_tableIn (tgt := 94) hx hb dX1_joined_6 (by rw [c10]; decide) (by rw [c10]; decide) (by rw [c10]; rfl) (by decide) ?_
              refine lv_iload hx hb dX1_joined_94 (lv_at hl 4 rfl) ?_
              refine lv_if_eq (tgt := 104) hx hb dX1_joined_96 (by decide) (fun c4 => ?_) (fun c4 => ?_)
              · have h := h.1 c4
                refine lv_lload_n hx hb dX1_joined_104 rfl (lv_at hl 2 rfl) ?_
                exact W.lret (v := p2) hx hb hr (fun t ht hW => ⟨_, rfl, h, ht⟩) (fun _ hq => by cases hq) dX1_joined_105
              · have h := h.2 c4
                refine lv_lload hx hb dX1_joined_99 (lv_at hl 3 rfl) ?_
                refine lv_goto (tgt := 105) hx hb dX1_joined_101 (by decide) ?_
                exact W.lret (v := p3) hx hb hr (fun t ht hW => ⟨_, rfl, h, ht⟩) (fun _ hq => by cases hq) dX1_joined_105
            · have h := h.2 c10
              refine lv_tableOut (tgt := 106) hx hb dX1_joined_6 (by have qc5 := lv_neT c5 (a := 0) rfl; have qc6 := lv_neT c6 (a := 1) rfl; have qc7 := lv_neT c7 (a := 2) rfl; have qc8 := lv_neT c8 (a := 3) rfl; have qc9 := lv_neT c9 (a := 4) rfl; have qc10 := lv_neT c10 (a := 5) rfl; omega) (by decide) ?_
              refine lv_lload_n hx hb dX1_joined_106 rfl (lv_at hl 2 rfl) ?_
              exact W.lret (v := p2) hx hb hr (fun t ht hW => ⟨_, rfl, h, ht⟩) (fun _ hq => by cases hq) dX1_joined_107
end
section
def wp_lg_open (p1 : Int32) (p2 : Int32) (lg_cells : Nat → Int64) (lg_newest : Int32) (lg_kept : Int32) (post : Int32 → ((Nat → Int64) × Int32 × Int32) → Prop) : Prop := ∀ x1 : Int32, x1 = (lg_newest + 1) - (lg_newest + 1) / 64 * 64 → ∀ x2 : Int32, x2 = (if 64 < (lg_kept + 1) then 64 else (lg_kept + 1)) → ∀ x3 : Int32, x3 = x1 * 8 → vp_in x3 512 ∧ (vp_in (x3 + 1) 512 ∧ ((¬ (x3 + 8) < (x3 + 2)) ∧ (¬ (x3 + 2) < 0) ∧ ((x3 + 8).toNatClampNeg ≤ 512) ∧ (post x3 (hk_fillr (vp_updL (vp_updL lg_cells x3.toNatClampNeg p1.toInt64) (x3 + 1).toNatClampNeg p2.toInt64) (x3 + 2).toNatClampNeg (x3 + 8).toNatClampNeg (-4000000000000), x1, x2))))
theorem mm_lg_open : hk_MV yX3_open cX3_open 4 (some .int) 2 := ⟨hw_616, hw_615, hw_46, hw_85, by decide +kernel⟩
set_option maxRecDepth 100000 in
set_option maxHeartbeats 4000000 in
theorem c_lg_open (l : Launch) (D : va_G) (cI cJ cZ cM : ClassId) (h_lg : Nat) (a_lg : Nat → Nat) (sz : Nat) (lg_cells : Nat → Int64) (lg_newest : Int32) (lg_kept : Int32) (p1 : Int32) (p2 : Int32) (post : Int32 → ((Nat → Int64) × Int32 × Int32) → Prop) (h : wp_lg_open p1 p2 lg_cells lg_newest lg_kept post) : Met l yX3_open (hk_ws yX3_open cX3_open 4 (some .int)) (hk_rm 2 47) (va_Pc [.ref h_lg, .int p1, .int p2] (hk_PM D (hk_ty cI cJ cZ cM) sz (wv_lg cI cJ cZ cM h_lg a_lg lg_cells lg_newest lg_kept))) (va_Qi post (hk_B D (va_A (wv_lg cI cJ cZ cM h_lg a_lg lg_cells lg_newest lg_kept) sz) (fun (u : (Nat → Int64) × Int32 × Int32) => wv_lg cI cJ cZ cM h_lg a_lg u.1 u.2.1 u.2.2)) (va_A (wv_lg cI cJ cZ cM h_lg a_lg lg_cells lg_newest lg_kept) sz)) 0 0 (va_A (wv_lg cI cJ cZ cM h_lg a_lg lg_cells lg_newest lg_kept) sz) := by
  refine Met.ofW (cc := cX3_open) (maxL := 4) (ret := (some .int)) (by decide) rfl ?_
  intro p e s m args below meth c s₁ B hml hv
  obtain ⟨rfl, hsz, hP, hK, hD0, hN⟩ := hv
  have hx := B.exec
  have hb := B.bytes
  have hr := B.returns
  have hts := atoms_spec (ws := hk_ws yX3_open cX3_open 4 (some .int)) B.pre
  have hta : ∀ w ∈ hk_all, w.before ([.ref h_lg, .int p1, .int p2] : List Value).toArray s = true := fun w hw => hts w (List.mem_cons_of_mem _ hw)
  have hown : s.vm.findClass RX3 = some m.cls := findClass_of_methodNamed B.named
  have hlocks := B.notSynchronized
  have S0 : CallFix p m c cX3_open 4 s ([.ref h_lg, .int p1, .int p2] : List Value).toArray hk_all RX3 := ⟨hx, hb, hml, hown, hta⟩
  subst hsz
  have hD := hD0.self (sz := s.heap.size)
  generalize hAe : va_A (wv_lg cI cJ cZ cM h_lg a_lg lg_cells lg_newest lg_kept) s.heap.size = A at hD ⊢
  have hA : ∀ q : Nat, s.heap.size ≤ q → A q := fun q h => by rw [← hAe]; exact Or.inr h
  have hS : va_S A s.heap s.heap [] := va_S.rf
  have hl := lv_entry ([.ref h_lg, .int p1, .int p2]) (n := 4) (Nat.le_of_ble_eq_true rfl)
  rw [lg_entry_eq]
  generalize (lg_sl ([.ref h_lg, .int p1, .int p2]) ++ List.replicate (4 - (lg_sl ([.ref h_lg, .int p1, .int p2])).length) Slot.unset).toArray = ls at hl ⊢
  have hl : lv_has ls 4 [(0, .ref h_lg), (1, .int p1), (2, .int p2)] := hl
  unfold wp_lg_open at h
  refine lv_aload_n hx hb dX3_open_0 rfl (lv_at hl 0 rfl) ?_
  refine lv_aload_n hx hb dX3_open_1 rfl (lv_at hl 0 rfl) ?_
  refine va_get (D := D) (ci := 3) (v := .int lg_newest) (C := RX3) (T := TX3) (N := 3) hx hb hta ih_X3 hown hK hP 0 rfl rfl 1 (by decide) (hta _ hw_226) (fun _ h9 => h9) rfl dX3_open_2 ?_
  refine lv_iconst (v := 1) hx hb dX3_open_5 (by decide) ?_
  refine lv_iadd hx hb dX3_open_6 ?_
  refine lv_bipush (v := 64) hx hb dX3_open_7 (by decide) ?_
  refine lv_irem hx hb dX3_open_9 (by decide) ?_
  refine lv_topi (fun x1 ex1 => ?_)
  have h := h x1 ex1
  refine va_put (D := D) (ci := 3) (v := .int x1) (ty := .int) (C := RX3) (T := TX3) (N := 3) hx hb hta ih_X3 tyX3 tyX3_ok nmX3 hown hK hP hD hS 0 rfl rfl 1 (by decide) (hta _ hw_226) (fun _ h9 => h9) rfl (by decide +kernel) rfl rfl (Nat.le_of_ble_eq_true rfl) dX3_open_10 (fun H locs hP hD hS => ?_)
  have hP : va_P D vwCl (wv_lg cI cJ cZ cM h_lg a_lg lg_cells x1 lg_kept) H := hP
  have hD : va_D A (wv_lg cI cJ cZ cM h_lg a_lg lg_cells x1 lg_kept) := hD
  refine lv_aload_n hx hb dX3_open_13 rfl (lv_at hl 0 rfl) ?_
  refine lv_aload_n hx hb dX3_open_14 rfl (lv_at hl 0 rfl) ?_
  refine va_get (D := D) (ci := 3) (v := .int lg_kept) (C := RX3) (T := TX3) (N := 3) hx hb hta ih_X3 hown hK hP 0 rfl rfl 2 (by decide) (hta _ hw_227) (fun _ h9 => h9) rfl dX3_open_15 ?_
  refine lv_iconst (v := 1) hx hb dX3_open_18 (by decide) ?_
  refine lv_iadd hx hb dX3_open_19 ?_
  refine lv_bipush (v := 64) hx hb dX3_open_20 (by decide) ?_
  refine va_mmin hx hb (hml.trans hl.1.symm) hown (hta _ hw_617) (hta _ hw_459) (hta _ hw_88) (hta _ hw_460) (Nat.le_of_ble_eq_true rfl) (Nat.le_of_ble_eq_true rfl) (Nat.le_of_ble_eq_true rfl) (Nat.le_of_ble_eq_true rfl) dX3_open_22 ?_
  refine lv_topi (fun x2 ex2 => ?_)
  have h := h x2 ex2
  refine va_put (D := D) (ci := 3) (v := .int x2) (ty := .int) (C := RX3) (T := TX3) (N := 3) hx hb hta ih_X3 tyX3 tyX3_ok nmX3 hown hK hP hD hS 0 rfl rfl 2 (by decide) (hta _ hw_227) (fun _ h9 => h9) rfl (by decide +kernel) rfl rfl (Nat.le_of_ble_eq_true rfl) dX3_open_25 (fun H locs hP hD hS => ?_)
  have hP : va_P D vwCl (wv_lg cI cJ cZ cM h_lg a_lg lg_cells x1 x2) H := hP
  have hD : va_D A (wv_lg cI cJ cZ cM h_lg a_lg lg_cells x1 x2) := hD
  refine lv_aload_n hx hb dX3_open_28 rfl (lv_at hl 0 rfl) ?_
  refine va_get (D := D) (ci := 3) (v := .int x1) (C := RX3) (T := TX3) (N := 3) hx hb hta ih_X3 hown hK hP 0 rfl rfl 1 (by decide) (hta _ hw_226) (fun _ h9 => h9) rfl dX3_open_29 ?_
  refine lv_bipush (v := 8) hx hb dX3_open_32 (by decide) ?_
  refine lv_imul hx hb dX3_open_34 ?_
  refine lv_topi (fun x3 ex3 => ?_)
  have h := h x3 ex3
  refine lv_istore_n (lv' := [(3, .int x3), (0, .ref h_lg), (1, .int p1), (2, .int p2)]) hx hb dX3_open_35 rfl hl (by decide) rfl (fun ls hl => ?_)
  refine lv_aload_n hx hb dX3_open_36 rfl (lv_at hl 1 rfl) ?_
  refine va_get (D := D) (ci := 3) (v := .ref (a_lg 0)) (C := RX3) (T := TX3) (N := 3) hx hb hta ih_X3 hown hK hP 0 rfl rfl 0 (by decide) (hta _ hw_225) (fun _ h9 => h9) rfl dX3_open_37 ?_
  refine lv_iload_n hx hb dX3_open_40 rfl (lv_at hl 0 rfl) ?_
  refine lv_iload_n hx hb dX3_open_41 rfl (lv_at hl 2 rfl) ?_
  refine lv_i2l (v := p1.toInt64) hx hb dX3_open_42 rfl ?_
  refine va_last hx hb hK hP hD hS 1 1 rfl rfl h.1 dX3_open_43 (fun H locs hP hD hS => ?_)
  have h := h.2
  have hP : va_P D vwCl (wv_lg cI cJ cZ cM h_lg a_lg (vp_updL lg_cells x3.toNatClampNeg p1.toInt64) x1 x2) H := hP
  have hD : va_D A (wv_lg cI cJ cZ cM h_lg a_lg (vp_updL lg_cells x3.toNatClampNeg p1.toInt64) x1 x2) := hD
  refine lv_aload_n hx hb dX3_open_44 rfl (lv_at hl 1 rfl) ?_
  refine va_get (D := D) (ci := 3) (v := .ref (a_lg 0)) (C := RX3) (T := TX3) (N := 3) hx hb hta ih_X3 hown hK hP 0 rfl rfl 0 (by decide) (hta _ hw_225) (fun _ h9 => h9) rfl dX3_open_45 ?_
  refine lv_iload_n hx hb dX3_open_48 rfl (lv_at hl 0 rfl) ?_
  refine lv_iconst (v := 1) hx hb dX3_open_49 (by decide) ?_
  refine lv_iadd hx hb dX3_open_50 ?_
  refine lv_iload_n hx hb dX3_open_51 rfl (lv_at hl 3 rfl) ?_
  refine lv_i2l (v := p2.toInt64) hx hb dX3_open_52 rfl ?_
  refine va_last hx hb hK hP hD hS 1 1 rfl rfl h.1 dX3_open_53 (fun H locs hP hD hS => ?_)
  have h := h.2
  have hP : va_P D vwCl (wv_lg cI cJ cZ cM h_lg a_lg (vp_updL (vp_updL lg_cells x3.toNatClampNeg p1.toInt64) (x3 + 1).toNatClampNeg p2.toInt64) x1 x2) H := hP
  have hD : va_D A (wv_lg cI cJ cZ cM h_lg a_lg (vp_updL (vp_updL lg_cells x3.toNatClampNeg p1.toInt64) (x3 + 1).toNatClampNeg p2.toInt64) x1 x2) := hD
  refine lv_aload_n hx hb dX3_open_54 rfl (lv_at hl 1 rfl) ?_
  refine va_get (D := D) (ci := 3) (v := .ref (a_lg 0)) (C := RX3) (T := TX3) (N := 3) hx hb hta ih_X3 hown hK hP 0 rfl rfl 0 (by decide) (hta _ hw_225) (fun _ h9 => h9) rfl dX3_open_55 ?_
  refine lv_iload_n hx hb dX3_open_58 rfl (lv_at hl 0 rfl) ?_
  refine lv_iconst (v := 2) hx hb dX3_open_59 (by decide) ?_
  refine lv_iadd hx hb dX3_open_60 ?_
  refine lv_iload_n hx hb dX3_open_61 rfl (lv_at hl 0 rfl) ?_
  refine lv_bipush (v := 8) hx hb dX3_open_62 (by decide) ?_
  refine lv_iadd hx hb dX3_open_64 ?_
  refine lv_ldc2 (v := (-4000000000000)) hx hb hown (hta _ hw_618) dX3_open_65 ?_
  refine hk_mv [1] (hk_runS (As := [.ref (a_lg 0), .int (x3 + 2), .int (x3 + 8), .long (-4000000000000)]) (rest := []) S0 mm_Arrays_fill_r (c_Arrays_fill_r l D cI cJ cZ cM (a_lg 0) 512 H.size (vp_updL (vp_updL lg_cells x3.toNatClampNeg p1.toInt64) (x3 + 1).toNatClampNeg p2.toInt64) (x3 + 2) (x3 + 8) (-4000000000000) (by decide) h.1 h.2.1 h.2.2.1) hw_619 hk_blM (hk_atM (hP.sub (ws' := [((a_lg 0), .inl (cJ, 512, .inr (.inl (vp_updL (vp_updL lg_cells x3.toNatClampNeg p1.toInt64) (x3 + 1).toNatClampNeg p2.toInt64))))]) [1] rfl) hK (hD.sub (ws' := [((a_lg 0), .inl (cJ, 512, .inr (.inl (vp_updL (vp_updL lg_cells x3.toNatClampNeg p1.toInt64) (x3 + 1).toNatClampNeg p2.toInt64))))]) [1] (by decide) rfl) hN) ⟨rfl, rfl, Nat.le_of_ble_eq_true rfl, Nat.le_of_ble_eq_true rfl⟩ rfl hl.1 rfl (Nat.le_of_ble_eq_true rfl) dX3_open_68 ⟨Nat.le_of_ble_eq_true rfl, Nat.le_of_ble_eq_true rfl⟩) hP hD hS hA rfl (by decide) (fun _ => rfl) (fun w4 H locs ew4 hP hD hS => ?_)
  subst ew4
  have h := h.2.2.2
  have hP : va_P D vwCl (wv_lg cI cJ cZ cM h_lg a_lg (hk_fillr (vp_updL (vp_updL lg_cells x3.toNatClampNeg p1.toInt64) (x3 + 1).toNatClampNeg p2.toInt64) (x3 + 2).toNatClampNeg (x3 + 8).toNatClampNeg (-4000000000000)) x1 x2) H := hP
  have hD : va_D A (wv_lg cI cJ cZ cM h_lg a_lg (hk_fillr (vp_updL (vp_updL lg_cells x3.toNatClampNeg p1.toInt64) (x3 + 1).toNatClampNeg p2.toInt64) (x3 + 2).toNatClampNeg (x3 + 8).toNatClampNeg (-4000000000000)) x1 x2) := hD
  refine lv_iload_n hx hb dX3_open_71 rfl (lv_at hl 0 rfl) ?_
  exact W.iret (v := x3) hx hb hr (fun t ht hW => ⟨⟨x3, (hk_fillr (vp_updL (vp_updL lg_cells x3.toNatClampNeg p1.toInt64) (x3 + 1).toNatClampNeg p2.toInt64) (x3 + 2).toNatClampNeg (x3 + 8).toNatClampNeg (-4000000000000), x1, x2), rfl, h, by rw [ht]; exact hP, hD⟩, hS.F ht⟩) hS.2.2 dX3_open_72
def wp_lg_write (p1 : Int32) (p2 : Int32) (p3 : Int64) (lg_cells : Nat → Int64) (post : ((Nat → Int64)) → Prop) : Prop := vp_in ((p1 + 2) + p2) 512 ∧ (post (vp_updL lg_cells ((p1 + 2) + p2).toNatClampNeg p3))
theorem mm_lg_write : hk_MV yX3_write cX3_write 5 none 3 := ⟨hw_628, hw_627, hw_47, hw_85, by decide +kernel⟩
set_option maxRecDepth 100000 in
set_option maxHeartbeats 4000000 in
theorem c_lg_write (l : Launch) (D : va_G) (cI cJ cZ cM : ClassId) (h_lg : Nat) (a_lg : Nat → Nat) (sz : Nat) (lg_cells : Nat → Int64) (lg_newest : Int32) (lg_kept : Int32) (p1 : Int32) (p2 : Int32) (p3 : Int64) (post : ((Nat → Int64)) → Prop) (h : wp_lg_write p1 p2 p3 lg_cells post) : Met l yX3_write (hk_ws yX3_write cX3_write 5 none) (hk_rm 0 0) (va_Pc [.ref h_lg, .int p1, .int p2, .long p3] (hk_PM D (hk_ty cI cJ cZ cM) sz (wv_lg cI cJ cZ cM h_lg a_lg lg_cells lg_newest lg_kept))) (va_Qv post (hk_B D (va_A (wv_lg cI cJ cZ cM h_lg a_lg lg_cells lg_newest lg_kept) sz) (fun (u : (Nat → Int64)) => wv_lg cI cJ cZ cM h_lg a_lg u lg_newest lg_kept)) (va_A (wv_lg cI cJ cZ cM h_lg a_lg lg_cells lg_newest lg_kept) sz)) 0 0 (va_A (wv_lg cI cJ cZ cM h_lg a_lg lg_cells lg_newest lg_kept) sz) := by
  refine Met.ofW (cc := cX3_write) (maxL := 5) (ret := none) (by decide) rfl ?_
  intro p e s m args below meth c s₁ B hml hv
  obtain ⟨rfl, hsz, hP, hK, hD0, hN⟩ := hv
  have hx := B.exec
  have hb := B.bytes
  have hr := B.returns
  have hts := atoms_spec (ws := hk_ws yX3_write cX3_write 5 none) B.pre
  have hta : ∀ w ∈ hk_all, w.before ([.ref h_lg, .int p1, .int p2, .long p3] : List Value).toArray s = true := fun w hw => hts w (List.mem_cons_of_mem _ hw)
  have hown : s.vm.findClass RX3 = some m.cls := findClass_of_methodNamed B.named
  have hlocks := B.notSynchronized
  have S0 : CallFix p m c cX3_write 5 s ([.ref h_lg, .int p1, .int p2, .long p3] : List Value).toArray hk_all RX3 := ⟨hx, hb, hml, hown, hta⟩
  subst hsz
  have hD := hD0.self (sz := s.heap.size)
  generalize hAe : va_A (wv_lg cI cJ cZ cM h_lg a_lg lg_cells lg_newest lg_kept) s.heap.size = A at hD ⊢
  have hA : ∀ q : Nat, s.heap.size ≤ q → A q := fun q h => by rw [← hAe]; exact Or.inr h
  have hS : va_S A s.heap s.heap [] := va_S.rf
  have hl := lv_entry ([.ref h_lg, .int p1, .int p2, .long p3]) (n := 5) (Nat.le_of_ble_eq_true rfl)
  rw [lg_entry_eq]
  generalize (lg_sl ([.ref h_lg, .int p1, .int p2, .long p3]) ++ List.replicate (5 - (lg_sl ([.ref h_lg, .int p1, .int p2, .long p3])).length) Slot.unset).toArray = ls at hl ⊢
  have hl : lv_has ls 5 [(0, .ref h_lg), (1, .int p1), (2, .int p2), (3, .long p3)] := hl
  unfold wp_lg_write at h
  refine lv_aload_n hx hb dX3_write_0 rfl (lv_at hl 0 rfl) ?_
  refine va_get (D := D) (ci := 3) (v := .ref (a_lg 0)) (C := RX3) (T := TX3) (N := 3) hx hb hta ih_X3 hown hK hP 0 rfl rfl 0 (by decide) (hta _ hw_225) (fun _ h9 => h9) rfl dX3_write_1 ?_
  refine lv_iload_n hx hb dX3_write_4 rfl (lv_at hl 1 rfl) ?_
  refine lv_iconst (v := 2) hx hb dX3_write_5 (by decide) ?_
  refine lv_iadd hx hb dX3_write_6 ?_
  refine lv_iload_n hx hb dX3_write_7 rfl (lv_at hl 2 rfl) ?_
  refine lv_iadd hx hb dX3_write_8 ?_
  refine lv_lload_n hx hb dX3_write_9 rfl (lv_at hl 3 rfl) ?_
  refine va_last hx hb hK hP hD hS 1 1 rfl rfl h.1 dX3_write_10 (fun H locs hP hD hS => ?_)
  have h := h.2
  have hP : va_P D vwCl (wv_lg cI cJ cZ cM h_lg a_lg (vp_updL lg_cells ((p1 + 2) + p2).toNatClampNeg p3) lg_newest lg_kept) H := hP
  have hD : va_D A (wv_lg cI cJ cZ cM h_lg a_lg (vp_updL lg_cells ((p1 + 2) + p2).toNatClampNeg p3) lg_newest lg_kept) := hD
  exact W.vret hx hb hr (fun t ht hW => ⟨⟨vp_updL lg_cells ((p1 + 2) + p2).toNatClampNeg p3, rfl, h, by rw [ht]; exact hP, hD⟩, hS.F ht⟩) hS.2.2 dX3_write_11
def wp_lg_read (p1 : Int32) (p2 : Int32) (lg_cells : Nat → Int64) (lg_newest : Int32) (post : Int64 → Prop) : Prop := wp_Math_floorMod_7cf53 (lg_newest - p1) 64 (fun (r1 : Int32) => vp_in ((r1 * 8) + p2) 512 ∧ (post (lg_cells ((r1 * 8) + p2).toNatClampNeg)))
theorem mm_lg_read : hk_MV yX3_read cX3_read 3 (some .long) 2 := ⟨hw_644, hw_643, hw_50, hw_85, by decide +kernel⟩
set_option maxRecDepth 100000 in
set_option maxHeartbeats 4000000 in
theorem c_lg_read (l : Launch) (D : va_G) (cI cJ cZ cM : ClassId) (h_lg : Nat) (a_lg : Nat → Nat)  (lg_cells : Nat → Int64) (lg_newest : Int32) (lg_kept : Int32) (p1 : Int32) (p2 : Int32) (post : Int64 → Prop) (h : wp_lg_read p1 p2 lg_cells lg_newest post) : Met l yX3_read (hk_ws yX3_read cX3_read 3 (some .long)) (hk_rm 1 22) (va_Pc [.ref h_lg, .int p1, .int p2] (hk_PR D (hk_ty cI cJ cZ cM) (wv_lg cI cJ cZ cM h_lg a_lg lg_cells lg_newest lg_kept))) (vp_Sl post) 0 0 (fun _ => False) := by
  refine Met.ofW (cc := cX3_read) (maxL := 3) (ret := (some .long)) (by decide) rfl ?_
  intro p e s m args below meth c s₁ B hml hv
  obtain ⟨rfl, hP, hK, hN⟩ := hv
  have hx := B.exec
  have hb := B.bytes
  have hr := B.returns
  have hts := atoms_spec (ws := hk_ws yX3_read cX3_read 3 (some .long)) B.pre
  have hta : ∀ w ∈ hk_all, w.before ([.ref h_lg, .int p1, .int p2] : List Value).toArray s = true := fun w hw => hts w (List.mem_cons_of_mem _ hw)
  have hown : s.vm.findClass RX3 = some m.cls := findClass_of_methodNamed B.named
  have hlocks := B.notSynchronized
  have S0 : CallFix p m c cX3_read 3 s ([.ref h_lg, .int p1, .int p2] : List Value).toArray hk_all RX3 := ⟨hx, hb, hml, hown, hta⟩
  have hl := lv_entry ([.ref h_lg, .int p1, .int p2]) (n := 3) (Nat.le_of_ble_eq_true rfl)
  rw [lg_entry_eq]
  generalize (lg_sl ([.ref h_lg, .int p1, .int p2]) ++ List.replicate (3 - (lg_sl ([.ref h_lg, .int p1, .int p2])).length) Slot.unset).toArray = ls at hl ⊢
  have hl : lv_has ls 3 [(0, .ref h_lg), (1, .int p1), (2, .int p2)] := hl
  unfold wp_lg_read at h
  refine lv_aload_n hx hb dX3_read_0 rfl (lv_at hl 0 rfl) ?_
  refine va_get (D := D) (ci := 3) (v := .ref (a_lg 0)) (C := RX3) (T := TX3) (N := 3) hx hb hta ih_X3 hown hK hP 0 rfl rfl 0 (by decide) (hta _ hw_225) (fun _ h9 => h9) rfl dX3_read_1 ?_
  refine lv_aload_n hx hb dX3_read_4 rfl (lv_at hl 0 rfl) ?_
  refine va_get (D := D) (ci := 3) (v := .int lg_newest) (C := RX3) (T := TX3) (N := 3) hx hb hta ih_X3 hown hK hP 0 rfl rfl 1 (by decide) (hta _ hw_226) (fun _ h9 => h9) rfl dX3_read_5 ?_
  refine lv_iload_n hx hb dX3_read_8 rfl (lv_at hl 1 rfl) ?_
  refine lv_isub hx hb dX3_read_9 ?_
  refine lv_bipush (v := 64) hx hb dX3_read_10 (by decide) ?_
  refine vp_callSi (hk_runS (As := [.int (lg_newest - p1), .int 64]) (rest := [.ref (a_lg 0)]) S0 mm_Math_floorMod_7cf53 (c_Math_floorMod_7cf53 l D cI cJ cZ cM (lg_newest - p1) 64 _ h) hw_645 hk_blR (hk_atR (hP.sub (ws' := ([] : va_W)) [] rfl) hK hN) ⟨rfl, rfl, Nat.le_of_ble_eq_true rfl, Nat.le_of_ble_eq_true rfl⟩ rfl hl.1 rfl (Nat.le_of_ble_eq_true rfl) dX3_read_12 ⟨Nat.le_of_ble_eq_true rfl, Nat.le_of_ble_eq_true rfl⟩).run (fun r1 h => ?_)
  refine lv_bipush (v := 8) hx hb dX3_read_15 (by decide) ?_
  refine lv_imul hx hb dX3_read_17 ?_
  refine lv_iload_n hx hb dX3_read_18 rfl (lv_at hl 2 rfl) ?_
  refine lv_iadd hx hb dX3_read_19 ?_
  refine va_lald hx hb hK hP 1 1 rfl rfl h.1 dX3_read_20 ?_
  have h := h.2
  exact W.lret (v := lg_cells ((r1 * 8) + p2).toNatClampNeg) hx hb hr (fun t ht hW => ⟨_, rfl, h, ht⟩) (fun _ hq => by cases hq) dX3_read_21
end
section
def wp_sm_forgetAll   (post : (Int32 × Int32 × Int64) → Prop) : Prop := post (0, 0, 0)
theorem mm_sm_forgetAll : hk_MV yX5_forgetAll cX5_forgetAll 1 none 0 := ⟨hw_264, hw_263, hw_4, hw_83, by decide +kernel⟩
set_option maxRecDepth 100000 in
set_option maxHeartbeats 4000000 in
theorem c_sm_forgetAll (l : Launch) (D : va_G) (cI cJ cZ cM : ClassId) (h_sm : Nat) (a_sm : Nat → Nat) (sz : Nat) (sm_keys : Nat → Int32) (sm_weights : Nat → Int32) (sm_count : Int32) (sm_matches : Int32) (sm_out : Int64)  (post : (Int32 × Int32 × Int64) → Prop) (h : wp_sm_forgetAll post) : Met l yX5_forgetAll (hk_ws yX5_forgetAll cX5_forgetAll 1 none) (hk_rm 0 0) (va_Pc [.ref h_sm] (hk_PM D (hk_ty cI cJ cZ cM) sz (wv_sm cI cJ cZ cM h_sm a_sm sm_keys sm_weights sm_count sm_matches sm_out))) (va_Qv post (hk_B D (va_A (wv_sm cI cJ cZ cM h_sm a_sm sm_keys sm_weights sm_count sm_matches sm_out) sz) (fun (u : Int32 × Int32 × Int64) => wv_sm cI cJ cZ cM h_sm a_sm sm_keys sm_weights u.1 u.2.1 u.2.2)) (va_A (wv_sm cI cJ cZ cM h_sm a_sm sm_keys sm_weights sm_count sm_matches sm_out) sz)) 0 0 (va_A (wv_sm cI cJ cZ cM h_sm a_sm sm_keys sm_weights sm_count sm_matches sm_out) sz) := by
  refine Met.ofW (cc := cX5_forgetAll) (maxL := 1) (ret := none) (by decide) rfl ?_
  intro p e s m args below meth c s₁ B hml hv
  obtain ⟨rfl, hsz, hP, hK, hD0, hN⟩ := hv
  have hx := B.exec
  have hb := B.bytes
  have hr := B.returns
  have hts := atoms_spec (ws := hk_ws yX5_forgetAll cX5_forgetAll 1 none) B.pre
  have hta : ∀ w ∈ hk_all, w.before ([.ref h_sm] : List Value).toArray s = true := fun w hw => hts w (List.mem_cons_of_mem _ hw)
  have hown : s.vm.findClass RX5 = some m.cls := findClass_of_methodNamed B.named
  have hlocks := B.notSynchronized
  have S0 : CallFix p m c cX5_forgetAll 1 s ([.ref h_sm] : List Value).toArray hk_all RX5 := ⟨hx, hb, hml, hown, hta⟩
  subst hsz
  have hD := hD0.self (sz := s.heap.size)
  generalize hAe : va_A (wv_sm cI cJ cZ cM h_sm a_sm sm_keys sm_weights sm_count sm_matches sm_out) s.heap.size = A at hD ⊢
  have hA : ∀ q : Nat, s.heap.size ≤ q → A q := fun q h => by rw [← hAe]; exact Or.inr h
  have hS : va_S A s.heap s.heap [] := va_S.rf
  have hl := lv_entry ([.ref h_sm]) (n := 1) (Nat.le_of_ble_eq_true rfl)
  rw [lg_entry_eq]
  generalize (lg_sl ([.ref h_sm]) ++ List.replicate (1 - (lg_sl ([.ref h_sm])).length) Slot.unset).toArray = ls at hl ⊢
  have hl : lv_has ls 1 [(0, .ref h_sm)] := hl
  unfold wp_sm_forgetAll at h
  refine lv_aload_n hx hb dX5_forgetAll_0 rfl (lv_at hl 0 rfl) ?_
  refine lv_iconst (v := 0) hx hb dX5_forgetAll_1 (by decide) ?_
  refine va_put (D := D) (ci := 5) (v := .int 0) (ty := .int) (C := RX5) (T := TX5) (N := 5) hx hb hta ih_X5 tyX5 tyX5_ok nmX5 hown hK hP hD hS 0 rfl rfl 2 (by decide) (hta _ hw_179) (fun _ h9 => h9) rfl (by decide +kernel) rfl rfl (Nat.le_of_ble_eq_true rfl) dX5_forgetAll_2 (fun H locs hP hD hS => ?_)
  have hP : va_P D vwCl (wv_sm cI cJ cZ cM h_sm a_sm sm_keys sm_weights 0 sm_matches sm_out) H := hP
  have hD : va_D A (wv_sm cI cJ cZ cM h_sm a_sm sm_keys sm_weights 0 sm_matches sm_out) := hD
  refine lv_aload_n hx hb dX5_forgetAll_5 rfl (lv_at hl 0 rfl) ?_
  refine lv_iconst (v := 0) hx hb dX5_forgetAll_6 (by decide) ?_
  refine va_put (D := D) (ci := 5) (v := .int 0) (ty := .int) (C := RX5) (T := TX5) (N := 5) hx hb hta ih_X5 tyX5 tyX5_ok nmX5 hown hK hP hD hS 0 rfl rfl 3 (by decide) (hta _ hw_181) (fun _ h9 => h9) rfl (by decide +kernel) rfl rfl (Nat.le_of_ble_eq_true rfl) dX5_forgetAll_7 (fun H locs hP hD hS => ?_)
  have hP : va_P D vwCl (wv_sm cI cJ cZ cM h_sm a_sm sm_keys sm_weights 0 0 sm_out) H := hP
  have hD : va_D A (wv_sm cI cJ cZ cM h_sm a_sm sm_keys sm_weights 0 0 sm_out) := hD
  refine lv_aload_n hx hb dX5_forgetAll_10 rfl (lv_at hl 0 rfl) ?_
  refine lv_lconst (v := 0) hx hb dX5_forgetAll_11 (by decide) ?_
  refine va_put (D := D) (ci := 5) (v := .long 0) (ty := .long) (C := RX5) (T := TX5) (N := 5) hx hb hta ih_X5 tyX5 tyX5_ok nmX5 hown hK hP hD hS 0 rfl rfl 4 (by decide) (hta _ hw_183) (fun _ h9 => h9) rfl (by decide +kernel) rfl rfl (Nat.le_of_ble_eq_true rfl) dX5_forgetAll_12 (fun H locs hP hD hS => ?_)
  have hP : va_P D vwCl (wv_sm cI cJ cZ cM h_sm a_sm sm_keys sm_weights 0 0 0) H := hP
  have hD : va_D A (wv_sm cI cJ cZ cM h_sm a_sm sm_keys sm_weights 0 0 0) := hD
  exact W.vret hx hb hr (fun t ht hW => ⟨⟨(0, 0, 0), rfl, h, by rw [ht]; exact hP, hD⟩, hS.F ht⟩) hS.2.2 dX5_forgetAll_15
def wp_sm_add (p1 : Int32) (p2 : Int32) (sm_keys : Nat → Int32) (sm_weights : Nat → Int32) (sm_count : Int32) (post : ((Nat → Int32) × (Nat → Int32) × Int32) → Prop) : Prop := vp_in sm_count 60 ∧ (vp_in sm_count 60 ∧ (∀ x1 : Int32, x1 = sm_count + 1 → post (upd sm_keys sm_count.toNatClampNeg p1, upd sm_weights sm_count.toNatClampNeg p2, x1)))
theorem mm_sm_add : hk_MV yX5_add cX5_add 3 none 2 := ⟨hw_575, hw_574, hw_41, hw_83, by decide +kernel⟩
set_option maxRecDepth 100000 in
set_option maxHeartbeats 4000000 in
theorem c_sm_add (l : Launch) (D : va_G) (cI cJ cZ cM : ClassId) (h_sm : Nat) (a_sm : Nat → Nat) (sz : Nat) (sm_keys : Nat → Int32) (sm_weights : Nat → Int32) (sm_count : Int32) (sm_matches : Int32) (sm_out : Int64) (p1 : Int32) (p2 : Int32) (post : ((Nat → Int32) × (Nat → Int32) × Int32) → Prop) (h : wp_sm_add p1 p2 sm_keys sm_weights sm_count post) : Met l yX5_add (hk_ws yX5_add cX5_add 3 none) (hk_rm 0 0) (va_Pc [.ref h_sm, .int p1, .int p2] (hk_PM D (hk_ty cI cJ cZ cM) sz (wv_sm cI cJ cZ cM h_sm a_sm sm_keys sm_weights sm_count sm_matches sm_out))) (va_Qv post (hk_B D (va_A (wv_sm cI cJ cZ cM h_sm a_sm sm_keys sm_weights sm_count sm_matches sm_out) sz) (fun (u : (Nat → Int32) × (Nat → Int32) × Int32) => wv_sm cI cJ cZ cM h_sm a_sm u.1 u.2.1 u.2.2 sm_matches sm_out)) (va_A (wv_sm cI cJ cZ cM h_sm a_sm sm_keys sm_weights sm_count sm_matches sm_out) sz)) 0 0 (va_A (wv_sm cI cJ cZ cM h_sm a_sm sm_keys sm_weights sm_count sm_matches sm_out) sz) := by
  refine Met.ofW (cc := cX5_add) (maxL := 3) (ret := none) (by decide) rfl ?_
  intro p e s m args below meth c s₁ B hml hv
  obtain ⟨rfl, hsz, hP, hK, hD0, hN⟩ := hv
  have hx := B.exec
  have hb := B.bytes
  have hr := B.returns
  have hts := atoms_spec (ws := hk_ws yX5_add cX5_add 3 none) B.pre
  have hta : ∀ w ∈ hk_all, w.before ([.ref h_sm, .int p1, .int p2] : List Value).toArray s = true := fun w hw => hts w (List.mem_cons_of_mem _ hw)
  have hown : s.vm.findClass RX5 = some m.cls := findClass_of_methodNamed B.named
  have hlocks := B.notSynchronized
  have S0 : CallFix p m c cX5_add 3 s ([.ref h_sm, .int p1, .int p2] : List Value).toArray hk_all RX5 := ⟨hx, hb, hml, hown, hta⟩
  subst hsz
  have hD := hD0.self (sz := s.heap.size)
  generalize hAe : va_A (wv_sm cI cJ cZ cM h_sm a_sm sm_keys sm_weights sm_count sm_matches sm_out) s.heap.size = A at hD ⊢
  have hA : ∀ q : Nat, s.heap.size ≤ q → A q := fun q h => by rw [← hAe]; exact Or.inr h
  have hS : va_S A s.heap s.heap [] := va_S.rf
  have hl := lv_entry ([.ref h_sm, .int p1, .int p2]) (n := 3) (Nat.le_of_ble_eq_true rfl)
  rw [lg_entry_eq]
  generalize (lg_sl ([.ref h_sm, .int p1, .int p2]) ++ List.replicate (3 - (lg_sl ([.ref h_sm, .int p1, .int p2])).length) Slot.unset).toArray = ls at hl ⊢
  have hl : lv_has ls 3 [(0, .ref h_sm), (1, .int p1), (2, .int p2)] := hl
  unfold wp_sm_add at h
  refine lv_aload_n hx hb dX5_add_0 rfl (lv_at hl 0 rfl) ?_
  refine va_get (D := D) (ci := 5) (v := .ref (a_sm 0)) (C := RX5) (T := TX5) (N := 5) hx hb hta ih_X5 hown hK hP 0 rfl rfl 0 (by decide) (hta _ hw_176) (fun _ h9 => h9) rfl dX5_add_1 ?_
  refine lv_aload_n hx hb dX5_add_4 rfl (lv_at hl 0 rfl) ?_
  refine va_get (D := D) (ci := 5) (v := .int sm_count) (C := RX5) (T := TX5) (N := 5) hx hb hta ih_X5 hown hK hP 0 rfl rfl 2 (by decide) (hta _ hw_179) (fun _ h9 => h9) rfl dX5_add_5 ?_
  refine lv_iload_n hx hb dX5_add_8 rfl (lv_at hl 1 rfl) ?_
  refine va_iast hx hb hK hP hD hS 1 0 rfl rfl h.1 dX5_add_9 (fun H locs hP hD hS => ?_)
  have h := h.2
  have hP : va_P D vwCl (wv_sm cI cJ cZ cM h_sm a_sm (upd sm_keys sm_count.toNatClampNeg p1) sm_weights sm_count sm_matches sm_out) H := hP
  have hD : va_D A (wv_sm cI cJ cZ cM h_sm a_sm (upd sm_keys sm_count.toNatClampNeg p1) sm_weights sm_count sm_matches sm_out) := hD
  refine lv_aload_n hx hb dX5_add_10 rfl (lv_at hl 0 rfl) ?_
  refine va_get (D := D) (ci := 5) (v := .ref (a_sm 1)) (C := RX5) (T := TX5) (N := 5) hx hb hta ih_X5 hown hK hP 0 rfl rfl 1 (by decide) (hta _ hw_178) (fun _ h9 => h9) rfl dX5_add_11 ?_
  refine lv_aload_n hx hb dX5_add_14 rfl (lv_at hl 0 rfl) ?_
  refine va_get (D := D) (ci := 5) (v := .int sm_count) (C := RX5) (T := TX5) (N := 5) hx hb hta ih_X5 hown hK hP 0 rfl rfl 2 (by decide) (hta _ hw_179) (fun _ h9 => h9) rfl dX5_add_15 ?_
  refine lv_iload_n hx hb dX5_add_18 rfl (lv_at hl 2 rfl) ?_
  refine va_iast hx hb hK hP hD hS 2 0 rfl rfl h.1 dX5_add_19 (fun H locs hP hD hS => ?_)
  have h := h.2
  have hP : va_P D vwCl (wv_sm cI cJ cZ cM h_sm a_sm (upd sm_keys sm_count.toNatClampNeg p1) (upd sm_weights sm_count.toNatClampNeg p2) sm_count sm_matches sm_out) H := hP
  have hD : va_D A (wv_sm cI cJ cZ cM h_sm a_sm (upd sm_keys sm_count.toNatClampNeg p1) (upd sm_weights sm_count.toNatClampNeg p2) sm_count sm_matches sm_out) := hD
  refine lv_aload_n hx hb dX5_add_20 rfl (lv_at hl 0 rfl) ?_
  refine lv_dup hx hb dX5_add_21 rfl ?_
  refine va_get (D := D) (ci := 5) (v := .int sm_count) (C := RX5) (T := TX5) (N := 5) hx hb hta ih_X5 hown hK hP 0 rfl rfl 2 (by decide) (hta _ hw_179) (fun _ h9 => h9) rfl dX5_add_22 ?_
  refine lv_iconst (v := 1) hx hb dX5_add_25 (by decide) ?_
  refine lv_iadd hx hb dX5_add_26 ?_
  refine lv_topi (fun x1 ex1 => ?_)
  have h := h x1 ex1
  refine va_put (D := D) (ci := 5) (v := .int x1) (ty := .int) (C := RX5) (T := TX5) (N := 5) hx hb hta ih_X5 tyX5 tyX5_ok nmX5 hown hK hP hD hS 0 rfl rfl 2 (by decide) (hta _ hw_179) (fun _ h9 => h9) rfl (by decide +kernel) rfl rfl (Nat.le_of_ble_eq_true rfl) dX5_add_27 (fun H locs hP hD hS => ?_)
  have hP : va_P D vwCl (wv_sm cI cJ cZ cM h_sm a_sm (upd sm_keys sm_count.toNatClampNeg p1) (upd sm_weights sm_count.toNatClampNeg p2) x1 sm_matches sm_out) H := hP
  have hD : va_D A (wv_sm cI cJ cZ cM h_sm a_sm (upd sm_keys sm_count.toNatClampNeg p1) (upd sm_weights sm_count.toNatClampNeg p2) x1 sm_matches sm_out) := hD
  exact W.vret hx hb hr (fun t ht hW => ⟨⟨(upd sm_keys sm_count.toNatClampNeg p1, upd sm_weights sm_count.toNatClampNeg p2, x1), rfl, h, by rw [ht]; exact hP, hD⟩, hS.F ht⟩) hS.2.2 dX5_add_30
def wb_sm_meet_2 (sm_keys : Nat → Int32) (sm_weights : Nat → Int32) (sm_count : Int32) (p1 : Int32) (p2 : Int32) (post : (Int32 × Int64) → Prop) (K2 : (Int32 × Int32 × Int64) → Prop) (v1 : Int32 × Int32 × Int64) : Prop := (sm_count ≤ v1.1 → post (v1.2.1, v1.2.2)) ∧ (¬ sm_count ≤ v1.1 → vp_in v1.1 60 ∧ ((¬ (sm_keys v1.1.toNatClampNeg) = p1 → ∀ x4 : Int32, x4 = v1.1 + 1 → K2 (x4, v1.2.1, v1.2.2)) ∧ ((sm_keys v1.1.toNatClampNeg) = p1 → ∀ x5 : Int32, x5 = v1.2.1 + 1 → vp_in v1.1 60 ∧ (∀ x6 : Int64, x6 = v1.2.2 + (p2.toInt64 * ((sm_weights v1.1.toNatClampNeg).toInt64)) → ∀ x7 : Int32, x7 = v1.1 + 1 → K2 (x7, x5, x6)))))
def wp_sm_meet (p1 : Int32) (p2 : Int32) (sm_keys : Nat → Int32) (sm_weights : Nat → Int32) (sm_count : Int32) (sm_matches : Int32) (sm_out : Int64) (post : (Int32 × Int64) → Prop) : Prop := ∃ n, hk_lp (wb_sm_meet_2 sm_keys sm_weights sm_count p1 p2 post) n (0, sm_matches, sm_out)
theorem mm_sm_meet : hk_MV yX5_meet cX5_meet 4 none 2 := ⟨hw_408, hw_407, hw_16, hw_83, by decide +kernel⟩
set_option maxRecDepth 100000 in
set_option maxHeartbeats 4000000 in
theorem c_sm_meet (l : Launch) (D : va_G) (cI cJ cZ cM : ClassId) (h_sm : Nat) (a_sm : Nat → Nat) (sz : Nat) (sm_keys : Nat → Int32) (sm_weights : Nat → Int32) (sm_count : Int32) (sm_matches : Int32) (sm_out : Int64) (p1 : Int32) (p2 : Int32) (post : (Int32 × Int64) → Prop) (h : wp_sm_meet p1 p2 sm_keys sm_weights sm_count sm_matches sm_out post) : Met l yX5_meet (hk_ws yX5_meet cX5_meet 4 none) (hk_rm 0 0) (va_Pc [.ref h_sm, .int p1, .int p2] (hk_PM D (hk_ty cI cJ cZ cM) sz (wv_sm cI cJ cZ cM h_sm a_sm sm_keys sm_weights sm_count sm_matches sm_out))) (va_Qv post (hk_B D (va_A (wv_sm cI cJ cZ cM h_sm a_sm sm_keys sm_weights sm_count sm_matches sm_out) sz) (fun (u : Int32 × Int64) => wv_sm cI cJ cZ cM h_sm a_sm sm_keys sm_weights sm_count u.1 u.2)) (va_A (wv_sm cI cJ cZ cM h_sm a_sm sm_keys sm_weights sm_count sm_matches sm_out) sz)) 0 0 (va_A (wv_sm cI cJ cZ cM h_sm a_sm sm_keys sm_weights sm_count sm_matches sm_out) sz) := by
  refine Met.ofW (cc := cX5_meet) (maxL := 4) (ret := none) (by decide) rfl ?_
  intro p e s m args below meth c s₁ B hml hv
  obtain ⟨rfl, hsz, hP, hK, hD0, hN⟩ := hv
  have hx := B.exec
  have hb := B.bytes
  have hr := B.returns
  have hts := atoms_spec (ws := hk_ws yX5_meet cX5_meet 4 none) B.pre
  have hta : ∀ w ∈ hk_all, w.before ([.ref h_sm, .int p1, .int p2] : List Value).toArray s = true := fun w hw => hts w (List.mem_cons_of_mem _ hw)
  have hown : s.vm.findClass RX5 = some m.cls := findClass_of_methodNamed B.named
  have hlocks := B.notSynchronized
  have S0 : CallFix p m c cX5_meet 4 s ([.ref h_sm, .int p1, .int p2] : List Value).toArray hk_all RX5 := ⟨hx, hb, hml, hown, hta⟩
  subst hsz
  have hD := hD0.self (sz := s.heap.size)
  generalize hAe : va_A (wv_sm cI cJ cZ cM h_sm a_sm sm_keys sm_weights sm_count sm_matches sm_out) s.heap.size = A at hD ⊢
  have hA : ∀ q : Nat, s.heap.size ≤ q → A q := fun q h => by rw [← hAe]; exact Or.inr h
  have hS : va_S A s.heap s.heap [] := va_S.rf
  have hl := lv_entry ([.ref h_sm, .int p1, .int p2]) (n := 4) (Nat.le_of_ble_eq_true rfl)
  rw [lg_entry_eq]
  generalize (lg_sl ([.ref h_sm, .int p1, .int p2]) ++ List.replicate (4 - (lg_sl ([.ref h_sm, .int p1, .int p2])).length) Slot.unset).toArray = ls at hl ⊢
  have hl : lv_has ls 4 [(0, .ref h_sm), (1, .int p1), (2, .int p2)] := hl
  unfold wp_sm_meet at h
  refine lv_iconst (v := 0) hx hb dX5_meet_0 (by decide) ?_
  refine lv_istore_n (lv' := [(3, .int 0), (0, .ref h_sm), (1, .int p1), (2, .int p2)]) hx hb dX5_meet_1 rfl hl (by decide) rfl (fun ls hl => ?_)
  have P2 : ∀ (n : Nat) (v1 : Int32 × Int32 × Int64) (H : Heap) (locs : List Loc) (ls : Array Slot), va_P D vwCl (wv_sm cI cJ cZ cM h_sm a_sm sm_keys sm_weights sm_count v1.2.1 v1.2.2) H → va_D A (wv_sm cI cJ cZ cM h_sm a_sm sm_keys sm_weights sm_count v1.2.1 v1.2.2) → va_S A s.heap H locs → lv_has ls 4 [(0, .ref h_sm), (1, .int p1), (2, .int p2), (3, .int v1.1)] → hk_lp (wb_sm_meet_2 sm_keys sm_weights sm_count p1 p2 post) n v1 → W p l e (headSpec (hk_ws yX5_meet cX5_meet 4 none) (hk_rm 0 0)).room s m ([.ref h_sm, .int p1, .int p2] : List Value).toArray below meth c H locs 0 0 (MQ below (va_Qv post (hk_B D (A) (fun (u : Int32 × Int64) => wv_sm cI cJ cZ cM h_sm a_sm sm_keys sm_weights sm_count u.1 u.2)) (A)) ([.ref h_sm, .int p1, .int p2] : List Value).toArray s 0 0 A) (F0 m 2 ls []) := by
    intro n
    induction n with
    | zero => intro v1 H locs ls hP hD hS hl h; exact False.elim h
    | succ n ih2 =>
      intro v1 H locs ls hP hD hS hl h
      have h : wb_sm_meet_2 sm_keys sm_weights sm_count p1 p2 post (hk_lp (wb_sm_meet_2 sm_keys sm_weights sm_count p1 p2 post) n) v1 := h
      unfold wb_sm_meet_2 at h
      refine lv_iload_n hx hb dX5_meet_2 rfl (lv_at hl 3 rfl) ?_
      refine lv_aload_n hx hb dX5_meet_3 rfl (lv_at hl 0 rfl) ?_
      refine va_get (D := D) (ci := 5) (v := .int sm_count) (C := RX5) (T := TX5) (N := 5) hx hb hta ih_X5 hown hK hP 0 rfl rfl 2 (by decide) (hta _ hw_179) (fun _ h9 => h9) rfl dX5_meet_4 ?_
      refine lv_icmp_ge (tgt := 55) hx hb dX5_meet_7 (by decide) (fun c2 => ?_) (fun c2 => ?_)
      · have h := h.1 c2
        exact W.vret hx hb hr (fun t ht hW => ⟨⟨(v1.2.1, v1.2.2), rfl, h, by rw [ht]; exact hP, hD⟩, hS.F ht⟩) hS.2.2 dX5_meet_55
      · have h := h.2 c2
        refine lv_aload_n hx hb dX5_meet_10 rfl (lv_at hl 0 rfl) ?_
        refine va_get (D := D) (ci := 5) (v := .ref (a_sm 0)) (C := RX5) (T := TX5) (N := 5) hx hb hta ih_X5 hown hK hP 0 rfl rfl 0 (by decide) (hta _ hw_176) (fun _ h9 => h9) rfl dX5_meet_11 ?_
        refine lv_iload_n hx hb dX5_meet_14 rfl (lv_at hl 3 rfl) ?_
        refine va_iald hx hb hK hP 1 0 rfl rfl h.1 dX5_meet_15 ?_
        have h := h.2
        refine lv_iload_n hx hb dX5_meet_16 rfl (lv_at hl 1 rfl) ?_
        refine lv_icmp_ne (tgt := 49) hx hb dX5_meet_17 (by decide) (fun c3 => ?_) (fun c3 => ?_)
        · have h := h.1 c3
          obtain ⟨x4, ex4⟩ : ∃ y : Int32, y = v1.1 + 1 := ⟨_, rfl⟩
          have h := h x4 ex4
          refine lv_iinc (v := x4) (lv' := [(3, .int x4), (0, .ref h_sm), (1, .int p1), (2, .int p2)]) hx hb dX5_meet_49 hl (k := 3) rfl (by rw [ex4]; rfl) (by decide) rfl (fun ls hl => ?_)
          refine lv_goto (tgt := 2) hx hb dX5_meet_52 (by decide) ?_
          exact ih2 (x4, v1.2.1, v1.2.2) H locs ls hP hD hS (lv_sub hl [1, 2, 3, 0] rfl) h
        · have h := h.2 c3
          refine lv_aload_n hx hb dX5_meet_20 rfl (lv_at hl 0 rfl) ?_
          refine lv_dup hx hb dX5_meet_21 rfl ?_
          refine va_get (D := D) (ci := 5) (v := .int v1.2.1) (C := RX5) (T := TX5) (N := 5) hx hb hta ih_X5 hown hK hP 0 rfl rfl 3 (by decide) (hta _ hw_181) (fun _ h9 => h9) rfl dX5_meet_22 ?_
          refine lv_iconst (v := 1) hx hb dX5_meet_25 (by decide) ?_
          refine lv_iadd hx hb dX5_meet_26 ?_
          refine lv_topi (fun x5 ex5 => ?_)
          have h := h x5 ex5
          refine va_put (D := D) (ci := 5) (v := .int x5) (ty := .int) (C := RX5) (T := TX5) (N := 5) hx hb hta ih_X5 tyX5 tyX5_ok nmX5 hown hK hP hD hS 0 rfl rfl 3 (by decide) (hta _ hw_181) (fun _ h9 => h9) rfl (by decide +kernel) rfl rfl (Nat.le_of_ble_eq_true rfl) dX5_meet_27 (fun H locs hP hD hS => ?_)
          have hP : va_P D vwCl (wv_sm cI cJ cZ cM h_sm a_sm sm_keys sm_weights sm_count x5 v1.2.2) H := hP
          have hD : va_D A (wv_sm cI cJ cZ cM h_sm a_sm sm_keys sm_weights sm_count x5 v1.2.2) := hD
          refine lv_aload_n hx hb dX5_meet_30 rfl (lv_at hl 0 rfl) ?_
          refine lv_dup hx hb dX5_meet_31 rfl ?_
          refine va_get (D := D) (ci := 5) (v := .long v1.2.2) (C := RX5) (T := TX5) (N := 5) hx hb hta ih_X5 hown hK hP 0 rfl rfl 4 (by decide) (hta _ hw_183) (fun _ h9 => h9) rfl dX5_meet_32 ?_
          refine lv_iload_n hx hb dX5_meet_35 rfl (lv_at hl 2 rfl) ?_
          refine lv_i2l (v := p2.toInt64) hx hb dX5_meet_36 rfl ?_
          refine lv_aload_n hx hb dX5_meet_37 rfl (lv_at hl 0 rfl) ?_
          refine va_get (D := D) (ci := 5) (v := .ref (a_sm 1)) (C := RX5) (T := TX5) (N := 5) hx hb hta ih_X5 hown hK hP 0 rfl rfl 1 (by decide) (hta _ hw_178) (fun _ h9 => h9) rfl dX5_meet_38 ?_
          refine lv_iload_n hx hb dX5_meet_41 rfl (lv_at hl 3 rfl) ?_
          refine va_iald hx hb hK hP 2 0 rfl rfl h.1 dX5_meet_42 ?_
          have h := h.2
          refine lv_i2l (v := (sm_weights v1.1.toNatClampNeg).toInt64) hx hb dX5_meet_43 rfl ?_
          refine lv_lmul hx hb dX5_meet_44 ?_
          refine lv_ladd hx hb dX5_meet_45 ?_
          refine lv_topl (fun x6 ex6 => ?_)
          have h := h x6 ex6
          refine va_put (D := D) (ci := 5) (v := .long x6) (ty := .long) (C := RX5) (T := TX5) (N := 5) hx hb hta ih_X5 tyX5 tyX5_ok nmX5 hown hK hP hD hS 0 rfl rfl 4 (by decide) (hta _ hw_183) (fun _ h9 => h9) rfl (by decide +kernel) rfl rfl (Nat.le_of_ble_eq_true rfl) dX5_meet_46 (fun H locs hP hD hS => ?_)
          have hP : va_P D vwCl (wv_sm cI cJ cZ cM h_sm a_sm sm_keys sm_weights sm_count x5 x6) H := hP
          have hD : va_D A (wv_sm cI cJ cZ cM h_sm a_sm sm_keys sm_weights sm_count x5 x6) := hD
          obtain ⟨x7, ex7⟩ : ∃ y : Int32, y = v1.1 + 1 := ⟨_, rfl⟩
          have h := h x7 ex7
          refine lv_iinc (v := x7) (lv' := [(3, .int x7), (0, .ref h_sm), (1, .int p1), (2, .int p2)]) hx hb dX5_meet_49 hl (k := 3) rfl (by rw [ex7]; rfl) (by decide) rfl (fun ls hl => ?_)
          refine lv_goto (tgt := 2) hx hb dX5_meet_52 (by decide) ?_
          exact ih2 (x7, x5, x6) H locs ls hP hD hS (lv_sub hl [1, 2, 3, 0] rfl) h
  obtain ⟨n, h⟩ := h
  exact P2 n (0, sm_matches, sm_out) s.heap [] ls hP hD hS (lv_sub hl [1, 2, 3, 0] rfl) h
def wp_sm_copyFrom  (sm_keys : Nat → Int32) (sm_weights : Nat → Int32) (sm2_keys : Nat → Int32) (sm2_weights : Nat → Int32) (sm2_count : Int32) (sm2_matches : Int32) (sm2_out : Int64) (post : ((Nat → Int32) × (Nat → Int32) × Int32 × Int32 × Int64) → Prop) : Prop := (¬ (0 : Int32) < 0) ∧ (¬ (0 : Int32) < 0) ∧ (¬ sm2_count < 0) ∧ ((0 : Int32).toNatClampNeg + sm2_count.toNatClampNeg ≤ 60) ∧ ((0 : Int32).toNatClampNeg + sm2_count.toNatClampNeg ≤ 60) ∧ ((¬ (0 : Int32) < 0) ∧ (¬ (0 : Int32) < 0) ∧ (¬ sm2_count < 0) ∧ ((0 : Int32).toNatClampNeg + sm2_count.toNatClampNeg ≤ 60) ∧ ((0 : Int32).toNatClampNeg + sm2_count.toNatClampNeg ≤ 60) ∧ (post (va_cpy sm2_keys sm_keys (0 : Int32).toNatClampNeg (0 : Int32).toNatClampNeg sm2_count.toNatClampNeg, va_cpy sm2_weights sm_weights (0 : Int32).toNatClampNeg (0 : Int32).toNatClampNeg sm2_count.toNatClampNeg, sm2_count, sm2_matches, sm2_out)))
theorem mm_sm_copyFrom : hk_MV yX5_copyFrom cX5_copyFrom 2 none 1 := ⟨hw_688, hw_687, hw_51, hw_83, by decide +kernel⟩
set_option maxRecDepth 100000 in
set_option maxHeartbeats 4000000 in
theorem c_sm_copyFrom (l : Launch) (D : va_G) (cI cJ cZ cM : ClassId) (h_sm : Nat) (a_sm : Nat → Nat) (h_sm2 : Nat) (a_sm2 : Nat → Nat) (sz : Nat) (sm_keys : Nat → Int32) (sm_weights : Nat → Int32) (sm_count : Int32) (sm_matches : Int32) (sm_out : Int64) (sm2_keys : Nat → Int32) (sm2_weights : Nat → Int32) (sm2_count : Int32) (sm2_matches : Int32) (sm2_out : Int64)  (post : ((Nat → Int32) × (Nat → Int32) × Int32 × Int32 × Int64) → Prop) (h : wp_sm_copyFrom sm_keys sm_weights sm2_keys sm2_weights sm2_count sm2_matches sm2_out post) : Met l yX5_copyFrom (hk_ws yX5_copyFrom cX5_copyFrom 2 none) (hk_rm 1 40) (va_Pc [.ref h_sm, .ref h_sm2] (hk_PM D (hk_ty cI cJ cZ cM) sz ((wv_sm cI cJ cZ cM h_sm a_sm sm_keys sm_weights sm_count sm_matches sm_out) ++ (wv_sm cI cJ cZ cM h_sm2 a_sm2 sm2_keys sm2_weights sm2_count sm2_matches sm2_out)))) (va_Qv post (hk_B D (va_A ((wv_sm cI cJ cZ cM h_sm a_sm sm_keys sm_weights sm_count sm_matches sm_out) ++ (wv_sm cI cJ cZ cM h_sm2 a_sm2 sm2_keys sm2_weights sm2_count sm2_matches sm2_out)) sz) (fun (u : (Nat → Int32) × (Nat → Int32) × Int32 × Int32 × Int64) => (wv_sm cI cJ cZ cM h_sm a_sm u.1 u.2.1 u.2.2.1 u.2.2.2.1 u.2.2.2.2) ++ (wv_sm cI cJ cZ cM h_sm2 a_sm2 sm2_keys sm2_weights sm2_count sm2_matches sm2_out))) (va_A ((wv_sm cI cJ cZ cM h_sm a_sm sm_keys sm_weights sm_count sm_matches sm_out) ++ (wv_sm cI cJ cZ cM h_sm2 a_sm2 sm2_keys sm2_weights sm2_count sm2_matches sm2_out)) sz)) 0 0 (va_A ((wv_sm cI cJ cZ cM h_sm a_sm sm_keys sm_weights sm_count sm_matches sm_out) ++ (wv_sm cI cJ cZ cM h_sm2 a_sm2 sm2_keys sm2_weights sm2_count sm2_matches sm2_out)) sz) := by
  refine Met.ofW (cc := cX5_copyFrom) (maxL := 2) (ret := none) (by decide) rfl ?_
  intro p e s m args below meth c s₁ B hml hv
  obtain ⟨rfl, hsz, hP, hK, hD0, hN⟩ := hv
  have hx := B.exec
  have hb := B.bytes
  have hr := B.returns
  have hts := atoms_spec (ws := hk_ws yX5_copyFrom cX5_copyFrom 2 none) B.pre
  have hta : ∀ w ∈ hk_all, w.before ([.ref h_sm, .ref h_sm2] : List Value).toArray s = true := fun w hw => hts w (List.mem_cons_of_mem _ hw)
  have hown : s.vm.findClass RX5 = some m.cls := findClass_of_methodNamed B.named
  have hlocks := B.notSynchronized
  have S0 : CallFix p m c cX5_copyFrom 2 s ([.ref h_sm, .ref h_sm2] : List Value).toArray hk_all RX5 := ⟨hx, hb, hml, hown, hta⟩
  subst hsz
  have hD := hD0.self (sz := s.heap.size)
  generalize hAe : va_A ((wv_sm cI cJ cZ cM h_sm a_sm sm_keys sm_weights sm_count sm_matches sm_out) ++ (wv_sm cI cJ cZ cM h_sm2 a_sm2 sm2_keys sm2_weights sm2_count sm2_matches sm2_out)) s.heap.size = A at hD ⊢
  have hA : ∀ q : Nat, s.heap.size ≤ q → A q := fun q h => by rw [← hAe]; exact Or.inr h
  have hS : va_S A s.heap s.heap [] := va_S.rf
  have hl := lv_entry ([.ref h_sm, .ref h_sm2]) (n := 2) (Nat.le_of_ble_eq_true rfl)
  rw [lg_entry_eq]
  generalize (lg_sl ([.ref h_sm, .ref h_sm2]) ++ List.replicate (2 - (lg_sl ([.ref h_sm, .ref h_sm2])).length) Slot.unset).toArray = ls at hl ⊢
  have hl : lv_has ls 2 [(0, .ref h_sm), (1, .ref h_sm2)] := hl
  unfold wp_sm_copyFrom at h
  refine lv_aload_n hx hb dX5_copyFrom_0 rfl (lv_at hl 1 rfl) ?_
  refine va_get (D := D) (ci := 5) (v := .ref (a_sm2 0)) (C := RX5) (T := TX5) (N := 5) hx hb hta ih_X5 hown hK hP 3 rfl rfl 0 (by decide) (hta _ hw_176) (fun _ h9 => h9) rfl dX5_copyFrom_1 ?_
  refine lv_iconst (v := 0) hx hb dX5_copyFrom_4 (by decide) ?_
  refine lv_aload_n hx hb dX5_copyFrom_5 rfl (lv_at hl 0 rfl) ?_
  refine va_get (D := D) (ci := 5) (v := .ref (a_sm 0)) (C := RX5) (T := TX5) (N := 5) hx hb hta ih_X5 hown hK hP 0 rfl rfl 0 (by decide) (hta _ hw_176) (fun _ h9 => h9) rfl dX5_copyFrom_6 ?_
  refine lv_iconst (v := 0) hx hb dX5_copyFrom_9 (by decide) ?_
  refine lv_aload_n hx hb dX5_copyFrom_10 rfl (lv_at hl 1 rfl) ?_
  refine va_get (D := D) (ci := 5) (v := .int sm2_count) (C := RX5) (T := TX5) (N := 5) hx hb hta ih_X5 hown hK hP 3 rfl rfl 2 (by decide) (hta _ hw_179) (fun _ h9 => h9) rfl dX5_copyFrom_11 ?_
  refine va_copyi hx hb (hml.trans hl.1.symm) hown (hta _ hw_689) (hta _ hw_603) (hta _ hw_602) (hta _ hw_89) hK hP hD hS 4 1 0 0 rfl rfl rfl rfl rfl h.1 h.2.1 h.2.2.1 h.2.2.2.1 h.2.2.2.2.1 (fun _ _ => rfl) (Nat.le_of_ble_eq_true rfl) (Nat.le_of_ble_eq_true rfl) dX5_copyFrom_14 (fun H locs hP hD hS => ?_)
  have h := h.2.2.2.2.2
  have hP : va_P D vwCl ((wv_sm cI cJ cZ cM h_sm a_sm (va_cpy sm2_keys sm_keys (0 : Int32).toNatClampNeg (0 : Int32).toNatClampNeg sm2_count.toNatClampNeg) sm_weights sm_count sm_matches sm_out) ++ (wv_sm cI cJ cZ cM h_sm2 a_sm2 sm2_keys sm2_weights sm2_count sm2_matches sm2_out)) H := hP
  have hD : va_D A ((wv_sm cI cJ cZ cM h_sm a_sm (va_cpy sm2_keys sm_keys (0 : Int32).toNatClampNeg (0 : Int32).toNatClampNeg sm2_count.toNatClampNeg) sm_weights sm_count sm_matches sm_out) ++ (wv_sm cI cJ cZ cM h_sm2 a_sm2 sm2_keys sm2_weights sm2_count sm2_matches sm2_out)) := hD
  refine lv_aload_n hx hb dX5_copyFrom_17 rfl (lv_at hl 1 rfl) ?_
  refine va_get (D := D) (ci := 5) (v := .ref (a_sm2 1)) (C := RX5) (T := TX5) (N := 5) hx hb hta ih_X5 hown hK hP 3 rfl rfl 1 (by decide) (hta _ hw_178) (fun _ h9 => h9) rfl dX5_copyFrom_18 ?_
  refine lv_iconst (v := 0) hx hb dX5_copyFrom_21 (by decide) ?_
  refine lv_aload_n hx hb dX5_copyFrom_22 rfl (lv_at hl 0 rfl) ?_
  refine va_get (D := D) (ci := 5) (v := .ref (a_sm 1)) (C := RX5) (T := TX5) (N := 5) hx hb hta ih_X5 hown hK hP 0 rfl rfl 1 (by decide) (hta _ hw_178) (fun _ h9 => h9) rfl dX5_copyFrom_23 ?_
  refine lv_iconst (v := 0) hx hb dX5_copyFrom_26 (by decide) ?_
  refine lv_aload_n hx hb dX5_copyFrom_27 rfl (lv_at hl 1 rfl) ?_
  refine va_get (D := D) (ci := 5) (v := .int sm2_count) (C := RX5) (T := TX5) (N := 5) hx hb hta ih_X5 hown hK hP 3 rfl rfl 2 (by decide) (hta _ hw_179) (fun _ h9 => h9) rfl dX5_copyFrom_28 ?_
  refine va_copyi hx hb (hml.trans hl.1.symm) hown (hta _ hw_689) (hta _ hw_603) (hta _ hw_602) (hta _ hw_89) hK hP hD hS 5 2 0 0 rfl rfl rfl rfl rfl h.1 h.2.1 h.2.2.1 h.2.2.2.1 h.2.2.2.2.1 (fun _ _ => rfl) (Nat.le_of_ble_eq_true rfl) (Nat.le_of_ble_eq_true rfl) dX5_copyFrom_31 (fun H locs hP hD hS => ?_)
  have h := h.2.2.2.2.2
  have hP : va_P D vwCl ((wv_sm cI cJ cZ cM h_sm a_sm (va_cpy sm2_keys sm_keys (0 : Int32).toNatClampNeg (0 : Int32).toNatClampNeg sm2_count.toNatClampNeg) (va_cpy sm2_weights sm_weights (0 : Int32).toNatClampNeg (0 : Int32).toNatClampNeg sm2_count.toNatClampNeg) sm_count sm_matches sm_out) ++ (wv_sm cI cJ cZ cM h_sm2 a_sm2 sm2_keys sm2_weights sm2_count sm2_matches sm2_out)) H := hP
  have hD : va_D A ((wv_sm cI cJ cZ cM h_sm a_sm (va_cpy sm2_keys sm_keys (0 : Int32).toNatClampNeg (0 : Int32).toNatClampNeg sm2_count.toNatClampNeg) (va_cpy sm2_weights sm_weights (0 : Int32).toNatClampNeg (0 : Int32).toNatClampNeg sm2_count.toNatClampNeg) sm_count sm_matches sm_out) ++ (wv_sm cI cJ cZ cM h_sm2 a_sm2 sm2_keys sm2_weights sm2_count sm2_matches sm2_out)) := hD
  refine lv_aload_n hx hb dX5_copyFrom_34 rfl (lv_at hl 0 rfl) ?_
  refine lv_aload_n hx hb dX5_copyFrom_35 rfl (lv_at hl 1 rfl) ?_
  refine va_get (D := D) (ci := 5) (v := .int sm2_count) (C := RX5) (T := TX5) (N := 5) hx hb hta ih_X5 hown hK hP 3 rfl rfl 2 (by decide) (hta _ hw_179) (fun _ h9 => h9) rfl dX5_copyFrom_36 ?_
  refine va_put (D := D) (ci := 5) (v := .int sm2_count) (ty := .int) (C := RX5) (T := TX5) (N := 5) hx hb hta ih_X5 tyX5 tyX5_ok nmX5 hown hK hP hD hS 0 rfl rfl 2 (by decide) (hta _ hw_179) (fun _ h9 => h9) rfl (by decide +kernel) rfl rfl (Nat.le_of_ble_eq_true rfl) dX5_copyFrom_39 (fun H locs hP hD hS => ?_)
  have hP : va_P D vwCl ((wv_sm cI cJ cZ cM h_sm a_sm (va_cpy sm2_keys sm_keys (0 : Int32).toNatClampNeg (0 : Int32).toNatClampNeg sm2_count.toNatClampNeg) (va_cpy sm2_weights sm_weights (0 : Int32).toNatClampNeg (0 : Int32).toNatClampNeg sm2_count.toNatClampNeg) sm2_count sm_matches sm_out) ++ (wv_sm cI cJ cZ cM h_sm2 a_sm2 sm2_keys sm2_weights sm2_count sm2_matches sm2_out)) H := hP
  have hD : va_D A ((wv_sm cI cJ cZ cM h_sm a_sm (va_cpy sm2_keys sm_keys (0 : Int32).toNatClampNeg (0 : Int32).toNatClampNeg sm2_count.toNatClampNeg) (va_cpy sm2_weights sm_weights (0 : Int32).toNatClampNeg (0 : Int32).toNatClampNeg sm2_count.toNatClampNeg) sm2_count sm_matches sm_out) ++ (wv_sm cI cJ cZ cM h_sm2 a_sm2 sm2_keys sm2_weights sm2_count sm2_matches sm2_out)) := hD
  refine lv_aload_n hx hb dX5_copyFrom_42 rfl (lv_at hl 0 rfl) ?_
  refine lv_aload_n hx hb dX5_copyFrom_43 rfl (lv_at hl 1 rfl) ?_
  refine va_get (D := D) (ci := 5) (v := .int sm2_matches) (C := RX5) (T := TX5) (N := 5) hx hb hta ih_X5 hown hK hP 3 rfl rfl 3 (by decide) (hta _ hw_181) (fun _ h9 => h9) rfl dX5_copyFrom_44 ?_
  refine va_put (D := D) (ci := 5) (v := .int sm2_matches) (ty := .int) (C := RX5) (T := TX5) (N := 5) hx hb hta ih_X5 tyX5 tyX5_ok nmX5 hown hK hP hD hS 0 rfl rfl 3 (by decide) (hta _ hw_181) (fun _ h9 => h9) rfl (by decide +kernel) rfl rfl (Nat.le_of_ble_eq_true rfl) dX5_copyFrom_47 (fun H locs hP hD hS => ?_)
  have hP : va_P D vwCl ((wv_sm cI cJ cZ cM h_sm a_sm (va_cpy sm2_keys sm_keys (0 : Int32).toNatClampNeg (0 : Int32).toNatClampNeg sm2_count.toNatClampNeg) (va_cpy sm2_weights sm_weights (0 : Int32).toNatClampNeg (0 : Int32).toNatClampNeg sm2_count.toNatClampNeg) sm2_count sm2_matches sm_out) ++ (wv_sm cI cJ cZ cM h_sm2 a_sm2 sm2_keys sm2_weights sm2_count sm2_matches sm2_out)) H := hP
  have hD : va_D A ((wv_sm cI cJ cZ cM h_sm a_sm (va_cpy sm2_keys sm_keys (0 : Int32).toNatClampNeg (0 : Int32).toNatClampNeg sm2_count.toNatClampNeg) (va_cpy sm2_weights sm_weights (0 : Int32).toNatClampNeg (0 : Int32).toNatClampNeg sm2_count.toNatClampNeg) sm2_count sm2_matches sm_out) ++ (wv_sm cI cJ cZ cM h_sm2 a_sm2 sm2_keys sm2_weights sm2_count sm2_matches sm2_out)) := hD
  refine lv_aload_n hx hb dX5_copyFrom_50 rfl (lv_at hl 0 rfl) ?_
  refine lv_aload_n hx hb dX5_copyFrom_51 rfl (lv_at hl 1 rfl) ?_
  refine va_get (D := D) (ci := 5) (v := .long sm2_out) (C := RX5) (T := TX5) (N := 5) hx hb hta ih_X5 hown hK hP 3 rfl rfl 4 (by decide) (hta _ hw_183) (fun _ h9 => h9) rfl dX5_copyFrom_52 ?_
  refine va_put (D := D) (ci := 5) (v := .long sm2_out) (ty := .long) (C := RX5) (T := TX5) (N := 5) hx hb hta ih_X5 tyX5 tyX5_ok nmX5 hown hK hP hD hS 0 rfl rfl 4 (by decide) (hta _ hw_183) (fun _ h9 => h9) rfl (by decide +kernel) rfl rfl (Nat.le_of_ble_eq_true rfl) dX5_copyFrom_55 (fun H locs hP hD hS => ?_)
  have hP : va_P D vwCl ((wv_sm cI cJ cZ cM h_sm a_sm (va_cpy sm2_keys sm_keys (0 : Int32).toNatClampNeg (0 : Int32).toNatClampNeg sm2_count.toNatClampNeg) (va_cpy sm2_weights sm_weights (0 : Int32).toNatClampNeg (0 : Int32).toNatClampNeg sm2_count.toNatClampNeg) sm2_count sm2_matches sm2_out) ++ (wv_sm cI cJ cZ cM h_sm2 a_sm2 sm2_keys sm2_weights sm2_count sm2_matches sm2_out)) H := hP
  have hD : va_D A ((wv_sm cI cJ cZ cM h_sm a_sm (va_cpy sm2_keys sm_keys (0 : Int32).toNatClampNeg (0 : Int32).toNatClampNeg sm2_count.toNatClampNeg) (va_cpy sm2_weights sm_weights (0 : Int32).toNatClampNeg (0 : Int32).toNatClampNeg sm2_count.toNatClampNeg) sm2_count sm2_matches sm2_out) ++ (wv_sm cI cJ cZ cM h_sm2 a_sm2 sm2_keys sm2_weights sm2_count sm2_matches sm2_out)) := hD
  exact W.vret hx hb hr (fun t ht hW => ⟨⟨(va_cpy sm2_keys sm_keys (0 : Int32).toNatClampNeg (0 : Int32).toNatClampNeg sm2_count.toNatClampNeg, va_cpy sm2_weights sm_weights (0 : Int32).toNatClampNeg (0 : Int32).toNatClampNeg sm2_count.toNatClampNeg, sm2_count, sm2_matches, sm2_out), rfl, h, by rw [ht]; exact hP, hD⟩, hS.F ht⟩) hS.2.2 dX5_copyFrom_58
end
section
def wp_ti_forgetAll   (post : (Int32 × Int32) → Prop) : Prop := post (0, 0)
theorem mm_ti_forgetAll : hk_MV yX6_forgetAll cX6_forgetAll 1 none 0 := ⟨hw_268, hw_267, hw_5, hw_84, by decide +kernel⟩
set_option maxRecDepth 100000 in
set_option maxHeartbeats 4000000 in
theorem c_ti_forgetAll (l : Launch) (D : va_G) (cI cJ cZ cM : ClassId) (h_ti : Nat) (a_ti : Nat → Nat) (sz : Nat) (ti_keys : Nat → Int32) (ti_times : Nat → Int32) (ti_count : Int32) (ti_now : Int32)  (post : (Int32 × Int32) → Prop) (h : wp_ti_forgetAll post) : Met l yX6_forgetAll (hk_ws yX6_forgetAll cX6_forgetAll 1 none) (hk_rm 0 0) (va_Pc [.ref h_ti] (hk_PM D (hk_ty cI cJ cZ cM) sz (wv_ti cI cJ cZ cM h_ti a_ti ti_keys ti_times ti_count ti_now))) (va_Qv post (hk_B D (va_A (wv_ti cI cJ cZ cM h_ti a_ti ti_keys ti_times ti_count ti_now) sz) (fun (u : Int32 × Int32) => wv_ti cI cJ cZ cM h_ti a_ti ti_keys ti_times u.1 u.2)) (va_A (wv_ti cI cJ cZ cM h_ti a_ti ti_keys ti_times ti_count ti_now) sz)) 0 0 (va_A (wv_ti cI cJ cZ cM h_ti a_ti ti_keys ti_times ti_count ti_now) sz) := by
  refine Met.ofW (cc := cX6_forgetAll) (maxL := 1) (ret := none) (by decide) rfl ?_
  intro p e s m args below meth c s₁ B hml hv
  obtain ⟨rfl, hsz, hP, hK, hD0, hN⟩ := hv
  have hx := B.exec
  have hb := B.bytes
  have hr := B.returns
  have hts := atoms_spec (ws := hk_ws yX6_forgetAll cX6_forgetAll 1 none) B.pre
  have hta : ∀ w ∈ hk_all, w.before ([.ref h_ti] : List Value).toArray s = true := fun w hw => hts w (List.mem_cons_of_mem _ hw)
  have hown : s.vm.findClass RX6 = some m.cls := findClass_of_methodNamed B.named
  have hlocks := B.notSynchronized
  have S0 : CallFix p m c cX6_forgetAll 1 s ([.ref h_ti] : List Value).toArray hk_all RX6 := ⟨hx, hb, hml, hown, hta⟩
  subst hsz
  have hD := hD0.self (sz := s.heap.size)
  generalize hAe : va_A (wv_ti cI cJ cZ cM h_ti a_ti ti_keys ti_times ti_count ti_now) s.heap.size = A at hD ⊢
  have hA : ∀ q : Nat, s.heap.size ≤ q → A q := fun q h => by rw [← hAe]; exact Or.inr h
  have hS : va_S A s.heap s.heap [] := va_S.rf
  have hl := lv_entry ([.ref h_ti]) (n := 1) (Nat.le_of_ble_eq_true rfl)
  rw [lg_entry_eq]
  generalize (lg_sl ([.ref h_ti]) ++ List.replicate (1 - (lg_sl ([.ref h_ti])).length) Slot.unset).toArray = ls at hl ⊢
  have hl : lv_has ls 1 [(0, .ref h_ti)] := hl
  unfold wp_ti_forgetAll at h
  refine lv_aload_n hx hb dX6_forgetAll_0 rfl (lv_at hl 0 rfl) ?_
  refine lv_iconst (v := 0) hx hb dX6_forgetAll_1 (by decide) ?_
  refine va_put (D := D) (ci := 6) (v := .int 0) (ty := .int) (C := RX6) (T := TX6) (N := 4) hx hb hta ih_X6 tyX6 tyX6_ok nmX6 hown hK hP hD hS 0 rfl rfl 2 (by decide) (hta _ hw_206) (fun _ h9 => h9) rfl (by decide +kernel) rfl rfl (Nat.le_of_ble_eq_true rfl) dX6_forgetAll_2 (fun H locs hP hD hS => ?_)
  have hP : va_P D vwCl (wv_ti cI cJ cZ cM h_ti a_ti ti_keys ti_times 0 ti_now) H := hP
  have hD : va_D A (wv_ti cI cJ cZ cM h_ti a_ti ti_keys ti_times 0 ti_now) := hD
  refine lv_aload_n hx hb dX6_forgetAll_5 rfl (lv_at hl 0 rfl) ?_
  refine lv_iconst (v := 0) hx hb dX6_forgetAll_6 (by decide) ?_
  refine va_put (D := D) (ci := 6) (v := .int 0) (ty := .int) (C := RX6) (T := TX6) (N := 4) hx hb hta ih_X6 tyX6 tyX6_ok nmX6 hown hK hP hD hS 0 rfl rfl 3 (by decide) (hta _ hw_208) (fun _ h9 => h9) rfl (by decide +kernel) rfl rfl (Nat.le_of_ble_eq_true rfl) dX6_forgetAll_7 (fun H locs hP hD hS => ?_)
  have hP : va_P D vwCl (wv_ti cI cJ cZ cM h_ti a_ti ti_keys ti_times 0 0) H := hP
  have hD : va_D A (wv_ti cI cJ cZ cM h_ti a_ti ti_keys ti_times 0 0) := hD
  exact W.vret hx hb hr (fun t ht hW => ⟨⟨(0, 0), rfl, h, by rw [ht]; exact hP, hD⟩, hS.F ht⟩) hS.2.2 dX6_forgetAll_10
def wb_ti_dueAt_2 (ti_times : Nat → Int32) (ti_count : Int32) (p1 : Int32) (post : Int32 → Prop) (K2 : (Int32) → Prop) (v1 : Int32) : Prop := (ti_count ≤ v1 → post v1) ∧ (¬ ti_count ≤ v1 → vp_in v1 40 ∧ ((p1 < (ti_times v1.toNatClampNeg) → post v1) ∧ (¬ p1 < (ti_times v1.toNatClampNeg) → ∀ x4 : Int32, x4 = v1 + 1 → K2 x4)))
def wp_ti_dueAt (p1 : Int32) (ti_times : Nat → Int32) (ti_count : Int32) (post : Int32 → Prop) : Prop := ∃ n, hk_lp (wb_ti_dueAt_2 ti_times ti_count p1 post) n 0
theorem mm_ti_dueAt : hk_MV yX6_dueAt cX6_dueAt 3 (some .int) 1 := ⟨hw_600, hw_599, hw_44, hw_84, by decide +kernel⟩
set_option maxRecDepth 100000 in
set_option maxHeartbeats 4000000 in
theorem c_ti_dueAt (l : Launch) (D : va_G) (cI cJ cZ cM : ClassId) (h_ti : Nat) (a_ti : Nat → Nat)  (ti_keys : Nat → Int32) (ti_times : Nat → Int32) (ti_count : Int32) (ti_now : Int32) (p1 : Int32) (post : Int32 → Prop) (h : wp_ti_dueAt p1 ti_times ti_count post) : Met l yX6_dueAt (hk_ws yX6_dueAt cX6_dueAt 3 (some .int)) (hk_rm 0 0) (va_Pc [.ref h_ti, .int p1] (hk_PR D (hk_ty cI cJ cZ cM) (wv_ti cI cJ cZ cM h_ti a_ti ti_keys ti_times ti_count ti_now))) (vp_Si post) 0 0 (fun _ => False) := by
  refine Met.ofW (cc := cX6_dueAt) (maxL := 3) (ret := (some .int)) (by decide) rfl ?_
  intro p e s m args below meth c s₁ B hml hv
  obtain ⟨rfl, hP, hK, hN⟩ := hv
  have hx := B.exec
  have hb := B.bytes
  have hr := B.returns
  have hts := atoms_spec (ws := hk_ws yX6_dueAt cX6_dueAt 3 (some .int)) B.pre
  have hta : ∀ w ∈ hk_all, w.before ([.ref h_ti, .int p1] : List Value).toArray s = true := fun w hw => hts w (List.mem_cons_of_mem _ hw)
  have hown : s.vm.findClass RX6 = some m.cls := findClass_of_methodNamed B.named
  have hlocks := B.notSynchronized
  have S0 : CallFix p m c cX6_dueAt 3 s ([.ref h_ti, .int p1] : List Value).toArray hk_all RX6 := ⟨hx, hb, hml, hown, hta⟩
  have hl := lv_entry ([.ref h_ti, .int p1]) (n := 3) (Nat.le_of_ble_eq_true rfl)
  rw [lg_entry_eq]
  generalize (lg_sl ([.ref h_ti, .int p1]) ++ List.replicate (3 - (lg_sl ([.ref h_ti, .int p1])).length) Slot.unset).toArray = ls at hl ⊢
  have hl : lv_has ls 3 [(0, .ref h_ti), (1, .int p1)] := hl
  unfold wp_ti_dueAt at h
  refine lv_iconst (v := 0) hx hb dX6_dueAt_0 (by decide) ?_
  refine lv_istore_n (lv' := [(2, .int 0), (0, .ref h_ti), (1, .int p1)]) hx hb dX6_dueAt_1 rfl hl (by decide) rfl (fun ls hl => ?_)
  have P2 : ∀ (n : Nat) (v1 : Int32) (ls : Array Slot), lv_has ls 3 [(0, .ref h_ti), (1, .int p1), (2, .int v1)] → hk_lp (wb_ti_dueAt_2 ti_times ti_count p1 post) n v1 → W p l e (headSpec (hk_ws yX6_dueAt cX6_dueAt 3 (some .int)) (hk_rm 0 0)).room s m ([.ref h_ti, .int p1] : List Value).toArray below meth c s.heap [] 0 0 (MQ below (vp_Si post) ([.ref h_ti, .int p1] : List Value).toArray s 0 0 (fun _ => False)) (F0 m 2 ls []) := by
    intro n
    induction n with
    | zero => intro v1 ls hl h; exact False.elim h
    | succ n ih2 =>
      intro v1 ls hl h
      have h : wb_ti_dueAt_2 ti_times ti_count p1 post (hk_lp (wb_ti_dueAt_2 ti_times ti_count p1 post) n) v1 := h
      unfold wb_ti_dueAt_2 at h
      refine lv_iload_n hx hb dX6_dueAt_2 rfl (lv_at hl 2 rfl) ?_
      refine lv_aload_n hx hb dX6_dueAt_3 rfl (lv_at hl 0 rfl) ?_
      refine va_get (D := D) (ci := 6) (v := .int ti_count) (C := RX6) (T := TX6) (N := 4) hx hb hta ih_X6 hown hK hP 0 rfl rfl 2 (by decide) (hta _ hw_206) (fun _ h9 => h9) rfl dX6_dueAt_4 ?_
      refine lv_icmp_ge (tgt := 26) hx hb dX6_dueAt_7 (by decide) (fun c2 => ?_) (fun c2 => ?_)
      · have h := h.1 c2
        refine lv_iload_n hx hb dX6_dueAt_26 rfl (lv_at hl 2 rfl) ?_
        exact W.iret (v := v1) hx hb hr (fun t ht hW => ⟨_, rfl, h, ht⟩) (fun _ hq => by cases hq) dX6_dueAt_27
      · have h := h.2 c2
        refine lv_aload_n hx hb dX6_dueAt_10 rfl (lv_at hl 0 rfl) ?_
        refine va_get (D := D) (ci := 6) (v := .ref (a_ti 1)) (C := RX6) (T := TX6) (N := 4) hx hb hta ih_X6 hown hK hP 0 rfl rfl 1 (by decide) (hta _ hw_204) (fun _ h9 => h9) rfl dX6_dueAt_11 ?_
        refine lv_iload_n hx hb dX6_dueAt_14 rfl (lv_at hl 2 rfl) ?_
        refine va_iald hx hb hK hP 2 0 rfl rfl h.1 dX6_dueAt_15 ?_
        have h := h.2
        refine lv_iload_n hx hb dX6_dueAt_16 rfl (lv_at hl 1 rfl) ?_
        refine lv_icmp_gt (tgt := 26) hx hb dX6_dueAt_17 (by decide) (fun c3 => ?_) (fun c3 => ?_)
        · have h := h.1 c3
          refine lv_iload_n hx hb dX6_dueAt_26 rfl (lv_at hl 2 rfl) ?_
          exact W.iret (v := v1) hx hb hr (fun t ht hW => ⟨_, rfl, h, ht⟩) (fun _ hq => by cases hq) dX6_dueAt_27
        · have h := h.2 c3
          obtain ⟨x4, ex4⟩ : ∃ y : Int32, y = v1 + 1 := ⟨_, rfl⟩
          have h := h x4 ex4
          refine lv_iinc (v := x4) (lv' := [(2, .int x4), (0, .ref h_ti), (1, .int p1)]) hx hb dX6_dueAt_20 hl (k := 2) rfl (by rw [ex4]; rfl) (by decide) rfl (fun ls hl => ?_)
          refine lv_goto (tgt := 2) hx hb dX6_dueAt_23 (by decide) ?_
          exact ih2 x4 ls (lv_sub hl [1, 2, 0] rfl) h
  obtain ⟨n, h⟩ := h
  exact P2 n 0 ls (lv_sub hl [1, 2, 0] rfl) h
def wp_ti_add (p1 : Int32) (p2 : Int32) (ti_keys : Nat → Int32) (ti_times : Nat → Int32) (ti_count : Int32) (post : ((Nat → Int32) × (Nat → Int32) × Int32) → Prop) : Prop := wp_ti_dueAt p2 ti_times ti_count (fun (r1 : Int32) => (¬ r1 < 0) ∧ (¬ (r1 + 1) < 0) ∧ (¬ (ti_count - r1) < 0) ∧ (r1.toNatClampNeg + (ti_count - r1).toNatClampNeg ≤ 40) ∧ ((r1 + 1).toNatClampNeg + (ti_count - r1).toNatClampNeg ≤ 40) ∧ ((¬ r1 < 0) ∧ (¬ (r1 + 1) < 0) ∧ (¬ (ti_count - r1) < 0) ∧ (r1.toNatClampNeg + (ti_count - r1).toNatClampNeg ≤ 40) ∧ ((r1 + 1).toNatClampNeg + (ti_count - r1).toNatClampNeg ≤ 40) ∧ (vp_in r1 40 ∧ (vp_in r1 40 ∧ (∀ x2 : Int32, x2 = ti_count + 1 → post (upd (va_cpy ti_keys ti_keys r1.toNatClampNeg (r1 + 1).toNatClampNeg (ti_count - r1).toNatClampNeg) r1.toNatClampNeg p1, upd (va_cpy ti_times ti_times r1.toNatClampNeg (r1 + 1).toNatClampNeg (ti_count - r1).toNatClampNeg) r1.toNatClampNeg p2, x2))))))
theorem mm_ti_add : hk_MV yX6_add cX6_add 4 none 2 := ⟨hw_596, hw_595, hw_43, hw_84, by decide +kernel⟩
set_option maxRecDepth 100000 in
set_option maxHeartbeats 4000000 in
theorem c_ti_add (l : Launch) (D : va_G) (cI cJ cZ cM : ClassId) (h_ti : Nat) (a_ti : Nat → Nat) (sz : Nat) (ti_keys : Nat → Int32) (ti_times : Nat → Int32) (ti_count : Int32) (ti_now : Int32) (p1 : Int32) (p2 : Int32) (post : ((Nat → Int32) × (Nat → Int32) × Int32) → Prop) (h : wp_ti_add p1 p2 ti_keys ti_times ti_count post) : Met l yX6_add (hk_ws yX6_add cX6_add 4 none) (hk_rm 1 40) (va_Pc [.ref h_ti, .int p1, .int p2] (hk_PM D (hk_ty cI cJ cZ cM) sz (wv_ti cI cJ cZ cM h_ti a_ti ti_keys ti_times ti_count ti_now))) (va_Qv post (hk_B D (va_A (wv_ti cI cJ cZ cM h_ti a_ti ti_keys ti_times ti_count ti_now) sz) (fun (u : (Nat → Int32) × (Nat → Int32) × Int32) => wv_ti cI cJ cZ cM h_ti a_ti u.1 u.2.1 u.2.2 ti_now)) (va_A (wv_ti cI cJ cZ cM h_ti a_ti ti_keys ti_times ti_count ti_now) sz)) 0 0 (va_A (wv_ti cI cJ cZ cM h_ti a_ti ti_keys ti_times ti_count ti_now) sz) := by
  refine Met.ofW (cc := cX6_add) (maxL := 4) (ret := none) (by decide) rfl ?_
  intro p e s m args below meth c s₁ B hml hv
  obtain ⟨rfl, hsz, hP, hK, hD0, hN⟩ := hv
  have hx := B.exec
  have hb := B.bytes
  have hr := B.returns
  have hts := atoms_spec (ws := hk_ws yX6_add cX6_add 4 none) B.pre
  have hta : ∀ w ∈ hk_all, w.before ([.ref h_ti, .int p1, .int p2] : List Value).toArray s = true := fun w hw => hts w (List.mem_cons_of_mem _ hw)
  have hown : s.vm.findClass RX6 = some m.cls := findClass_of_methodNamed B.named
  have hlocks := B.notSynchronized
  have S0 : CallFix p m c cX6_add 4 s ([.ref h_ti, .int p1, .int p2] : List Value).toArray hk_all RX6 := ⟨hx, hb, hml, hown, hta⟩
  subst hsz
  have hD := hD0.self (sz := s.heap.size)
  generalize hAe : va_A (wv_ti cI cJ cZ cM h_ti a_ti ti_keys ti_times ti_count ti_now) s.heap.size = A at hD ⊢
  have hA : ∀ q : Nat, s.heap.size ≤ q → A q := fun q h => by rw [← hAe]; exact Or.inr h
  have hS : va_S A s.heap s.heap [] := va_S.rf
  have hl := lv_entry ([.ref h_ti, .int p1, .int p2]) (n := 4) (Nat.le_of_ble_eq_true rfl)
  rw [lg_entry_eq]
  generalize (lg_sl ([.ref h_ti, .int p1, .int p2]) ++ List.replicate (4 - (lg_sl ([.ref h_ti, .int p1, .int p2])).length) Slot.unset).toArray = ls at hl ⊢
  have hl : lv_has ls 4 [(0, .ref h_ti), (1, .int p1), (2, .int p2)] := hl
  unfold wp_ti_add at h
  refine lv_aload_n hx hb dX6_add_0 rfl (lv_at hl 0 rfl) ?_
  refine lv_iload_n hx hb dX6_add_1 rfl (lv_at hl 2 rfl) ?_
  refine vp_callSi (hk_runV (As := [.int p2]) (rest := []) S0 mm_ti_dueAt (c_ti_dueAt l D cI cJ cZ cM h_ti a_ti ti_keys ti_times ti_count ti_now p2 _ h) hw_597 hk_blR (hk_atR hP hK hN) (va_recv hK hP (ci := 6) (q0 := 0) rfl rfl) ⟨rfl, rfl, Nat.le_of_ble_eq_true rfl, Nat.le_of_ble_eq_true rfl⟩ rfl hl.1 rfl (Nat.le_of_ble_eq_true rfl) dX6_add_2 ⟨Nat.le_of_ble_eq_true rfl, Nat.le_of_ble_eq_true rfl⟩).run (fun r1 h => ?_)
  refine lv_istore_n (lv' := [(3, .int r1), (0, .ref h_ti), (1, .int p1), (2, .int p2)]) hx hb dX6_add_5 rfl hl (by decide) rfl (fun ls hl => ?_)
  refine lv_aload_n hx hb dX6_add_6 rfl (lv_at hl 1 rfl) ?_
  refine va_get (D := D) (ci := 6) (v := .ref (a_ti 0)) (C := RX6) (T := TX6) (N := 4) hx hb hta ih_X6 hown hK hP 0 rfl rfl 0 (by decide) (hta _ hw_202) (fun _ h9 => h9) rfl dX6_add_7 ?_
  refine lv_iload_n hx hb dX6_add_10 rfl (lv_at hl 0 rfl) ?_
  refine lv_aload_n hx hb dX6_add_11 rfl (lv_at hl 1 rfl) ?_
  refine va_get (D := D) (ci := 6) (v := .ref (a_ti 0)) (C := RX6) (T := TX6) (N := 4) hx hb hta ih_X6 hown hK hP 0 rfl rfl 0 (by decide) (hta _ hw_202) (fun _ h9 => h9) rfl dX6_add_12 ?_
  refine lv_iload_n hx hb dX6_add_15 rfl (lv_at hl 0 rfl) ?_
  refine lv_iconst (v := 1) hx hb dX6_add_16 (by decide) ?_
  refine lv_iadd hx hb dX6_add_17 ?_
  refine lv_aload_n hx hb dX6_add_18 rfl (lv_at hl 1 rfl) ?_
  refine va_get (D := D) (ci := 6) (v := .int ti_count) (C := RX6) (T := TX6) (N := 4) hx hb hta ih_X6 hown hK hP 0 rfl rfl 2 (by decide) (hta _ hw_206) (fun _ h9 => h9) rfl dX6_add_19 ?_
  refine lv_iload_n hx hb dX6_add_22 rfl (lv_at hl 0 rfl) ?_
  refine lv_isub hx hb dX6_add_23 ?_
  refine va_copyi hx hb (hml.trans hl.1.symm) hown (hta _ hw_601) (hta _ hw_603) (hta _ hw_602) (hta _ hw_89) hK hP hD hS 1 1 0 0 rfl rfl rfl rfl rfl h.1 h.2.1 h.2.2.1 h.2.2.2.1 h.2.2.2.2.1 (fun _ _ => rfl) (Nat.le_of_ble_eq_true rfl) (Nat.le_of_ble_eq_true rfl) dX6_add_24 (fun H locs hP hD hS => ?_)
  have h := h.2.2.2.2.2
  have hP : va_P D vwCl (wv_ti cI cJ cZ cM h_ti a_ti (va_cpy ti_keys ti_keys r1.toNatClampNeg (r1 + 1).toNatClampNeg (ti_count - r1).toNatClampNeg) ti_times ti_count ti_now) H := hP
  have hD : va_D A (wv_ti cI cJ cZ cM h_ti a_ti (va_cpy ti_keys ti_keys r1.toNatClampNeg (r1 + 1).toNatClampNeg (ti_count - r1).toNatClampNeg) ti_times ti_count ti_now) := hD
  refine lv_aload_n hx hb dX6_add_27 rfl (lv_at hl 1 rfl) ?_
  refine va_get (D := D) (ci := 6) (v := .ref (a_ti 1)) (C := RX6) (T := TX6) (N := 4) hx hb hta ih_X6 hown hK hP 0 rfl rfl 1 (by decide) (hta _ hw_204) (fun _ h9 => h9) rfl dX6_add_28 ?_
  refine lv_iload_n hx hb dX6_add_31 rfl (lv_at hl 0 rfl) ?_
  refine lv_aload_n hx hb dX6_add_32 rfl (lv_at hl 1 rfl) ?_
  refine va_get (D := D) (ci := 6) (v := .ref (a_ti 1)) (C := RX6) (T := TX6) (N := 4) hx hb hta ih_X6 hown hK hP 0 rfl rfl 1 (by decide) (hta _ hw_204) (fun _ h9 => h9) rfl dX6_add_33 ?_
  refine lv_iload_n hx hb dX6_add_36 rfl (lv_at hl 0 rfl) ?_
  refine lv_iconst (v := 1) hx hb dX6_add_37 (by decide) ?_
  refine lv_iadd hx hb dX6_add_38 ?_
  refine lv_aload_n hx hb dX6_add_39 rfl (lv_at hl 1 rfl) ?_
  refine va_get (D := D) (ci := 6) (v := .int ti_count) (C := RX6) (T := TX6) (N := 4) hx hb hta ih_X6 hown hK hP 0 rfl rfl 2 (by decide) (hta _ hw_206) (fun _ h9 => h9) rfl dX6_add_40 ?_
  refine lv_iload_n hx hb dX6_add_43 rfl (lv_at hl 0 rfl) ?_
  refine lv_isub hx hb dX6_add_44 ?_
  refine va_copyi hx hb (hml.trans hl.1.symm) hown (hta _ hw_601) (hta _ hw_603) (hta _ hw_602) (hta _ hw_89) hK hP hD hS 2 2 0 0 rfl rfl rfl rfl rfl h.1 h.2.1 h.2.2.1 h.2.2.2.1 h.2.2.2.2.1 (fun _ _ => rfl) (Nat.le_of_ble_eq_true rfl) (Nat.le_of_ble_eq_true rfl) dX6_add_45 (fun H locs hP hD hS => ?_)
  have h := h.2.2.2.2.2
  have hP : va_P D vwCl (wv_ti cI cJ cZ cM h_ti a_ti (va_cpy ti_keys ti_keys r1.toNatClampNeg (r1 + 1).toNatClampNeg (ti_count - r1).toNatClampNeg) (va_cpy ti_times ti_times r1.toNatClampNeg (r1 + 1).toNatClampNeg (ti_count - r1).toNatClampNeg) ti_count ti_now) H := hP
  have hD : va_D A (wv_ti cI cJ cZ cM h_ti a_ti (va_cpy ti_keys ti_keys r1.toNatClampNeg (r1 + 1).toNatClampNeg (ti_count - r1).toNatClampNeg) (va_cpy ti_times ti_times r1.toNatClampNeg (r1 + 1).toNatClampNeg (ti_count - r1).toNatClampNeg) ti_count ti_now) := hD
  refine lv_aload_n hx hb dX6_add_48 rfl (lv_at hl 1 rfl) ?_
  refine va_get (D := D) (ci := 6) (v := .ref (a_ti 0)) (C := RX6) (T := TX6) (N := 4) hx hb hta ih_X6 hown hK hP 0 rfl rfl 0 (by decide) (hta _ hw_202) (fun _ h9 => h9) rfl dX6_add_49 ?_
  refine lv_iload_n hx hb dX6_add_52 rfl (lv_at hl 0 rfl) ?_
  refine lv_iload_n hx hb dX6_add_53 rfl (lv_at hl 2 rfl) ?_
  refine va_iast hx hb hK hP hD hS 1 0 rfl rfl h.1 dX6_add_54 (fun H locs hP hD hS => ?_)
  have h := h.2
  have hP : va_P D vwCl (wv_ti cI cJ cZ cM h_ti a_ti (upd (va_cpy ti_keys ti_keys r1.toNatClampNeg (r1 + 1).toNatClampNeg (ti_count - r1).toNatClampNeg) r1.toNatClampNeg p1) (va_cpy ti_times ti_times r1.toNatClampNeg (r1 + 1).toNatClampNeg (ti_count - r1).toNatClampNeg) ti_count ti_now) H := hP
  have hD : va_D A (wv_ti cI cJ cZ cM h_ti a_ti (upd (va_cpy ti_keys ti_keys r1.toNatClampNeg (r1 + 1).toNatClampNeg (ti_count - r1).toNatClampNeg) r1.toNatClampNeg p1) (va_cpy ti_times ti_times r1.toNatClampNeg (r1 + 1).toNatClampNeg (ti_count - r1).toNatClampNeg) ti_count ti_now) := hD
  refine lv_aload_n hx hb dX6_add_55 rfl (lv_at hl 1 rfl) ?_
  refine va_get (D := D) (ci := 6) (v := .ref (a_ti 1)) (C := RX6) (T := TX6) (N := 4) hx hb hta ih_X6 hown hK hP 0 rfl rfl 1 (by decide) (hta _ hw_204) (fun _ h9 => h9) rfl dX6_add_56 ?_
  refine lv_iload_n hx hb dX6_add_59 rfl (lv_at hl 0 rfl) ?_
  refine lv_iload_n hx hb dX6_add_60 rfl (lv_at hl 3 rfl) ?_
  refine va_iast hx hb hK hP hD hS 2 0 rfl rfl h.1 dX6_add_61 (fun H locs hP hD hS => ?_)
  have h := h.2
  have hP : va_P D vwCl (wv_ti cI cJ cZ cM h_ti a_ti (upd (va_cpy ti_keys ti_keys r1.toNatClampNeg (r1 + 1).toNatClampNeg (ti_count - r1).toNatClampNeg) r1.toNatClampNeg p1) (upd (va_cpy ti_times ti_times r1.toNatClampNeg (r1 + 1).toNatClampNeg (ti_count - r1).toNatClampNeg) r1.toNatClampNeg p2) ti_count ti_now) H := hP
  have hD : va_D A (wv_ti cI cJ cZ cM h_ti a_ti (upd (va_cpy ti_keys ti_keys r1.toNatClampNeg (r1 + 1).toNatClampNeg (ti_count - r1).toNatClampNeg) r1.toNatClampNeg p1) (upd (va_cpy ti_times ti_times r1.toNatClampNeg (r1 + 1).toNatClampNeg (ti_count - r1).toNatClampNeg) r1.toNatClampNeg p2) ti_count ti_now) := hD
  refine lv_aload_n hx hb dX6_add_62 rfl (lv_at hl 1 rfl) ?_
  refine lv_dup hx hb dX6_add_63 rfl ?_
  refine va_get (D := D) (ci := 6) (v := .int ti_count) (C := RX6) (T := TX6) (N := 4) hx hb hta ih_X6 hown hK hP 0 rfl rfl 2 (by decide) (hta _ hw_206) (fun _ h9 => h9) rfl dX6_add_64 ?_
  refine lv_iconst (v := 1) hx hb dX6_add_67 (by decide) ?_
  refine lv_iadd hx hb dX6_add_68 ?_
  refine lv_topi (fun x2 ex2 => ?_)
  have h := h x2 ex2
  refine va_put (D := D) (ci := 6) (v := .int x2) (ty := .int) (C := RX6) (T := TX6) (N := 4) hx hb hta ih_X6 tyX6 tyX6_ok nmX6 hown hK hP hD hS 0 rfl rfl 2 (by decide) (hta _ hw_206) (fun _ h9 => h9) rfl (by decide +kernel) rfl rfl (Nat.le_of_ble_eq_true rfl) dX6_add_69 (fun H locs hP hD hS => ?_)
  have hP : va_P D vwCl (wv_ti cI cJ cZ cM h_ti a_ti (upd (va_cpy ti_keys ti_keys r1.toNatClampNeg (r1 + 1).toNatClampNeg (ti_count - r1).toNatClampNeg) r1.toNatClampNeg p1) (upd (va_cpy ti_times ti_times r1.toNatClampNeg (r1 + 1).toNatClampNeg (ti_count - r1).toNatClampNeg) r1.toNatClampNeg p2) x2 ti_now) H := hP
  have hD : va_D A (wv_ti cI cJ cZ cM h_ti a_ti (upd (va_cpy ti_keys ti_keys r1.toNatClampNeg (r1 + 1).toNatClampNeg (ti_count - r1).toNatClampNeg) r1.toNatClampNeg p1) (upd (va_cpy ti_times ti_times r1.toNatClampNeg (r1 + 1).toNatClampNeg (ti_count - r1).toNatClampNeg) r1.toNatClampNeg p2) x2 ti_now) := hD
  exact W.vret hx hb hr (fun t ht hW => ⟨⟨(upd (va_cpy ti_keys ti_keys r1.toNatClampNeg (r1 + 1).toNatClampNeg (ti_count - r1).toNatClampNeg) r1.toNatClampNeg p1, upd (va_cpy ti_times ti_times r1.toNatClampNeg (r1 + 1).toNatClampNeg (ti_count - r1).toNatClampNeg) r1.toNatClampNeg p2, x2), rfl, h, by rw [ht]; exact hP, hD⟩, hS.F ht⟩) hS.2.2 dX6_add_72
def wp_ti_dropFirst (p1 : Int32) (ti_keys : Nat → Int32) (ti_times : Nat → Int32) (ti_count : Int32) (post : ((Nat → Int32) × (Nat → Int32) × Int32) → Prop) : Prop := ∀ x1 : Int32, x1 = ti_count - p1 → (¬ p1 < 0) ∧ (¬ (0 : Int32) < 0) ∧ (¬ x1 < 0) ∧ (p1.toNatClampNeg + x1.toNatClampNeg ≤ 40) ∧ ((0 : Int32).toNatClampNeg + x1.toNatClampNeg ≤ 40) ∧ ((¬ p1 < 0) ∧ (¬ (0 : Int32) < 0) ∧ (¬ x1 < 0) ∧ (p1.toNatClampNeg + x1.toNatClampNeg ≤ 40) ∧ ((0 : Int32).toNatClampNeg + x1.toNatClampNeg ≤ 40) ∧ (post (va_cpy ti_keys ti_keys p1.toNatClampNeg (0 : Int32).toNatClampNeg x1.toNatClampNeg, va_cpy ti_times ti_times p1.toNatClampNeg (0 : Int32).toNatClampNeg x1.toNatClampNeg, x1)))
theorem mm_ti_dropFirst : hk_MV yX6_dropFirst cX6_dropFirst 2 none 1 := ⟨hw_636, hw_635, hw_49, hw_84, by decide +kernel⟩
set_option maxRecDepth 100000 in
set_option maxHeartbeats 4000000 in
theorem c_ti_dropFirst (l : Launch) (D : va_G) (cI cJ cZ cM : ClassId) (h_ti : Nat) (a_ti : Nat → Nat) (sz : Nat) (ti_keys : Nat → Int32) (ti_times : Nat → Int32) (ti_count : Int32) (ti_now : Int32) (p1 : Int32) (post : ((Nat → Int32) × (Nat → Int32) × Int32) → Prop) (h : wp_ti_dropFirst p1 ti_keys ti_times ti_count post) : Met l yX6_dropFirst (hk_ws yX6_dropFirst cX6_dropFirst 2 none) (hk_rm 1 40) (va_Pc [.ref h_ti, .int p1] (hk_PM D (hk_ty cI cJ cZ cM) sz (wv_ti cI cJ cZ cM h_ti a_ti ti_keys ti_times ti_count ti_now))) (va_Qv post (hk_B D (va_A (wv_ti cI cJ cZ cM h_ti a_ti ti_keys ti_times ti_count ti_now) sz) (fun (u : (Nat → Int32) × (Nat → Int32) × Int32) => wv_ti cI cJ cZ cM h_ti a_ti u.1 u.2.1 u.2.2 ti_now)) (va_A (wv_ti cI cJ cZ cM h_ti a_ti ti_keys ti_times ti_count ti_now) sz)) 0 0 (va_A (wv_ti cI cJ cZ cM h_ti a_ti ti_keys ti_times ti_count ti_now) sz) := by
  refine Met.ofW (cc := cX6_dropFirst) (maxL := 2) (ret := none) (by decide) rfl ?_
  intro p e s m args below meth c s₁ B hml hv
  obtain ⟨rfl, hsz, hP, hK, hD0, hN⟩ := hv
  have hx := B.exec
  have hb := B.bytes
  have hr := B.returns
  have hts := atoms_spec (ws := hk_ws yX6_dropFirst cX6_dropFirst 2 none) B.pre
  have hta : ∀ w ∈ hk_all, w.before ([.ref h_ti, .int p1] : List Value).toArray s = true := fun w hw => hts w (List.mem_cons_of_mem _ hw)
  have hown : s.vm.findClass RX6 = some m.cls := findClass_of_methodNamed B.named
  have hlocks := B.notSynchronized
  have S0 : CallFix p m c cX6_dropFirst 2 s ([.ref h_ti, .int p1] : List Value).toArray hk_all RX6 := ⟨hx, hb, hml, hown, hta⟩
  subst hsz
  have hD := hD0.self (sz := s.heap.size)
  generalize hAe : va_A (wv_ti cI cJ cZ cM h_ti a_ti ti_keys ti_times ti_count ti_now) s.heap.size = A at hD ⊢
  have hA : ∀ q : Nat, s.heap.size ≤ q → A q := fun q h => by rw [← hAe]; exact Or.inr h
  have hS : va_S A s.heap s.heap [] := va_S.rf
  have hl := lv_entry ([.ref h_ti, .int p1]) (n := 2) (Nat.le_of_ble_eq_true rfl)
  rw [lg_entry_eq]
  generalize (lg_sl ([.ref h_ti, .int p1]) ++ List.replicate (2 - (lg_sl ([.ref h_ti, .int p1])).length) Slot.unset).toArray = ls at hl ⊢
  have hl : lv_has ls 2 [(0, .ref h_ti), (1, .int p1)] := hl
  unfold wp_ti_dropFirst at h
  refine lv_aload_n hx hb dX6_dropFirst_0 rfl (lv_at hl 0 rfl) ?_
  refine lv_dup hx hb dX6_dropFirst_1 rfl ?_
  refine va_get (D := D) (ci := 6) (v := .int ti_count) (C := RX6) (T := TX6) (N := 4) hx hb hta ih_X6 hown hK hP 0 rfl rfl 2 (by decide) (hta _ hw_206) (fun _ h9 => h9) rfl dX6_dropFirst_2 ?_
  refine lv_iload_n hx hb dX6_dropFirst_5 rfl (lv_at hl 1 rfl) ?_
  refine lv_isub hx hb dX6_dropFirst_6 ?_
  refine lv_topi (fun x1 ex1 => ?_)
  have h := h x1 ex1
  refine va_put (D := D) (ci := 6) (v := .int x1) (ty := .int) (C := RX6) (T := TX6) (N := 4) hx hb hta ih_X6 tyX6 tyX6_ok nmX6 hown hK hP hD hS 0 rfl rfl 2 (by decide) (hta _ hw_206) (fun _ h9 => h9) rfl (by decide +kernel) rfl rfl (Nat.le_of_ble_eq_true rfl) dX6_dropFirst_7 (fun H locs hP hD hS => ?_)
  have hP : va_P D vwCl (wv_ti cI cJ cZ cM h_ti a_ti ti_keys ti_times x1 ti_now) H := hP
  have hD : va_D A (wv_ti cI cJ cZ cM h_ti a_ti ti_keys ti_times x1 ti_now) := hD
  refine lv_aload_n hx hb dX6_dropFirst_10 rfl (lv_at hl 0 rfl) ?_
  refine va_get (D := D) (ci := 6) (v := .ref (a_ti 0)) (C := RX6) (T := TX6) (N := 4) hx hb hta ih_X6 hown hK hP 0 rfl rfl 0 (by decide) (hta _ hw_202) (fun _ h9 => h9) rfl dX6_dropFirst_11 ?_
  refine lv_iload_n hx hb dX6_dropFirst_14 rfl (lv_at hl 1 rfl) ?_
  refine lv_aload_n hx hb dX6_dropFirst_15 rfl (lv_at hl 0 rfl) ?_
  refine va_get (D := D) (ci := 6) (v := .ref (a_ti 0)) (C := RX6) (T := TX6) (N := 4) hx hb hta ih_X6 hown hK hP 0 rfl rfl 0 (by decide) (hta _ hw_202) (fun _ h9 => h9) rfl dX6_dropFirst_16 ?_
  refine lv_iconst (v := 0) hx hb dX6_dropFirst_19 (by decide) ?_
  refine lv_aload_n hx hb dX6_dropFirst_20 rfl (lv_at hl 0 rfl) ?_
  refine va_get (D := D) (ci := 6) (v := .int x1) (C := RX6) (T := TX6) (N := 4) hx hb hta ih_X6 hown hK hP 0 rfl rfl 2 (by decide) (hta _ hw_206) (fun _ h9 => h9) rfl dX6_dropFirst_21 ?_
  refine va_copyi hx hb (hml.trans hl.1.symm) hown (hta _ hw_601) (hta _ hw_603) (hta _ hw_602) (hta _ hw_89) hK hP hD hS 1 1 0 0 rfl rfl rfl rfl rfl h.1 h.2.1 h.2.2.1 h.2.2.2.1 h.2.2.2.2.1 (fun _ _ => rfl) (Nat.le_of_ble_eq_true rfl) (Nat.le_of_ble_eq_true rfl) dX6_dropFirst_24 (fun H locs hP hD hS => ?_)
  have h := h.2.2.2.2.2
  have hP : va_P D vwCl (wv_ti cI cJ cZ cM h_ti a_ti (va_cpy ti_keys ti_keys p1.toNatClampNeg (0 : Int32).toNatClampNeg x1.toNatClampNeg) ti_times x1 ti_now) H := hP
  have hD : va_D A (wv_ti cI cJ cZ cM h_ti a_ti (va_cpy ti_keys ti_keys p1.toNatClampNeg (0 : Int32).toNatClampNeg x1.toNatClampNeg) ti_times x1 ti_now) := hD
  refine lv_aload_n hx hb dX6_dropFirst_27 rfl (lv_at hl 0 rfl) ?_
  refine va_get (D := D) (ci := 6) (v := .ref (a_ti 1)) (C := RX6) (T := TX6) (N := 4) hx hb hta ih_X6 hown hK hP 0 rfl rfl 1 (by decide) (hta _ hw_204) (fun _ h9 => h9) rfl dX6_dropFirst_28 ?_
  refine lv_iload_n hx hb dX6_dropFirst_31 rfl (lv_at hl 1 rfl) ?_
  refine lv_aload_n hx hb dX6_dropFirst_32 rfl (lv_at hl 0 rfl) ?_
  refine va_get (D := D) (ci := 6) (v := .ref (a_ti 1)) (C := RX6) (T := TX6) (N := 4) hx hb hta ih_X6 hown hK hP 0 rfl rfl 1 (by decide) (hta _ hw_204) (fun _ h9 => h9) rfl dX6_dropFirst_33 ?_
  refine lv_iconst (v := 0) hx hb dX6_dropFirst_36 (by decide) ?_
  refine lv_aload_n hx hb dX6_dropFirst_37 rfl (lv_at hl 0 rfl) ?_
  refine va_get (D := D) (ci := 6) (v := .int x1) (C := RX6) (T := TX6) (N := 4) hx hb hta ih_X6 hown hK hP 0 rfl rfl 2 (by decide) (hta _ hw_206) (fun _ h9 => h9) rfl dX6_dropFirst_38 ?_
  refine va_copyi hx hb (hml.trans hl.1.symm) hown (hta _ hw_601) (hta _ hw_603) (hta _ hw_602) (hta _ hw_89) hK hP hD hS 2 2 0 0 rfl rfl rfl rfl rfl h.1 h.2.1 h.2.2.1 h.2.2.2.1 h.2.2.2.2.1 (fun _ _ => rfl) (Nat.le_of_ble_eq_true rfl) (Nat.le_of_ble_eq_true rfl) dX6_dropFirst_41 (fun H locs hP hD hS => ?_)
  have h := h.2.2.2.2.2
  have hP : va_P D vwCl (wv_ti cI cJ cZ cM h_ti a_ti (va_cpy ti_keys ti_keys p1.toNatClampNeg (0 : Int32).toNatClampNeg x1.toNatClampNeg) (va_cpy ti_times ti_times p1.toNatClampNeg (0 : Int32).toNatClampNeg x1.toNatClampNeg) x1 ti_now) H := hP
  have hD : va_D A (wv_ti cI cJ cZ cM h_ti a_ti (va_cpy ti_keys ti_keys p1.toNatClampNeg (0 : Int32).toNatClampNeg x1.toNatClampNeg) (va_cpy ti_times ti_times p1.toNatClampNeg (0 : Int32).toNatClampNeg x1.toNatClampNeg) x1 ti_now) := hD
  exact W.vret hx hb hr (fun t ht hW => ⟨⟨(va_cpy ti_keys ti_keys p1.toNatClampNeg (0 : Int32).toNatClampNeg x1.toNatClampNeg, va_cpy ti_times ti_times p1.toNatClampNeg (0 : Int32).toNatClampNeg x1.toNatClampNeg, x1), rfl, h, by rw [ht]; exact hP, hD⟩, hS.F ht⟩) hS.2.2 dX6_dropFirst_44
def wp_ti_copyFrom  (ti_keys : Nat → Int32) (ti_times : Nat → Int32) (ti2_keys : Nat → Int32) (ti2_times : Nat → Int32) (ti2_count : Int32) (ti2_now : Int32) (post : ((Nat → Int32) × (Nat → Int32) × Int32 × Int32) → Prop) : Prop := (¬ (0 : Int32) < 0) ∧ (¬ (0 : Int32) < 0) ∧ (¬ ti2_count < 0) ∧ ((0 : Int32).toNatClampNeg + ti2_count.toNatClampNeg ≤ 40) ∧ ((0 : Int32).toNatClampNeg + ti2_count.toNatClampNeg ≤ 40) ∧ ((¬ (0 : Int32) < 0) ∧ (¬ (0 : Int32) < 0) ∧ (¬ ti2_count < 0) ∧ ((0 : Int32).toNatClampNeg + ti2_count.toNatClampNeg ≤ 40) ∧ ((0 : Int32).toNatClampNeg + ti2_count.toNatClampNeg ≤ 40) ∧ (post (va_cpy ti2_keys ti_keys (0 : Int32).toNatClampNeg (0 : Int32).toNatClampNeg ti2_count.toNatClampNeg, va_cpy ti2_times ti_times (0 : Int32).toNatClampNeg (0 : Int32).toNatClampNeg ti2_count.toNatClampNeg, ti2_count, ti2_now)))
theorem mm_ti_copyFrom : hk_MV yX6_copyFrom cX6_copyFrom 2 none 1 := ⟨hw_693, hw_692, hw_52, hw_84, by decide +kernel⟩
set_option maxRecDepth 100000 in
set_option maxHeartbeats 4000000 in
theorem c_ti_copyFrom (l : Launch) (D : va_G) (cI cJ cZ cM : ClassId) (h_ti : Nat) (a_ti : Nat → Nat) (h_ti2 : Nat) (a_ti2 : Nat → Nat) (sz : Nat) (ti_keys : Nat → Int32) (ti_times : Nat → Int32) (ti_count : Int32) (ti_now : Int32) (ti2_keys : Nat → Int32) (ti2_times : Nat → Int32) (ti2_count : Int32) (ti2_now : Int32)  (post : ((Nat → Int32) × (Nat → Int32) × Int32 × Int32) → Prop) (h : wp_ti_copyFrom ti_keys ti_times ti2_keys ti2_times ti2_count ti2_now post) : Met l yX6_copyFrom (hk_ws yX6_copyFrom cX6_copyFrom 2 none) (hk_rm 1 40) (va_Pc [.ref h_ti, .ref h_ti2] (hk_PM D (hk_ty cI cJ cZ cM) sz ((wv_ti cI cJ cZ cM h_ti a_ti ti_keys ti_times ti_count ti_now) ++ (wv_ti cI cJ cZ cM h_ti2 a_ti2 ti2_keys ti2_times ti2_count ti2_now)))) (va_Qv post (hk_B D (va_A ((wv_ti cI cJ cZ cM h_ti a_ti ti_keys ti_times ti_count ti_now) ++ (wv_ti cI cJ cZ cM h_ti2 a_ti2 ti2_keys ti2_times ti2_count ti2_now)) sz) (fun (u : (Nat → Int32) × (Nat → Int32) × Int32 × Int32) => (wv_ti cI cJ cZ cM h_ti a_ti u.1 u.2.1 u.2.2.1 u.2.2.2) ++ (wv_ti cI cJ cZ cM h_ti2 a_ti2 ti2_keys ti2_times ti2_count ti2_now))) (va_A ((wv_ti cI cJ cZ cM h_ti a_ti ti_keys ti_times ti_count ti_now) ++ (wv_ti cI cJ cZ cM h_ti2 a_ti2 ti2_keys ti2_times ti2_count ti2_now)) sz)) 0 0 (va_A ((wv_ti cI cJ cZ cM h_ti a_ti ti_keys ti_times ti_count ti_now) ++ (wv_ti cI cJ cZ cM h_ti2 a_ti2 ti2_keys ti2_times ti2_count ti2_now)) sz) := by
  refine Met.ofW (cc := cX6_copyFrom) (maxL := 2) (ret := none) (by decide) rfl ?_
  intro p e s m args below meth c s₁ B hml hv
  obtain ⟨rfl, hsz, hP, hK, hD0, hN⟩ := hv
  have hx := B.exec
  have hb := B.bytes
  have hr := B.returns
  have hts := atoms_spec (ws := hk_ws yX6_copyFrom cX6_copyFrom 2 none) B.pre
  have hta : ∀ w ∈ hk_all, w.before ([.ref h_ti, .ref h_ti2] : List Value).toArray s = true := fun w hw => hts w (List.mem_cons_of_mem _ hw)
  have hown : s.vm.findClass RX6 = some m.cls := findClass_of_methodNamed B.named
  have hlocks := B.notSynchronized
  have S0 : CallFix p m c cX6_copyFrom 2 s ([.ref h_ti, .ref h_ti2] : List Value).toArray hk_all RX6 := ⟨hx, hb, hml, hown, hta⟩
  subst hsz
  have hD := hD0.self (sz := s.heap.size)
  generalize hAe : va_A ((wv_ti cI cJ cZ cM h_ti a_ti ti_keys ti_times ti_count ti_now) ++ (wv_ti cI cJ cZ cM h_ti2 a_ti2 ti2_keys ti2_times ti2_count ti2_now)) s.heap.size = A at hD ⊢
  have hA : ∀ q : Nat, s.heap.size ≤ q → A q := fun q h => by rw [← hAe]; exact Or.inr h
  have hS : va_S A s.heap s.heap [] := va_S.rf
  have hl := lv_entry ([.ref h_ti, .ref h_ti2]) (n := 2) (Nat.le_of_ble_eq_true rfl)
  rw [lg_entry_eq]
  generalize (lg_sl ([.ref h_ti, .ref h_ti2]) ++ List.replicate (2 - (lg_sl ([.ref h_ti, .ref h_ti2])).length) Slot.unset).toArray = ls at hl ⊢
  have hl : lv_has ls 2 [(0, .ref h_ti), (1, .ref h_ti2)] := hl
  unfold wp_ti_copyFrom at h
  refine lv_aload_n hx hb dX6_copyFrom_0 rfl (lv_at hl 1 rfl) ?_
  refine va_get (D := D) (ci := 6) (v := .ref (a_ti2 0)) (C := RX6) (T := TX6) (N := 4) hx hb hta ih_X6 hown hK hP 3 rfl rfl 0 (by decide) (hta _ hw_202) (fun _ h9 => h9) rfl dX6_copyFrom_1 ?_
  refine lv_iconst (v := 0) hx hb dX6_copyFrom_4 (by decide) ?_
  refine lv_aload_n hx hb dX6_copyFrom_5 rfl (lv_at hl 0 rfl) ?_
  refine va_get (D := D) (ci := 6) (v := .ref (a_ti 0)) (C := RX6) (T := TX6) (N := 4) hx hb hta ih_X6 hown hK hP 0 rfl rfl 0 (by decide) (hta _ hw_202) (fun _ h9 => h9) rfl dX6_copyFrom_6 ?_
  refine lv_iconst (v := 0) hx hb dX6_copyFrom_9 (by decide) ?_
  refine lv_aload_n hx hb dX6_copyFrom_10 rfl (lv_at hl 1 rfl) ?_
  refine va_get (D := D) (ci := 6) (v := .int ti2_count) (C := RX6) (T := TX6) (N := 4) hx hb hta ih_X6 hown hK hP 3 rfl rfl 2 (by decide) (hta _ hw_206) (fun _ h9 => h9) rfl dX6_copyFrom_11 ?_
  refine va_copyi hx hb (hml.trans hl.1.symm) hown (hta _ hw_601) (hta _ hw_603) (hta _ hw_602) (hta _ hw_89) hK hP hD hS 4 1 0 0 rfl rfl rfl rfl rfl h.1 h.2.1 h.2.2.1 h.2.2.2.1 h.2.2.2.2.1 (fun _ _ => rfl) (Nat.le_of_ble_eq_true rfl) (Nat.le_of_ble_eq_true rfl) dX6_copyFrom_14 (fun H locs hP hD hS => ?_)
  have h := h.2.2.2.2.2
  have hP : va_P D vwCl ((wv_ti cI cJ cZ cM h_ti a_ti (va_cpy ti2_keys ti_keys (0 : Int32).toNatClampNeg (0 : Int32).toNatClampNeg ti2_count.toNatClampNeg) ti_times ti_count ti_now) ++ (wv_ti cI cJ cZ cM h_ti2 a_ti2 ti2_keys ti2_times ti2_count ti2_now)) H := hP
  have hD : va_D A ((wv_ti cI cJ cZ cM h_ti a_ti (va_cpy ti2_keys ti_keys (0 : Int32).toNatClampNeg (0 : Int32).toNatClampNeg ti2_count.toNatClampNeg) ti_times ti_count ti_now) ++ (wv_ti cI cJ cZ cM h_ti2 a_ti2 ti2_keys ti2_times ti2_count ti2_now)) := hD
  refine lv_aload_n hx hb dX6_copyFrom_17 rfl (lv_at hl 1 rfl) ?_
  refine va_get (D := D) (ci := 6) (v := .ref (a_ti2 1)) (C := RX6) (T := TX6) (N := 4) hx hb hta ih_X6 hown hK hP 3 rfl rfl 1 (by decide) (hta _ hw_204) (fun _ h9 => h9) rfl dX6_copyFrom_18 ?_
  refine lv_iconst (v := 0) hx hb dX6_copyFrom_21 (by decide) ?_
  refine lv_aload_n hx hb dX6_copyFrom_22 rfl (lv_at hl 0 rfl) ?_
  refine va_get (D := D) (ci := 6) (v := .ref (a_ti 1)) (C := RX6) (T := TX6) (N := 4) hx hb hta ih_X6 hown hK hP 0 rfl rfl 1 (by decide) (hta _ hw_204) (fun _ h9 => h9) rfl dX6_copyFrom_23 ?_
  refine lv_iconst (v := 0) hx hb dX6_copyFrom_26 (by decide) ?_
  refine lv_aload_n hx hb dX6_copyFrom_27 rfl (lv_at hl 1 rfl) ?_
  refine va_get (D := D) (ci := 6) (v := .int ti2_count) (C := RX6) (T := TX6) (N := 4) hx hb hta ih_X6 hown hK hP 3 rfl rfl 2 (by decide) (hta _ hw_206) (fun _ h9 => h9) rfl dX6_copyFrom_28 ?_
  refine va_copyi hx hb (hml.trans hl.1.symm) hown (hta _ hw_601) (hta _ hw_603) (hta _ hw_602) (hta _ hw_89) hK hP hD hS 5 2 0 0 rfl rfl rfl rfl rfl h.1 h.2.1 h.2.2.1 h.2.2.2.1 h.2.2.2.2.1 (fun _ _ => rfl) (Nat.le_of_ble_eq_true rfl) (Nat.le_of_ble_eq_true rfl) dX6_copyFrom_31 (fun H locs hP hD hS => ?_)
  have h := h.2.2.2.2.2
  have hP : va_P D vwCl ((wv_ti cI cJ cZ cM h_ti a_ti (va_cpy ti2_keys ti_keys (0 : Int32).toNatClampNeg (0 : Int32).toNatClampNeg ti2_count.toNatClampNeg) (va_cpy ti2_times ti_times (0 : Int32).toNatClampNeg (0 : Int32).toNatClampNeg ti2_count.toNatClampNeg) ti_count ti_now) ++ (wv_ti cI cJ cZ cM h_ti2 a_ti2 ti2_keys ti2_times ti2_count ti2_now)) H := hP
  have hD : va_D A ((wv_ti cI cJ cZ cM h_ti a_ti (va_cpy ti2_keys ti_keys (0 : Int32).toNatClampNeg (0 : Int32).toNatClampNeg ti2_count.toNatClampNeg) (va_cpy ti2_times ti_times (0 : Int32).toNatClampNeg (0 : Int32).toNatClampNeg ti2_count.toNatClampNeg) ti_count ti_now) ++ (wv_ti cI cJ cZ cM h_ti2 a_ti2 ti2_keys ti2_times ti2_count ti2_now)) := hD
  refine lv_aload_n hx hb dX6_copyFrom_34 rfl (lv_at hl 0 rfl) ?_
  refine lv_aload_n hx hb dX6_copyFrom_35 rfl (lv_at hl 1 rfl) ?_
  refine va_get (D := D) (ci := 6) (v := .int ti2_count) (C := RX6) (T := TX6) (N := 4) hx hb hta ih_X6 hown hK hP 3 rfl rfl 2 (by decide) (hta _ hw_206) (fun _ h9 => h9) rfl dX6_copyFrom_36 ?_
  refine va_put (D := D) (ci := 6) (v := .int ti2_count) (ty := .int) (C := RX6) (T := TX6) (N := 4) hx hb hta ih_X6 tyX6 tyX6_ok nmX6 hown hK hP hD hS 0 rfl rfl 2 (by decide) (hta _ hw_206) (fun _ h9 => h9) rfl (by decide +kernel) rfl rfl (Nat.le_of_ble_eq_true rfl) dX6_copyFrom_39 (fun H locs hP hD hS => ?_)
  have hP : va_P D vwCl ((wv_ti cI cJ cZ cM h_ti a_ti (va_cpy ti2_keys ti_keys (0 : Int32).toNatClampNeg (0 : Int32).toNatClampNeg ti2_count.toNatClampNeg) (va_cpy ti2_times ti_times (0 : Int32).toNatClampNeg (0 : Int32).toNatClampNeg ti2_count.toNatClampNeg) ti2_count ti_now) ++ (wv_ti cI cJ cZ cM h_ti2 a_ti2 ti2_keys ti2_times ti2_count ti2_now)) H := hP
  have hD : va_D A ((wv_ti cI cJ cZ cM h_ti a_ti (va_cpy ti2_keys ti_keys (0 : Int32).toNatClampNeg (0 : Int32).toNatClampNeg ti2_count.toNatClampNeg) (va_cpy ti2_times ti_times (0 : Int32).toNatClampNeg (0 : Int32).toNatClampNeg ti2_count.toNatClampNeg) ti2_count ti_now) ++ (wv_ti cI cJ cZ cM h_ti2 a_ti2 ti2_keys ti2_times ti2_count ti2_now)) := hD
  refine lv_aload_n hx hb dX6_copyFrom_42 rfl (lv_at hl 0 rfl) ?_
  refine lv_aload_n hx hb dX6_copyFrom_43 rfl (lv_at hl 1 rfl) ?_
  refine va_get (D := D) (ci := 6) (v := .int ti2_now) (C := RX6) (T := TX6) (N := 4) hx hb hta ih_X6 hown hK hP 3 rfl rfl 3 (by decide) (hta _ hw_208) (fun _ h9 => h9) rfl dX6_copyFrom_44 ?_
  refine va_put (D := D) (ci := 6) (v := .int ti2_now) (ty := .int) (C := RX6) (T := TX6) (N := 4) hx hb hta ih_X6 tyX6 tyX6_ok nmX6 hown hK hP hD hS 0 rfl rfl 3 (by decide) (hta _ hw_208) (fun _ h9 => h9) rfl (by decide +kernel) rfl rfl (Nat.le_of_ble_eq_true rfl) dX6_copyFrom_47 (fun H locs hP hD hS => ?_)
  have hP : va_P D vwCl ((wv_ti cI cJ cZ cM h_ti a_ti (va_cpy ti2_keys ti_keys (0 : Int32).toNatClampNeg (0 : Int32).toNatClampNeg ti2_count.toNatClampNeg) (va_cpy ti2_times ti_times (0 : Int32).toNatClampNeg (0 : Int32).toNatClampNeg ti2_count.toNatClampNeg) ti2_count ti2_now) ++ (wv_ti cI cJ cZ cM h_ti2 a_ti2 ti2_keys ti2_times ti2_count ti2_now)) H := hP
  have hD : va_D A ((wv_ti cI cJ cZ cM h_ti a_ti (va_cpy ti2_keys ti_keys (0 : Int32).toNatClampNeg (0 : Int32).toNatClampNeg ti2_count.toNatClampNeg) (va_cpy ti2_times ti_times (0 : Int32).toNatClampNeg (0 : Int32).toNatClampNeg ti2_count.toNatClampNeg) ti2_count ti2_now) ++ (wv_ti cI cJ cZ cM h_ti2 a_ti2 ti2_keys ti2_times ti2_count ti2_now)) := hD
  exact W.vret hx hb hr (fun t ht hW => ⟨⟨(va_cpy ti2_keys ti_keys (0 : Int32).toNatClampNeg (0 : Int32).toNatClampNeg ti2_count.toNatClampNeg, va_cpy ti2_times ti_times (0 : Int32).toNatClampNeg (0 : Int32).toNatClampNeg ti2_count.toNatClampNeg, ti2_count, ti2_now), rfl, h, by rw [ht]; exact hP, hD⟩, hS.F ht⟩) hS.2.2 dX6_copyFrom_50
end
