section
-- ===== PART A: goes FIRST, ahead of the names: the tables' words, and 'selects' of the private methods out of them =====
/-- a private method of a class that the tables say can be made, by its rows of tables_1 -/
def lw_okq (q : MethodName × Nat) : Prop := (q.1.cls ≠ "java/lang/invoke/MethodHandle" ∧ q.1.cls ≠ "java/lang/invoke/VarHandle") ∧ Cond.instantiable q.1.cls q.2 ∈ tables_1 ∧ Cond.privateMethod q.1 ∈ tables_1 ∧ Cond.instanceMethod q.1 ∈ tables_1
theorem lw_p0 : lw_okq (⟨"SugarDice$Tape", "hasRoomForFeed", "()Z"⟩, 2) := ⟨⟨by decide +kernel, by decide +kernel⟩, List.mem_of_getElem? (i := 35) (by decide +kernel), List.mem_of_getElem? (i := 270) (by decide +kernel), List.mem_of_getElem? (i := 271) (by decide +kernel)⟩
theorem lw_p1 : lw_okq (⟨"SugarDice$Tape", "put", "(I)V"⟩, 2) := ⟨⟨by decide +kernel, by decide +kernel⟩, List.mem_of_getElem? (i := 35) (by decide +kernel), List.mem_of_getElem? (i := 274) (by decide +kernel), List.mem_of_getElem? (i := 275) (by decide +kernel)⟩
theorem lw_p2 : lw_okq (⟨"SugarDice$Draws", "begin", "(I)V"⟩, 1) := ⟨⟨by decide +kernel, by decide +kernel⟩, List.mem_of_getElem? (i := 145) (by decide +kernel), List.mem_of_getElem? (i := 286) (by decide +kernel), List.mem_of_getElem? (i := 287) (by decide +kernel)⟩
theorem lw_p3 : lw_okq (⟨"SugarDice$Game", "drawLots", "(LSugarDice$Draws;)I"⟩, 8) := ⟨⟨by decide +kernel, by decide +kernel⟩, List.mem_of_getElem? (i := 104) (by decide +kernel), List.mem_of_getElem? (i := 290) (by decide +kernel), List.mem_of_getElem? (i := 291) (by decide +kernel)⟩
theorem lw_p4 : lw_okq (⟨"SugarDice$Draws", "draw", "()I"⟩, 1) := ⟨⟨by decide +kernel, by decide +kernel⟩, List.mem_of_getElem? (i := 145) (by decide +kernel), List.mem_of_getElem? (i := 294) (by decide +kernel), List.mem_of_getElem? (i := 295) (by decide +kernel)⟩
theorem lw_p5 : lw_okq (⟨"SugarDice$Game", "dieLeft", "(II)I"⟩, 8) := ⟨⟨by decide +kernel, by decide +kernel⟩, List.mem_of_getElem? (i := 104) (by decide +kernel), List.mem_of_getElem? (i := 299) (by decide +kernel), List.mem_of_getElem? (i := 300) (by decide +kernel)⟩
theorem lw_p6 : lw_okq (⟨"SugarDice$Beating", "strongestDie", "()I"⟩, 1) := ⟨⟨by decide +kernel, by decide +kernel⟩, List.mem_of_getElem? (i := 175) (by decide +kernel), List.mem_of_getElem? (i := 307) (by decide +kernel), List.mem_of_getElem? (i := 308) (by decide +kernel)⟩
theorem lw_p7 : lw_okq (⟨"SugarDice$Beating", "weakerOnes", "(I)I"⟩, 1) := ⟨⟨by decide +kernel, by decide +kernel⟩, List.mem_of_getElem? (i := 175) (by decide +kernel), List.mem_of_getElem? (i := 311) (by decide +kernel), List.mem_of_getElem? (i := 312) (by decide +kernel)⟩
theorem lw_p8 : lw_okq (⟨"SugarDice$Beating", "isBetter", "(II)Z"⟩, 1) := ⟨⟨by decide +kernel, by decide +kernel⟩, List.mem_of_getElem? (i := 175) (by decide +kernel), List.mem_of_getElem? (i := 315) (by decide +kernel), List.mem_of_getElem? (i := 316) (by decide +kernel)⟩
theorem lw_p9 : lw_okq (⟨"SugarDice$Beating", "waysToBeat", "(II)I"⟩, 1) := ⟨⟨by decide +kernel, by decide +kernel⟩, List.mem_of_getElem? (i := 175) (by decide +kernel), List.mem_of_getElem? (i := 319) (by decide +kernel), List.mem_of_getElem? (i := 320) (by decide +kernel)⟩
theorem lw_p10 : lw_okq (⟨"SugarDice$Game", "weight", "(II)I"⟩, 8) := ⟨⟨by decide +kernel, by decide +kernel⟩, List.mem_of_getElem? (i := 104) (by decide +kernel), List.mem_of_getElem? (i := 323) (by decide +kernel), List.mem_of_getElem? (i := 324) (by decide +kernel)⟩
theorem lw_p11 : lw_okq (⟨"SugarDice$Game", "isGone", "(I)Z"⟩, 8) := ⟨⟨by decide +kernel, by decide +kernel⟩, List.mem_of_getElem? (i := 104) (by decide +kernel), List.mem_of_getElem? (i := 327) (by decide +kernel), List.mem_of_getElem? (i := 328) (by decide +kernel)⟩
theorem lw_p12 : lw_okq (⟨"SugarDice$Game", "total", "(I)I"⟩, 8) := ⟨⟨by decide +kernel, by decide +kernel⟩, List.mem_of_getElem? (i := 104) (by decide +kernel), List.mem_of_getElem? (i := 331) (by decide +kernel), List.mem_of_getElem? (i := 332) (by decide +kernel)⟩
theorem lw_p13 : lw_okq (⟨"SugarDice$Beating", "ringAt", "(I)I"⟩, 1) := ⟨⟨by decide +kernel, by decide +kernel⟩, List.mem_of_getElem? (i := 175) (by decide +kernel), List.mem_of_getElem? (i := 340) (by decide +kernel), List.mem_of_getElem? (i := 341) (by decide +kernel)⟩
theorem lw_p14 : lw_okq (⟨"SugarDice$Beating", "evenestTwo", "()I"⟩, 1) := ⟨⟨by decide +kernel, by decide +kernel⟩, List.mem_of_getElem? (i := 175) (by decide +kernel), List.mem_of_getElem? (i := 348) (by decide +kernel), List.mem_of_getElem? (i := 349) (by decide +kernel)⟩
theorem lw_p15 : lw_okq (⟨"SugarDice$Ledger", "farthestOff", "()I"⟩, 1) := ⟨⟨by decide +kernel, by decide +kernel⟩, List.mem_of_getElem? (i := 201) (by decide +kernel), List.mem_of_getElem? (i := 360) (by decide +kernel), List.mem_of_getElem? (i := 361) (by decide +kernel)⟩
def lw_privs_1 : List (MethodName × Nat) := [(⟨"SugarDice$Tape", "hasRoomForFeed", "()Z"⟩, 2), (⟨"SugarDice$Tape", "put", "(I)V"⟩, 2), (⟨"SugarDice$Draws", "begin", "(I)V"⟩, 1), (⟨"SugarDice$Game", "drawLots", "(LSugarDice$Draws;)I"⟩, 8), (⟨"SugarDice$Draws", "draw", "()I"⟩, 1), (⟨"SugarDice$Game", "dieLeft", "(II)I"⟩, 8), (⟨"SugarDice$Beating", "strongestDie", "()I"⟩, 1), (⟨"SugarDice$Beating", "weakerOnes", "(I)I"⟩, 1), (⟨"SugarDice$Beating", "isBetter", "(II)Z"⟩, 1), (⟨"SugarDice$Beating", "waysToBeat", "(II)I"⟩, 1), (⟨"SugarDice$Game", "weight", "(II)I"⟩, 8), (⟨"SugarDice$Game", "isGone", "(I)Z"⟩, 8), (⟨"SugarDice$Game", "total", "(I)I"⟩, 8), (⟨"SugarDice$Beating", "ringAt", "(I)I"⟩, 1), (⟨"SugarDice$Beating", "evenestTwo", "()I"⟩, 1), (⟨"SugarDice$Ledger", "farthestOff", "()I"⟩, 1)]
theorem lw_r1 : ∀ q ∈ lw_privs_1, lw_okq q := List.forall_mem_cons.mpr ⟨lw_p0, List.forall_mem_cons.mpr ⟨lw_p1, List.forall_mem_cons.mpr ⟨lw_p2, List.forall_mem_cons.mpr ⟨lw_p3, List.forall_mem_cons.mpr ⟨lw_p4, List.forall_mem_cons.mpr ⟨lw_p5, List.forall_mem_cons.mpr ⟨lw_p6, List.forall_mem_cons.mpr ⟨lw_p7, List.forall_mem_cons.mpr ⟨lw_p8, List.forall_mem_cons.mpr ⟨lw_p9, List.forall_mem_cons.mpr ⟨lw_p10, List.forall_mem_cons.mpr ⟨lw_p11, List.forall_mem_cons.mpr ⟨lw_p12, List.forall_mem_cons.mpr ⟨lw_p13, List.forall_mem_cons.mpr ⟨lw_p14, List.forall_mem_cons.mpr ⟨lw_p15, fun _ h => absurd h List.not_mem_nil⟩⟩⟩⟩⟩⟩⟩⟩⟩⟩⟩⟩⟩⟩⟩⟩
theorem lw_p16 : lw_okq (⟨"SugarDice$Ledger", "howFarOff", "(I)I"⟩, 1) := ⟨⟨by decide +kernel, by decide +kernel⟩, List.mem_of_getElem? (i := 201) (by decide +kernel), List.mem_of_getElem? (i := 364) (by decide +kernel), List.mem_of_getElem? (i := 365) (by decide +kernel)⟩
theorem lw_p17 : lw_okq (⟨"SugarDice$Ledger", "throwsOfDie", "(I)I"⟩, 1) := ⟨⟨by decide +kernel, by decide +kernel⟩, List.mem_of_getElem? (i := 201) (by decide +kernel), List.mem_of_getElem? (i := 368) (by decide +kernel), List.mem_of_getElem? (i := 369) (by decide +kernel)⟩
theorem lw_p18 : lw_okq (⟨"SugarDice$Game", "dieOfThrow", "(I)I"⟩, 8) := ⟨⟨by decide +kernel, by decide +kernel⟩, List.mem_of_getElem? (i := 104) (by decide +kernel), List.mem_of_getElem? (i := 372) (by decide +kernel), List.mem_of_getElem? (i := 373) (by decide +kernel)⟩
theorem lw_p19 : lw_okq (⟨"SugarDice$Game", "toldThrow", "(I)I"⟩, 8) := ⟨⟨by decide +kernel, by decide +kernel⟩, List.mem_of_getElem? (i := 104) (by decide +kernel), List.mem_of_getElem? (i := 376) (by decide +kernel), List.mem_of_getElem? (i := 377) (by decide +kernel)⟩
theorem lw_p20 : lw_okq (⟨"SugarDice$Ledger", "timesShown", "(II)I"⟩, 1) := ⟨⟨by decide +kernel, by decide +kernel⟩, List.mem_of_getElem? (i := 201) (by decide +kernel), List.mem_of_getElem? (i := 380) (by decide +kernel), List.mem_of_getElem? (i := 381) (by decide +kernel)⟩
theorem lw_p21 : lw_okq (⟨"SugarDice$Game", "faceOfThrow", "(I)I"⟩, 8) := ⟨⟨by decide +kernel, by decide +kernel⟩, List.mem_of_getElem? (i := 104) (by decide +kernel), List.mem_of_getElem? (i := 384) (by decide +kernel), List.mem_of_getElem? (i := 385) (by decide +kernel)⟩
theorem lw_p22 : lw_okq (⟨"SugarDice$Game", "goneDice", "()I"⟩, 8) := ⟨⟨by decide +kernel, by decide +kernel⟩, List.mem_of_getElem? (i := 104) (by decide +kernel), List.mem_of_getElem? (i := 393) (by decide +kernel), List.mem_of_getElem? (i := 394) (by decide +kernel)⟩
theorem lw_p23 : lw_okq (⟨"SugarDice$Game", "allTotals", "()I"⟩, 8) := ⟨⟨by decide +kernel, by decide +kernel⟩, List.mem_of_getElem? (i := 104) (by decide +kernel), List.mem_of_getElem? (i := 398) (by decide +kernel), List.mem_of_getElem? (i := 399) (by decide +kernel)⟩
theorem lw_p24 : lw_okq (⟨"java/lang/Throwable", "fillInStackTrace", "(I)Ljava/lang/Throwable;"⟩, 6) := ⟨⟨by decide +kernel, by decide +kernel⟩, List.mem_of_getElem? (i := 449) (by decide +kernel), List.mem_of_getElem? (i := 447) (by decide +kernel), List.mem_of_getElem? (i := 448) (by decide +kernel)⟩
theorem lw_p25 : lw_okq (⟨"SugarDice$TableText", "read", "(I)V"⟩, 13) := ⟨⟨by decide +kernel, by decide +kernel⟩, List.mem_of_getElem? (i := 50) (by decide +kernel), List.mem_of_getElem? (i := 478) (by decide +kernel), List.mem_of_getElem? (i := 479) (by decide +kernel)⟩
theorem lw_p26 : lw_okq (⟨"SugarDice$TableText", "clear", "()V"⟩, 13) := ⟨⟨by decide +kernel, by decide +kernel⟩, List.mem_of_getElem? (i := 50) (by decide +kernel), List.mem_of_getElem? (i := 482) (by decide +kernel), List.mem_of_getElem? (i := 483) (by decide +kernel)⟩
theorem lw_p27 : lw_okq (⟨"SugarDice$TableText", "nextToken", "()V"⟩, 13) := ⟨⟨by decide +kernel, by decide +kernel⟩, List.mem_of_getElem? (i := 50) (by decide +kernel), List.mem_of_getElem? (i := 486) (by decide +kernel), List.mem_of_getElem? (i := 487) (by decide +kernel)⟩
theorem lw_p28 : lw_okq (⟨"SugarDice$Tape", "byteAt", "(I)I"⟩, 2) := ⟨⟨by decide +kernel, by decide +kernel⟩, List.mem_of_getElem? (i := 35) (by decide +kernel), List.mem_of_getElem? (i := 490) (by decide +kernel), List.mem_of_getElem? (i := 491) (by decide +kernel)⟩
theorem lw_p29 : lw_okq (⟨"SugarDice$TableText", "nextNumber", "()V"⟩, 13) := ⟨⟨by decide +kernel, by decide +kernel⟩, List.mem_of_getElem? (i := 50) (by decide +kernel), List.mem_of_getElem? (i := 500) (by decide +kernel), List.mem_of_getElem? (i := 501) (by decide +kernel)⟩
theorem lw_p30 : lw_okq (⟨"SugarDice$TableText", "nextWord", "()V"⟩, 13) := ⟨⟨by decide +kernel, by decide +kernel⟩, List.mem_of_getElem? (i := 50) (by decide +kernel), List.mem_of_getElem? (i := 507) (by decide +kernel), List.mem_of_getElem? (i := 508) (by decide +kernel)⟩
theorem lw_p31 : lw_okq (⟨"SugarDice$TableText", "isWord", "(Ljava/lang/String;)Z"⟩, 13) := ⟨⟨by decide +kernel, by decide +kernel⟩, List.mem_of_getElem? (i := 50) (by decide +kernel), List.mem_of_getElem? (i := 512) (by decide +kernel), List.mem_of_getElem? (i := 513) (by decide +kernel)⟩
def lw_privs_2 : List (MethodName × Nat) := [(⟨"SugarDice$Ledger", "howFarOff", "(I)I"⟩, 1), (⟨"SugarDice$Ledger", "throwsOfDie", "(I)I"⟩, 1), (⟨"SugarDice$Game", "dieOfThrow", "(I)I"⟩, 8), (⟨"SugarDice$Game", "toldThrow", "(I)I"⟩, 8), (⟨"SugarDice$Ledger", "timesShown", "(II)I"⟩, 1), (⟨"SugarDice$Game", "faceOfThrow", "(I)I"⟩, 8), (⟨"SugarDice$Game", "goneDice", "()I"⟩, 8), (⟨"SugarDice$Game", "allTotals", "()I"⟩, 8), (⟨"java/lang/Throwable", "fillInStackTrace", "(I)Ljava/lang/Throwable;"⟩, 6), (⟨"SugarDice$TableText", "read", "(I)V"⟩, 13), (⟨"SugarDice$TableText", "clear", "()V"⟩, 13), (⟨"SugarDice$TableText", "nextToken", "()V"⟩, 13), (⟨"SugarDice$Tape", "byteAt", "(I)I"⟩, 2), (⟨"SugarDice$TableText", "nextNumber", "()V"⟩, 13), (⟨"SugarDice$TableText", "nextWord", "()V"⟩, 13), (⟨"SugarDice$TableText", "isWord", "(Ljava/lang/String;)Z"⟩, 13)]
theorem lw_r2 : ∀ q ∈ lw_privs_2, lw_okq q := List.forall_mem_cons.mpr ⟨lw_p16, List.forall_mem_cons.mpr ⟨lw_p17, List.forall_mem_cons.mpr ⟨lw_p18, List.forall_mem_cons.mpr ⟨lw_p19, List.forall_mem_cons.mpr ⟨lw_p20, List.forall_mem_cons.mpr ⟨lw_p21, List.forall_mem_cons.mpr ⟨lw_p22, List.forall_mem_cons.mpr ⟨lw_p23, List.forall_mem_cons.mpr ⟨lw_p24, List.forall_mem_cons.mpr ⟨lw_p25, List.forall_mem_cons.mpr ⟨lw_p26, List.forall_mem_cons.mpr ⟨lw_p27, List.forall_mem_cons.mpr ⟨lw_p28, List.forall_mem_cons.mpr ⟨lw_p29, List.forall_mem_cons.mpr ⟨lw_p30, List.forall_mem_cons.mpr ⟨lw_p31, fun _ h => absurd h List.not_mem_nil⟩⟩⟩⟩⟩⟩⟩⟩⟩⟩⟩⟩⟩⟩⟩⟩
theorem lw_p32 : lw_okq (⟨"SugarDice$TableText", "readsLine", "()Z"⟩, 13) := ⟨⟨by decide +kernel, by decide +kernel⟩, List.mem_of_getElem? (i := 50) (by decide +kernel), List.mem_of_getElem? (i := 567) (by decide +kernel), List.mem_of_getElem? (i := 568) (by decide +kernel)⟩
theorem lw_p33 : lw_okq (⟨"SugarDice$TableText", "readsDie", "()Z"⟩, 13) := ⟨⟨by decide +kernel, by decide +kernel⟩, List.mem_of_getElem? (i := 50) (by decide +kernel), List.mem_of_getElem? (i := 571) (by decide +kernel), List.mem_of_getElem? (i := 572) (by decide +kernel)⟩
theorem lw_p34 : lw_okq (⟨"SugarDice$TableText", "isFaulty", "(I)Z"⟩, 13) := ⟨⟨by decide +kernel, by decide +kernel⟩, List.mem_of_getElem? (i := 50) (by decide +kernel), List.mem_of_getElem? (i := 575) (by decide +kernel), List.mem_of_getElem? (i := 576) (by decide +kernel)⟩
theorem lw_p35 : lw_okq (⟨"SugarDice$TableText", "readsNumber", "(II)Z"⟩, 13) := ⟨⟨by decide +kernel, by decide +kernel⟩, List.mem_of_getElem? (i := 50) (by decide +kernel), List.mem_of_getElem? (i := 579) (by decide +kernel), List.mem_of_getElem? (i := 580) (by decide +kernel)⟩
theorem lw_p36 : lw_okq (⟨"SugarDice$TableText", "readsHand", "()Z"⟩, 13) := ⟨⟨by decide +kernel, by decide +kernel⟩, List.mem_of_getElem? (i := 50) (by decide +kernel), List.mem_of_getElem? (i := 583) (by decide +kernel), List.mem_of_getElem? (i := 584) (by decide +kernel)⟩
theorem lw_p37 : lw_okq (⟨"SugarDice$TableText", "readsAnts", "()Z"⟩, 13) := ⟨⟨by decide +kernel, by decide +kernel⟩, List.mem_of_getElem? (i := 50) (by decide +kernel), List.mem_of_getElem? (i := 587) (by decide +kernel), List.mem_of_getElem? (i := 588) (by decide +kernel)⟩
theorem lw_p38 : lw_okq (⟨"SugarDice$Game", "begin", "(LSugarDice$TableText;)V"⟩, 8) := ⟨⟨by decide +kernel, by decide +kernel⟩, List.mem_of_getElem? (i := 104) (by decide +kernel), List.mem_of_getElem? (i := 591) (by decide +kernel), List.mem_of_getElem? (i := 592) (by decide +kernel)⟩
theorem lw_p39 : lw_okq (⟨"SugarDice", "needDie", "(I)V"⟩, 10) := ⟨⟨by decide +kernel, by decide +kernel⟩, List.mem_of_getElem? (i := 27) (by decide +kernel), List.mem_of_getElem? (i := 606) (by decide +kernel), List.mem_of_getElem? (i := 607) (by decide +kernel)⟩
theorem lw_p40 : lw_okq (⟨"SugarDice$Game", "hasDie", "(I)Z"⟩, 8) := ⟨⟨by decide +kernel, by decide +kernel⟩, List.mem_of_getElem? (i := 104) (by decide +kernel), List.mem_of_getElem? (i := 610) (by decide +kernel), List.mem_of_getElem? (i := 611) (by decide +kernel)⟩
theorem lw_p41 : lw_okq (⟨"SugarDice", "needWhat", "(III)V"⟩, 10) := ⟨⟨by decide +kernel, by decide +kernel⟩, List.mem_of_getElem? (i := 27) (by decide +kernel), List.mem_of_getElem? (i := 630) (by decide +kernel), List.mem_of_getElem? (i := 631) (by decide +kernel)⟩
theorem lw_p42 : lw_okq (⟨"SugarDice$Game", "isSalt", "(I)Z"⟩, 8) := ⟨⟨by decide +kernel, by decide +kernel⟩, List.mem_of_getElem? (i := 104) (by decide +kernel), List.mem_of_getElem? (i := 636) (by decide +kernel), List.mem_of_getElem? (i := 637) (by decide +kernel)⟩
theorem lw_p43 : lw_okq (⟨"SugarDice", "needHand", "(I)V"⟩, 10) := ⟨⟨by decide +kernel, by decide +kernel⟩, List.mem_of_getElem? (i := 27) (by decide +kernel), List.mem_of_getElem? (i := 650) (by decide +kernel), List.mem_of_getElem? (i := 651) (by decide +kernel)⟩
theorem lw_p44 : lw_okq (⟨"SugarDice$Game", "hasHand", "(I)Z"⟩, 8) := ⟨⟨by decide +kernel, by decide +kernel⟩, List.mem_of_getElem? (i := 104) (by decide +kernel), List.mem_of_getElem? (i := 654) (by decide +kernel), List.mem_of_getElem? (i := 655) (by decide +kernel)⟩
theorem lw_p45 : lw_okq (⟨"SugarDice$Game", "heat", "(I)I"⟩, 8) := ⟨⟨by decide +kernel, by decide +kernel⟩, List.mem_of_getElem? (i := 104) (by decide +kernel), List.mem_of_getElem? (i := 659) (by decide +kernel), List.mem_of_getElem? (i := 660) (by decide +kernel)⟩
theorem lw_p46 : lw_okq (⟨"SugarDice$Game", "dieByLot", "(I)I"⟩, 8) := ⟨⟨by decide +kernel, by decide +kernel⟩, List.mem_of_getElem? (i := 104) (by decide +kernel), List.mem_of_getElem? (i := 664) (by decide +kernel), List.mem_of_getElem? (i := 665) (by decide +kernel)⟩
theorem lw_p47 : lw_okq (⟨"SugarDice$Ledger", "throwsOfHand", "(I)I"⟩, 1) := ⟨⟨by decide +kernel, by decide +kernel⟩, List.mem_of_getElem? (i := 201) (by decide +kernel), List.mem_of_getElem? (i := 668) (by decide +kernel), List.mem_of_getElem? (i := 669) (by decide +kernel)⟩
def lw_privs_3 : List (MethodName × Nat) := [(⟨"SugarDice$TableText", "readsLine", "()Z"⟩, 13), (⟨"SugarDice$TableText", "readsDie", "()Z"⟩, 13), (⟨"SugarDice$TableText", "isFaulty", "(I)Z"⟩, 13), (⟨"SugarDice$TableText", "readsNumber", "(II)Z"⟩, 13), (⟨"SugarDice$TableText", "readsHand", "()Z"⟩, 13), (⟨"SugarDice$TableText", "readsAnts", "()Z"⟩, 13), (⟨"SugarDice$Game", "begin", "(LSugarDice$TableText;)V"⟩, 8), (⟨"SugarDice", "needDie", "(I)V"⟩, 10), (⟨"SugarDice$Game", "hasDie", "(I)Z"⟩, 8), (⟨"SugarDice", "needWhat", "(III)V"⟩, 10), (⟨"SugarDice$Game", "isSalt", "(I)Z"⟩, 8), (⟨"SugarDice", "needHand", "(I)V"⟩, 10), (⟨"SugarDice$Game", "hasHand", "(I)Z"⟩, 8), (⟨"SugarDice$Game", "heat", "(I)I"⟩, 8), (⟨"SugarDice$Game", "dieByLot", "(I)I"⟩, 8), (⟨"SugarDice$Ledger", "throwsOfHand", "(I)I"⟩, 1)]
theorem lw_r3 : ∀ q ∈ lw_privs_3, lw_okq q := List.forall_mem_cons.mpr ⟨lw_p32, List.forall_mem_cons.mpr ⟨lw_p33, List.forall_mem_cons.mpr ⟨lw_p34, List.forall_mem_cons.mpr ⟨lw_p35, List.forall_mem_cons.mpr ⟨lw_p36, List.forall_mem_cons.mpr ⟨lw_p37, List.forall_mem_cons.mpr ⟨lw_p38, List.forall_mem_cons.mpr ⟨lw_p39, List.forall_mem_cons.mpr ⟨lw_p40, List.forall_mem_cons.mpr ⟨lw_p41, List.forall_mem_cons.mpr ⟨lw_p42, List.forall_mem_cons.mpr ⟨lw_p43, List.forall_mem_cons.mpr ⟨lw_p44, List.forall_mem_cons.mpr ⟨lw_p45, List.forall_mem_cons.mpr ⟨lw_p46, List.forall_mem_cons.mpr ⟨lw_p47, fun _ h => absurd h List.not_mem_nil⟩⟩⟩⟩⟩⟩⟩⟩⟩⟩⟩⟩⟩⟩⟩⟩
theorem lw_p48 : lw_okq (⟨"SugarDice$Game", "handOfThrow", "(I)I"⟩, 8) := ⟨⟨by decide +kernel, by decide +kernel⟩, List.mem_of_getElem? (i := 104) (by decide +kernel), List.mem_of_getElem? (i := 672) (by decide +kernel), List.mem_of_getElem? (i := 673) (by decide +kernel)⟩
theorem lw_p49 : lw_okq (⟨"SugarDice$Game", "makeSalt", "(I)V"⟩, 8) := ⟨⟨by decide +kernel, by decide +kernel⟩, List.mem_of_getElem? (i := 104) (by decide +kernel), List.mem_of_getElem? (i := 683) (by decide +kernel), List.mem_of_getElem? (i := 684) (by decide +kernel)⟩
theorem lw_p50 : lw_okq (⟨"SugarDice", "needNotGone", "(I)V"⟩, 10) := ⟨⟨by decide +kernel, by decide +kernel⟩, List.mem_of_getElem? (i := 27) (by decide +kernel), List.mem_of_getElem? (i := 696) (by decide +kernel), List.mem_of_getElem? (i := 697) (by decide +kernel)⟩
theorem lw_p51 : lw_okq (⟨"SugarDice", "needRoomForThrow", "()V"⟩, 10) := ⟨⟨by decide +kernel, by decide +kernel⟩, List.mem_of_getElem? (i := 27) (by decide +kernel), List.mem_of_getElem? (i := 716) (by decide +kernel), List.mem_of_getElem? (i := 717) (by decide +kernel)⟩
theorem lw_p52 : lw_okq (⟨"SugarDice$Game", "hasRoomForThrow", "()Z"⟩, 8) := ⟨⟨by decide +kernel, by decide +kernel⟩, List.mem_of_getElem? (i := 104) (by decide +kernel), List.mem_of_getElem? (i := 720) (by decide +kernel), List.mem_of_getElem? (i := 721) (by decide +kernel)⟩
theorem lw_p53 : lw_okq (⟨"SugarDice$Game", "faceByDraw", "(II)I"⟩, 8) := ⟨⟨by decide +kernel, by decide +kernel⟩, List.mem_of_getElem? (i := 104) (by decide +kernel), List.mem_of_getElem? (i := 726) (by decide +kernel), List.mem_of_getElem? (i := 727) (by decide +kernel)⟩
theorem lw_p54 : lw_okq (⟨"SugarDice$Game", "throwFace", "(III)V"⟩, 8) := ⟨⟨by decide +kernel, by decide +kernel⟩, List.mem_of_getElem? (i := 104) (by decide +kernel), List.mem_of_getElem? (i := 730) (by decide +kernel), List.mem_of_getElem? (i := 731) (by decide +kernel)⟩
theorem lw_p55 : lw_okq (⟨"SugarDice$Game", "wear", "(III)I"⟩, 8) := ⟨⟨by decide +kernel, by decide +kernel⟩, List.mem_of_getElem? (i := 104) (by decide +kernel), List.mem_of_getElem? (i := 740) (by decide +kernel), List.mem_of_getElem? (i := 741) (by decide +kernel)⟩
theorem lw_p56 : lw_okq (⟨"SugarDice", "needFace", "(I)V"⟩, 10) := ⟨⟨by decide +kernel, by decide +kernel⟩, List.mem_of_getElem? (i := 27) (by decide +kernel), List.mem_of_getElem? (i := 755) (by decide +kernel), List.mem_of_getElem? (i := 756) (by decide +kernel)⟩
theorem lw_p57 : lw_okq (⟨"SugarDice$Game", "whyNot", "(III)I"⟩, 8) := ⟨⟨by decide +kernel, by decide +kernel⟩, List.mem_of_getElem? (i := 104) (by decide +kernel), List.mem_of_getElem? (i := 761) (by decide +kernel), List.mem_of_getElem? (i := 762) (by decide +kernel)⟩
theorem lw_p58 : lw_okq (⟨"SugarDice$Game", "undo", "(I)V"⟩, 8) := ⟨⟨by decide +kernel, by decide +kernel⟩, List.mem_of_getElem? (i := 104) (by decide +kernel), List.mem_of_getElem? (i := 774) (by decide +kernel), List.mem_of_getElem? (i := 775) (by decide +kernel)⟩
theorem lw_p59 : lw_okq (⟨"SugarDice", "neededTray", "(I)LSugarDice$Tray;"⟩, 10) := ⟨⟨by decide +kernel, by decide +kernel⟩, List.mem_of_getElem? (i := 27) (by decide +kernel), List.mem_of_getElem? (i := 805) (by decide +kernel), List.mem_of_getElem? (i := 806) (by decide +kernel)⟩
theorem lw_p60 : lw_okq (⟨"SugarDice", "anyTray", "(I)LSugarDice$Tray;"⟩, 10) := ⟨⟨by decide +kernel, by decide +kernel⟩, List.mem_of_getElem? (i := 27) (by decide +kernel), List.mem_of_getElem? (i := 809) (by decide +kernel), List.mem_of_getElem? (i := 810) (by decide +kernel)⟩
theorem lw_p61 : lw_okq (⟨"SugarDice", "throwTold", "(LSugarDice$Tray;)I"⟩, 10) := ⟨⟨by decide +kernel, by decide +kernel⟩, List.mem_of_getElem? (i := 27) (by decide +kernel), List.mem_of_getElem? (i := 815) (by decide +kernel), List.mem_of_getElem? (i := 816) (by decide +kernel)⟩
theorem lw_p62 : lw_okq (⟨"SugarDice$Tray", "number", "(I)J"⟩, 4) := ⟨⟨by decide +kernel, by decide +kernel⟩, List.mem_of_getElem? (i := 212) (by decide +kernel), List.mem_of_getElem? (i := 819) (by decide +kernel), List.mem_of_getElem? (i := 820) (by decide +kernel)⟩
theorem lw_p63 : lw_okq (⟨"SugarDice$Game", "whyNotTold", "(J)I"⟩, 8) := ⟨⟨by decide +kernel, by decide +kernel⟩, List.mem_of_getElem? (i := 104) (by decide +kernel), List.mem_of_getElem? (i := 823) (by decide +kernel), List.mem_of_getElem? (i := 824) (by decide +kernel)⟩
def lw_privs_4 : List (MethodName × Nat) := [(⟨"SugarDice$Game", "handOfThrow", "(I)I"⟩, 8), (⟨"SugarDice$Game", "makeSalt", "(I)V"⟩, 8), (⟨"SugarDice", "needNotGone", "(I)V"⟩, 10), (⟨"SugarDice", "needRoomForThrow", "()V"⟩, 10), (⟨"SugarDice$Game", "hasRoomForThrow", "()Z"⟩, 8), (⟨"SugarDice$Game", "faceByDraw", "(II)I"⟩, 8), (⟨"SugarDice$Game", "throwFace", "(III)V"⟩, 8), (⟨"SugarDice$Game", "wear", "(III)I"⟩, 8), (⟨"SugarDice", "needFace", "(I)V"⟩, 10), (⟨"SugarDice$Game", "whyNot", "(III)I"⟩, 8), (⟨"SugarDice$Game", "undo", "(I)V"⟩, 8), (⟨"SugarDice", "neededTray", "(I)LSugarDice$Tray;"⟩, 10), (⟨"SugarDice", "anyTray", "(I)LSugarDice$Tray;"⟩, 10), (⟨"SugarDice", "throwTold", "(LSugarDice$Tray;)I"⟩, 10), (⟨"SugarDice$Tray", "number", "(I)J"⟩, 4), (⟨"SugarDice$Game", "whyNotTold", "(J)I"⟩, 8)]
theorem lw_r4 : ∀ q ∈ lw_privs_4, lw_okq q := List.forall_mem_cons.mpr ⟨lw_p48, List.forall_mem_cons.mpr ⟨lw_p49, List.forall_mem_cons.mpr ⟨lw_p50, List.forall_mem_cons.mpr ⟨lw_p51, List.forall_mem_cons.mpr ⟨lw_p52, List.forall_mem_cons.mpr ⟨lw_p53, List.forall_mem_cons.mpr ⟨lw_p54, List.forall_mem_cons.mpr ⟨lw_p55, List.forall_mem_cons.mpr ⟨lw_p56, List.forall_mem_cons.mpr ⟨lw_p57, List.forall_mem_cons.mpr ⟨lw_p58, List.forall_mem_cons.mpr ⟨lw_p59, List.forall_mem_cons.mpr ⟨lw_p60, List.forall_mem_cons.mpr ⟨lw_p61, List.forall_mem_cons.mpr ⟨lw_p62, List.forall_mem_cons.mpr ⟨lw_p63, fun _ h => absurd h List.not_mem_nil⟩⟩⟩⟩⟩⟩⟩⟩⟩⟩⟩⟩⟩⟩⟩⟩
theorem lw_p64 : lw_okq (⟨"SugarDice$Game", "throwToldOne", "(I)V"⟩, 8) := ⟨⟨by decide +kernel, by decide +kernel⟩, List.mem_of_getElem? (i := 104) (by decide +kernel), List.mem_of_getElem? (i := 829) (by decide +kernel), List.mem_of_getElem? (i := 830) (by decide +kernel)⟩
theorem lw_p65 : lw_okq (⟨"SugarDice", "needMinutes", "(II)V"⟩, 10) := ⟨⟨by decide +kernel, by decide +kernel⟩, List.mem_of_getElem? (i := 27) (by decide +kernel), List.mem_of_getElem? (i := 848) (by decide +kernel), List.mem_of_getElem? (i := 849) (by decide +kernel)⟩
theorem lw_p66 : lw_okq (⟨"SugarDice$Game", "feedAnts", "(II)I"⟩, 8) := ⟨⟨by decide +kernel, by decide +kernel⟩, List.mem_of_getElem? (i := 104) (by decide +kernel), List.mem_of_getElem? (i := 853) (by decide +kernel), List.mem_of_getElem? (i := 854) (by decide +kernel)⟩
theorem lw_p67 : lw_okq (⟨"SugarDice$Game", "faceForAnts", "(I)I"⟩, 8) := ⟨⟨by decide +kernel, by decide +kernel⟩, List.mem_of_getElem? (i := 104) (by decide +kernel), List.mem_of_getElem? (i := 857) (by decide +kernel), List.mem_of_getElem? (i := 858) (by decide +kernel)⟩
theorem lw_p68 : lw_okq (⟨"SugarDice$Game", "weightAfterAnts", "(III)I"⟩, 8) := ⟨⟨by decide +kernel, by decide +kernel⟩, List.mem_of_getElem? (i := 104) (by decide +kernel), List.mem_of_getElem? (i := 868) (by decide +kernel), List.mem_of_getElem? (i := 869) (by decide +kernel)⟩
theorem lw_p69 : lw_okq (⟨"SugarDice$Game", "lastFaceForAnts", "(I)I"⟩, 8) := ⟨⟨by decide +kernel, by decide +kernel⟩, List.mem_of_getElem? (i := 104) (by decide +kernel), List.mem_of_getElem? (i := 889) (by decide +kernel), List.mem_of_getElem? (i := 890) (by decide +kernel)⟩
theorem lw_p70 : lw_okq (⟨"SugarDice$Game", "cool", "(I)V"⟩, 8) := ⟨⟨by decide +kernel, by decide +kernel⟩, List.mem_of_getElem? (i := 104) (by decide +kernel), List.mem_of_getElem? (i := 909) (by decide +kernel), List.mem_of_getElem? (i := 910) (by decide +kernel)⟩
theorem lw_p71 : lw_okq (⟨"SugarDice", "needSetNotGone", "(I)V"⟩, 10) := ⟨⟨by decide +kernel, by decide +kernel⟩, List.mem_of_getElem? (i := 27) (by decide +kernel), List.mem_of_getElem? (i := 920) (by decide +kernel), List.mem_of_getElem? (i := 921) (by decide +kernel)⟩
theorem lw_p72 : lw_okq (⟨"SugarDice", "needSet", "(I)V"⟩, 10) := ⟨⟨by decide +kernel, by decide +kernel⟩, List.mem_of_getElem? (i := 27) (by decide +kernel), List.mem_of_getElem? (i := 924) (by decide +kernel), List.mem_of_getElem? (i := 925) (by decide +kernel)⟩
theorem lw_p73 : lw_okq (⟨"SugarDice", "needNoneGone", "(I)V"⟩, 10) := ⟨⟨by decide +kernel, by decide +kernel⟩, List.mem_of_getElem? (i := 27) (by decide +kernel), List.mem_of_getElem? (i := 929) (by decide +kernel), List.mem_of_getElem? (i := 930) (by decide +kernel)⟩
theorem lw_p74 : lw_okq (⟨"SugarDice$Odds", "wholeOf", "(I)J"⟩, 4) := ⟨⟨by decide +kernel, by decide +kernel⟩, List.mem_of_getElem? (i := 155) (by decide +kernel), List.mem_of_getElem? (i := 933) (by decide +kernel), List.mem_of_getElem? (i := 934) (by decide +kernel)⟩
theorem lw_p75 : lw_okq (⟨"SugarDice$Odds", "waysOfSum", "(II)J"⟩, 4) := ⟨⟨by decide +kernel, by decide +kernel⟩, List.mem_of_getElem? (i := 155) (by decide +kernel), List.mem_of_getElem? (i := 949) (by decide +kernel), List.mem_of_getElem? (i := 950) (by decide +kernel)⟩
theorem lw_p76 : lw_okq (⟨"SugarDice$Odds", "countSums", "(I)V"⟩, 4) := ⟨⟨by decide +kernel, by decide +kernel⟩, List.mem_of_getElem? (i := 155) (by decide +kernel), List.mem_of_getElem? (i := 953) (by decide +kernel), List.mem_of_getElem? (i := 954) (by decide +kernel)⟩
theorem lw_p77 : lw_okq (⟨"SugarDice$Odds", "addToSums", "([JI)V"⟩, 4) := ⟨⟨by decide +kernel, by decide +kernel⟩, List.mem_of_getElem? (i := 155) (by decide +kernel), List.mem_of_getElem? (i := 960) (by decide +kernel), List.mem_of_getElem? (i := 961) (by decide +kernel)⟩
theorem lw_p78 : lw_okq (⟨"SugarDice$Odds", "waysOfSumOrMore", "(II)J"⟩, 4) := ⟨⟨by decide +kernel, by decide +kernel⟩, List.mem_of_getElem? (i := 155) (by decide +kernel), List.mem_of_getElem? (i := 972) (by decide +kernel), List.mem_of_getElem? (i := 973) (by decide +kernel)⟩
theorem lw_p79 : lw_okq (⟨"SugarDice$Odds", "waysOfOneFace", "(I)J"⟩, 4) := ⟨⟨by decide +kernel, by decide +kernel⟩, List.mem_of_getElem? (i := 155) (by decide +kernel), List.mem_of_getElem? (i := 984) (by decide +kernel), List.mem_of_getElem? (i := 985) (by decide +kernel)⟩
def lw_privs_5 : List (MethodName × Nat) := [(⟨"SugarDice$Game", "throwToldOne", "(I)V"⟩, 8), (⟨"SugarDice", "needMinutes", "(II)V"⟩, 10), (⟨"SugarDice$Game", "feedAnts", "(II)I"⟩, 8), (⟨"SugarDice$Game", "faceForAnts", "(I)I"⟩, 8), (⟨"SugarDice$Game", "weightAfterAnts", "(III)I"⟩, 8), (⟨"SugarDice$Game", "lastFaceForAnts", "(I)I"⟩, 8), (⟨"SugarDice$Game", "cool", "(I)V"⟩, 8), (⟨"SugarDice", "needSetNotGone", "(I)V"⟩, 10), (⟨"SugarDice", "needSet", "(I)V"⟩, 10), (⟨"SugarDice", "needNoneGone", "(I)V"⟩, 10), (⟨"SugarDice$Odds", "wholeOf", "(I)J"⟩, 4), (⟨"SugarDice$Odds", "waysOfSum", "(II)J"⟩, 4), (⟨"SugarDice$Odds", "countSums", "(I)V"⟩, 4), (⟨"SugarDice$Odds", "addToSums", "([JI)V"⟩, 4), (⟨"SugarDice$Odds", "waysOfSumOrMore", "(II)J"⟩, 4), (⟨"SugarDice$Odds", "waysOfOneFace", "(I)J"⟩, 4)]
theorem lw_r5 : ∀ q ∈ lw_privs_5, lw_okq q := List.forall_mem_cons.mpr ⟨lw_p64, List.forall_mem_cons.mpr ⟨lw_p65, List.forall_mem_cons.mpr ⟨lw_p66, List.forall_mem_cons.mpr ⟨lw_p67, List.forall_mem_cons.mpr ⟨lw_p68, List.forall_mem_cons.mpr ⟨lw_p69, List.forall_mem_cons.mpr ⟨lw_p70, List.forall_mem_cons.mpr ⟨lw_p71, List.forall_mem_cons.mpr ⟨lw_p72, List.forall_mem_cons.mpr ⟨lw_p73, List.forall_mem_cons.mpr ⟨lw_p74, List.forall_mem_cons.mpr ⟨lw_p75, List.forall_mem_cons.mpr ⟨lw_p76, List.forall_mem_cons.mpr ⟨lw_p77, List.forall_mem_cons.mpr ⟨lw_p78, List.forall_mem_cons.mpr ⟨lw_p79, fun _ h => absurd h List.not_mem_nil⟩⟩⟩⟩⟩⟩⟩⟩⟩⟩⟩⟩⟩⟩⟩⟩
theorem lw_p80 : lw_okq (⟨"SugarDice$Odds", "likeliestSum", "(I)I"⟩, 4) := ⟨⟨by decide +kernel, by decide +kernel⟩, List.mem_of_getElem? (i := 155) (by decide +kernel), List.mem_of_getElem? (i := 995) (by decide +kernel), List.mem_of_getElem? (i := 996) (by decide +kernel)⟩
theorem lw_p81 : lw_okq (⟨"SugarDice$Odds", "possibleSums", "(I)I"⟩, 4) := ⟨⟨by decide +kernel, by decide +kernel⟩, List.mem_of_getElem? (i := 155) (by decide +kernel), List.mem_of_getElem? (i := 1006) (by decide +kernel), List.mem_of_getElem? (i := 1007) (by decide +kernel)⟩
theorem lw_p82 : lw_okq (⟨"SugarDice$Odds", "allSumsWeighed", "(I)J"⟩, 4) := ⟨⟨by decide +kernel, by decide +kernel⟩, List.mem_of_getElem? (i := 155) (by decide +kernel), List.mem_of_getElem? (i := 1018) (by decide +kernel), List.mem_of_getElem? (i := 1019) (by decide +kernel)⟩
theorem lw_p83 : lw_okq (⟨"SugarDice", "needOneToThree", "(I)V"⟩, 10) := ⟨⟨by decide +kernel, by decide +kernel⟩, List.mem_of_getElem? (i := 27) (by decide +kernel), List.mem_of_getElem? (i := 1029) (by decide +kernel), List.mem_of_getElem? (i := 1030) (by decide +kernel)⟩
theorem lw_p84 : lw_okq (⟨"SugarDice$Odds", "bestSetFor", "(II)I"⟩, 4) := ⟨⟨by decide +kernel, by decide +kernel⟩, List.mem_of_getElem? (i := 155) (by decide +kernel), List.mem_of_getElem? (i := 1034) (by decide +kernel), List.mem_of_getElem? (i := 1035) (by decide +kernel)⟩
theorem lw_p85 : lw_okq (⟨"SugarDice$Odds", "waysOfUnlikeFaces", "(IZ)J"⟩, 4) := ⟨⟨by decide +kernel, by decide +kernel⟩, List.mem_of_getElem? (i := 155) (by decide +kernel), List.mem_of_getElem? (i := 1053) (by decide +kernel), List.mem_of_getElem? (i := 1054) (by decide +kernel)⟩
theorem lw_p86 : lw_okq (⟨"SugarDice$Odds", "addToFaceSets", "(IZ)V"⟩, 4) := ⟨⟨by decide +kernel, by decide +kernel⟩, List.mem_of_getElem? (i := 155) (by decide +kernel), List.mem_of_getElem? (i := 1057) (by decide +kernel), List.mem_of_getElem? (i := 1058) (by decide +kernel)⟩
theorem lw_p87 : lw_okq (⟨"SugarDice", "needThrowsUpToEight", "(II)V"⟩, 10) := ⟨⟨by decide +kernel, by decide +kernel⟩, List.mem_of_getElem? (i := 27) (by decide +kernel), List.mem_of_getElem? (i := 1085) (by decide +kernel), List.mem_of_getElem? (i := 1086) (by decide +kernel)⟩
theorem lw_p88 : lw_okq (⟨"SugarDice$Odds", "waysOfEveryFace", "(II)J"⟩, 4) := ⟨⟨by decide +kernel, by decide +kernel⟩, List.mem_of_getElem? (i := 155) (by decide +kernel), List.mem_of_getElem? (i := 1100) (by decide +kernel), List.mem_of_getElem? (i := 1101) (by decide +kernel)⟩
theorem lw_p89 : lw_okq (⟨"SugarDice", "needTwoDice", "(II)V"⟩, 10) := ⟨⟨by decide +kernel, by decide +kernel⟩, List.mem_of_getElem? (i := 27) (by decide +kernel), List.mem_of_getElem? (i := 1122) (by decide +kernel), List.mem_of_getElem? (i := 1123) (by decide +kernel)⟩
theorem lw_p90 : lw_okq (⟨"SugarDice$Beating", "waysToTie", "(II)I"⟩, 1) := ⟨⟨by decide +kernel, by decide +kernel⟩, List.mem_of_getElem? (i := 175) (by decide +kernel), List.mem_of_getElem? (i := 1134) (by decide +kernel), List.mem_of_getElem? (i := 1135) (by decide +kernel)⟩
theorem lw_p91 : lw_okq (⟨"SugarDice$Odds", "waysOfMore", "(III)J"⟩, 4) := ⟨⟨by decide +kernel, by decide +kernel⟩, List.mem_of_getElem? (i := 155) (by decide +kernel), List.mem_of_getElem? (i := 1155) (by decide +kernel), List.mem_of_getElem? (i := 1156) (by decide +kernel)⟩
theorem lw_p92 : lw_okq (⟨"SugarDice$Odds", "countThrows", "([JII)V"⟩, 4) := ⟨⟨by decide +kernel, by decide +kernel⟩, List.mem_of_getElem? (i := 155) (by decide +kernel), List.mem_of_getElem? (i := 1159) (by decide +kernel), List.mem_of_getElem? (i := 1160) (by decide +kernel)⟩
theorem lw_p93 : lw_okq (⟨"SugarDice$Odds", "leastFaceToStop", "(II)I"⟩, 4) := ⟨⟨by decide +kernel, by decide +kernel⟩, List.mem_of_getElem? (i := 155) (by decide +kernel), List.mem_of_getElem? (i := 1171) (by decide +kernel), List.mem_of_getElem? (i := 1172) (by decide +kernel)⟩
theorem lw_p94 : lw_okq (⟨"SugarDice$Odds", "bestByStopping", "(II)J"⟩, 4) := ⟨⟨by decide +kernel, by decide +kernel⟩, List.mem_of_getElem? (i := 155) (by decide +kernel), List.mem_of_getElem? (i := 1175) (by decide +kernel), List.mem_of_getElem? (i := 1176) (by decide +kernel)⟩
theorem lw_p95 : lw_okq (⟨"SugarDice", "needFaces", "(LSugarDice$Tray;)V"⟩, 10) := ⟨⟨by decide +kernel, by decide +kernel⟩, List.mem_of_getElem? (i := 27) (by decide +kernel), List.mem_of_getElem? (i := 1191) (by decide +kernel), List.mem_of_getElem? (i := 1192) (by decide +kernel)⟩
def lw_privs_6 : List (MethodName × Nat) := [(⟨"SugarDice$Odds", "likeliestSum", "(I)I"⟩, 4), (⟨"SugarDice$Odds", "possibleSums", "(I)I"⟩, 4), (⟨"SugarDice$Odds", "allSumsWeighed", "(I)J"⟩, 4), (⟨"SugarDice", "needOneToThree", "(I)V"⟩, 10), (⟨"SugarDice$Odds", "bestSetFor", "(II)I"⟩, 4), (⟨"SugarDice$Odds", "waysOfUnlikeFaces", "(IZ)J"⟩, 4), (⟨"SugarDice$Odds", "addToFaceSets", "(IZ)V"⟩, 4), (⟨"SugarDice", "needThrowsUpToEight", "(II)V"⟩, 10), (⟨"SugarDice$Odds", "waysOfEveryFace", "(II)J"⟩, 4), (⟨"SugarDice", "needTwoDice", "(II)V"⟩, 10), (⟨"SugarDice$Beating", "waysToTie", "(II)I"⟩, 1), (⟨"SugarDice$Odds", "waysOfMore", "(III)J"⟩, 4), (⟨"SugarDice$Odds", "countThrows", "([JII)V"⟩, 4), (⟨"SugarDice$Odds", "leastFaceToStop", "(II)I"⟩, 4), (⟨"SugarDice$Odds", "bestByStopping", "(II)J"⟩, 4), (⟨"SugarDice", "needFaces", "(LSugarDice$Tray;)V"⟩, 10)]
theorem lw_r6 : ∀ q ∈ lw_privs_6, lw_okq q := List.forall_mem_cons.mpr ⟨lw_p80, List.forall_mem_cons.mpr ⟨lw_p81, List.forall_mem_cons.mpr ⟨lw_p82, List.forall_mem_cons.mpr ⟨lw_p83, List.forall_mem_cons.mpr ⟨lw_p84, List.forall_mem_cons.mpr ⟨lw_p85, List.forall_mem_cons.mpr ⟨lw_p86, List.forall_mem_cons.mpr ⟨lw_p87, List.forall_mem_cons.mpr ⟨lw_p88, List.forall_mem_cons.mpr ⟨lw_p89, List.forall_mem_cons.mpr ⟨lw_p90, List.forall_mem_cons.mpr ⟨lw_p91, List.forall_mem_cons.mpr ⟨lw_p92, List.forall_mem_cons.mpr ⟨lw_p93, List.forall_mem_cons.mpr ⟨lw_p94, List.forall_mem_cons.mpr ⟨lw_p95, fun _ h => absurd h List.not_mem_nil⟩⟩⟩⟩⟩⟩⟩⟩⟩⟩⟩⟩⟩⟩⟩⟩
theorem lw_p96 : lw_okq (⟨"SugarDice$Tray", "holdsToldFaces", "()Z"⟩, 4) := ⟨⟨by decide +kernel, by decide +kernel⟩, List.mem_of_getElem? (i := 212) (by decide +kernel), List.mem_of_getElem? (i := 1195) (by decide +kernel), List.mem_of_getElem? (i := 1196) (by decide +kernel)⟩
theorem lw_p97 : lw_okq (⟨"SugarDice$Witness", "likeliestDie", "(LSugarDice$Tray;)I"⟩, 3) := ⟨⟨by decide +kernel, by decide +kernel⟩, List.mem_of_getElem? (i := 185) (by decide +kernel), List.mem_of_getElem? (i := 1202) (by decide +kernel), List.mem_of_getElem? (i := 1203) (by decide +kernel)⟩
theorem lw_p98 : lw_okq (⟨"SugarDice$Tray", "face", "(I)I"⟩, 4) := ⟨⟨by decide +kernel, by decide +kernel⟩, List.mem_of_getElem? (i := 212) (by decide +kernel), List.mem_of_getElem? (i := 1206) (by decide +kernel), List.mem_of_getElem? (i := 1207) (by decide +kernel)⟩
theorem lw_p99 : lw_okq (⟨"SugarDice$Witness", "rowsOfDice", "(LSugarDice$Tray;)I"⟩, 3) := ⟨⟨by decide +kernel, by decide +kernel⟩, List.mem_of_getElem? (i := 185) (by decide +kernel), List.mem_of_getElem? (i := 1220) (by decide +kernel), List.mem_of_getElem? (i := 1221) (by decide +kernel)⟩
theorem lw_p100 : lw_okq (⟨"SugarDice$Witness", "rowOfHands", "(ILSugarDice$Tray;II)I"⟩, 3) := ⟨⟨by decide +kernel, by decide +kernel⟩, List.mem_of_getElem? (i := 185) (by decide +kernel), List.mem_of_getElem? (i := 1231) (by decide +kernel), List.mem_of_getElem? (i := 1232) (by decide +kernel)⟩
theorem lw_p101 : lw_okq (⟨"SugarDice$Witness", "totalBehind", "(ILSugarDice$Tray;I)I"⟩, 3) := ⟨⟨by decide +kernel, by decide +kernel⟩, List.mem_of_getElem? (i := 185) (by decide +kernel), List.mem_of_getElem? (i := 1235) (by decide +kernel), List.mem_of_getElem? (i := 1236) (by decide +kernel)⟩
theorem lw_p102 : lw_okq (⟨"SugarDice$Witness", "begin", "(I)V"⟩, 3) := ⟨⟨by decide +kernel, by decide +kernel⟩, List.mem_of_getElem? (i := 185) (by decide +kernel), List.mem_of_getElem? (i := 1239) (by decide +kernel), List.mem_of_getElem? (i := 1240) (by decide +kernel)⟩
theorem lw_p103 : lw_okq (⟨"SugarDice$Ledger", "longestRow", "(I)I"⟩, 1) := ⟨⟨by decide +kernel, by decide +kernel⟩, List.mem_of_getElem? (i := 201) (by decide +kernel), List.mem_of_getElem? (i := 1262) (by decide +kernel), List.mem_of_getElem? (i := 1263) (by decide +kernel)⟩
theorem lw_p104 : lw_okq (⟨"SugarDice$Tray", "lay", "(II)V"⟩, 4) := ⟨⟨by decide +kernel, by decide +kernel⟩, List.mem_of_getElem? (i := 212) (by decide +kernel), List.mem_of_getElem? (i := 1283) (by decide +kernel), List.mem_of_getElem? (i := 1284) (by decide +kernel)⟩
theorem lw_p105 : lw_okq (⟨"SugarDice$Tray", "put", "(IJ)V"⟩, 4) := ⟨⟨by decide +kernel, by decide +kernel⟩, List.mem_of_getElem? (i := 212) (by decide +kernel), List.mem_of_getElem? (i := 1311) (by decide +kernel), List.mem_of_getElem? (i := 1312) (by decide +kernel)⟩
theorem lw_p106 : lw_okq (⟨"SugarDice$Tray", "cut", "(J)J"⟩, 4) := ⟨⟨by decide +kernel, by decide +kernel⟩, List.mem_of_getElem? (i := 212) (by decide +kernel), List.mem_of_getElem? (i := 1315) (by decide +kernel), List.mem_of_getElem? (i := 1316) (by decide +kernel)⟩
theorem lw_p107 : lw_okq (⟨"SugarDice", "needImagePlace", "(I)V"⟩, 10) := ⟨⟨by decide +kernel, by decide +kernel⟩, List.mem_of_getElem? (i := 27) (by decide +kernel), List.mem_of_getElem? (i := 1334) (by decide +kernel), List.mem_of_getElem? (i := 1335) (by decide +kernel)⟩
theorem lw_p108 : lw_okq (⟨"SugarDice$Game", "copyFrom", "(LSugarDice$Game;)V"⟩, 8) := ⟨⟨by decide +kernel, by decide +kernel⟩, List.mem_of_getElem? (i := 104) (by decide +kernel), List.mem_of_getElem? (i := 1339) (by decide +kernel), List.mem_of_getElem? (i := 1340) (by decide +kernel)⟩
theorem lw_p109 : lw_okq (⟨"SugarDiceModel", "fails", "(I)I"⟩, 27) := ⟨⟨by decide +kernel, by decide +kernel⟩, List.mem_of_getElem? (i := 1351) (by decide +kernel), List.mem_of_getElem? (i := 1458) (by decide +kernel), List.mem_of_getElem? (i := 1459) (by decide +kernel)⟩
theorem lw_p110 : lw_okq (⟨"SugarDiceModel", "reads", "()V"⟩, 27) := ⟨⟨by decide +kernel, by decide +kernel⟩, List.mem_of_getElem? (i := 1351) (by decide +kernel), List.mem_of_getElem? (i := 1462) (by decide +kernel), List.mem_of_getElem? (i := 1463) (by decide +kernel)⟩
theorem lw_p111 : lw_okq (⟨"SugarDiceModel", "see", "(I)I"⟩, 27) := ⟨⟨by decide +kernel, by decide +kernel⟩, List.mem_of_getElem? (i := 1351) (by decide +kernel), List.mem_of_getElem? (i := 1469) (by decide +kernel), List.mem_of_getElem? (i := 1470) (by decide +kernel)⟩
def lw_privs_7 : List (MethodName × Nat) := [(⟨"SugarDice$Tray", "holdsToldFaces", "()Z"⟩, 4), (⟨"SugarDice$Witness", "likeliestDie", "(LSugarDice$Tray;)I"⟩, 3), (⟨"SugarDice$Tray", "face", "(I)I"⟩, 4), (⟨"SugarDice$Witness", "rowsOfDice", "(LSugarDice$Tray;)I"⟩, 3), (⟨"SugarDice$Witness", "rowOfHands", "(ILSugarDice$Tray;II)I"⟩, 3), (⟨"SugarDice$Witness", "totalBehind", "(ILSugarDice$Tray;I)I"⟩, 3), (⟨"SugarDice$Witness", "begin", "(I)V"⟩, 3), (⟨"SugarDice$Ledger", "longestRow", "(I)I"⟩, 1), (⟨"SugarDice$Tray", "lay", "(II)V"⟩, 4), (⟨"SugarDice$Tray", "put", "(IJ)V"⟩, 4), (⟨"SugarDice$Tray", "cut", "(J)J"⟩, 4), (⟨"SugarDice", "needImagePlace", "(I)V"⟩, 10), (⟨"SugarDice$Game", "copyFrom", "(LSugarDice$Game;)V"⟩, 8), (⟨"SugarDiceModel", "fails", "(I)I"⟩, 27), (⟨"SugarDiceModel", "reads", "()V"⟩, 27), (⟨"SugarDiceModel", "see", "(I)I"⟩, 27)]
theorem lw_r7 : ∀ q ∈ lw_privs_7, lw_okq q := List.forall_mem_cons.mpr ⟨lw_p96, List.forall_mem_cons.mpr ⟨lw_p97, List.forall_mem_cons.mpr ⟨lw_p98, List.forall_mem_cons.mpr ⟨lw_p99, List.forall_mem_cons.mpr ⟨lw_p100, List.forall_mem_cons.mpr ⟨lw_p101, List.forall_mem_cons.mpr ⟨lw_p102, List.forall_mem_cons.mpr ⟨lw_p103, List.forall_mem_cons.mpr ⟨lw_p104, List.forall_mem_cons.mpr ⟨lw_p105, List.forall_mem_cons.mpr ⟨lw_p106, List.forall_mem_cons.mpr ⟨lw_p107, List.forall_mem_cons.mpr ⟨lw_p108, List.forall_mem_cons.mpr ⟨lw_p109, List.forall_mem_cons.mpr ⟨lw_p110, List.forall_mem_cons.mpr ⟨lw_p111, fun _ h => absurd h List.not_mem_nil⟩⟩⟩⟩⟩⟩⟩⟩⟩⟩⟩⟩⟩⟩⟩⟩
theorem lw_p112 : lw_okq (⟨"SugarDiceModel", "readLine", "()V"⟩, 27) := ⟨⟨by decide +kernel, by decide +kernel⟩, List.mem_of_getElem? (i := 1351) (by decide +kernel), List.mem_of_getElem? (i := 1476) (by decide +kernel), List.mem_of_getElem? (i := 1477) (by decide +kernel)⟩
theorem lw_p113 : lw_okq (⟨"SugarDiceModel", "isWord", "(Ljava/lang/String;)Z"⟩, 27) := ⟨⟨by decide +kernel, by decide +kernel⟩, List.mem_of_getElem? (i := 1351) (by decide +kernel), List.mem_of_getElem? (i := 1481) (by decide +kernel), List.mem_of_getElem? (i := 1482) (by decide +kernel)⟩
theorem lw_p114 : lw_okq (⟨"SugarDiceModel", "readDie", "()V"⟩, 27) := ⟨⟨by decide +kernel, by decide +kernel⟩, List.mem_of_getElem? (i := 1351) (by decide +kernel), List.mem_of_getElem? (i := 1487) (by decide +kernel), List.mem_of_getElem? (i := 1488) (by decide +kernel)⟩
theorem lw_p115 : lw_okq (⟨"SugarDiceModel", "blames", "(I)V"⟩, 27) := ⟨⟨by decide +kernel, by decide +kernel⟩, List.mem_of_getElem? (i := 1351) (by decide +kernel), List.mem_of_getElem? (i := 1491) (by decide +kernel), List.mem_of_getElem? (i := 1492) (by decide +kernel)⟩
theorem lw_p116 : lw_okq (⟨"SugarDiceModel", "number", "(II)I"⟩, 27) := ⟨⟨by decide +kernel, by decide +kernel⟩, List.mem_of_getElem? (i := 1351) (by decide +kernel), List.mem_of_getElem? (i := 1495) (by decide +kernel), List.mem_of_getElem? (i := 1496) (by decide +kernel)⟩
theorem lw_p117 : lw_okq (⟨"SugarDiceModel", "took", "(Ljava/lang/String;)Z"⟩, 27) := ⟨⟨by decide +kernel, by decide +kernel⟩, List.mem_of_getElem? (i := 1351) (by decide +kernel), List.mem_of_getElem? (i := 1500) (by decide +kernel), List.mem_of_getElem? (i := 1501) (by decide +kernel)⟩
theorem lw_p118 : lw_okq (⟨"SugarDiceModel", "readHand", "()V"⟩, 27) := ⟨⟨by decide +kernel, by decide +kernel⟩, List.mem_of_getElem? (i := 1351) (by decide +kernel), List.mem_of_getElem? (i := 1505) (by decide +kernel), List.mem_of_getElem? (i := 1506) (by decide +kernel)⟩
theorem lw_p119 : lw_okq (⟨"SugarDiceModel", "isDie", "(J)Z"⟩, 27) := ⟨⟨by decide +kernel, by decide +kernel⟩, List.mem_of_getElem? (i := 1351) (by decide +kernel), List.mem_of_getElem? (i := 1518) (by decide +kernel), List.mem_of_getElem? (i := 1519) (by decide +kernel)⟩
theorem lw_p120 : lw_okq (⟨"SugarDiceModel", "dice", "()I"⟩, 27) := ⟨⟨by decide +kernel, by decide +kernel⟩, List.mem_of_getElem? (i := 1351) (by decide +kernel), List.mem_of_getElem? (i := 1522) (by decide +kernel), List.mem_of_getElem? (i := 1523) (by decide +kernel)⟩
theorem lw_p121 : lw_okq (⟨"SugarDiceModel", "weight", "(II)I"⟩, 27) := ⟨⟨by decide +kernel, by decide +kernel⟩, List.mem_of_getElem? (i := 1351) (by decide +kernel), List.mem_of_getElem? (i := 1527) (by decide +kernel), List.mem_of_getElem? (i := 1528) (by decide +kernel)⟩
theorem lw_p122 : lw_okq (⟨"SugarDiceModel", "total", "(I)I"⟩, 27) := ⟨⟨by decide +kernel, by decide +kernel⟩, List.mem_of_getElem? (i := 1351) (by decide +kernel), List.mem_of_getElem? (i := 1531) (by decide +kernel), List.mem_of_getElem? (i := 1532) (by decide +kernel)⟩
theorem lw_p123 : lw_okq (⟨"SugarDiceModel", "isSalt", "(I)Z"⟩, 27) := ⟨⟨by decide +kernel, by decide +kernel⟩, List.mem_of_getElem? (i := 1351) (by decide +kernel), List.mem_of_getElem? (i := 1535) (by decide +kernel), List.mem_of_getElem? (i := 1536) (by decide +kernel)⟩
theorem lw_p124 : lw_okq (⟨"SugarDiceModel", "isGone", "(I)Z"⟩, 27) := ⟨⟨by decide +kernel, by decide +kernel⟩, List.mem_of_getElem? (i := 1351) (by decide +kernel), List.mem_of_getElem? (i := 1539) (by decide +kernel), List.mem_of_getElem? (i := 1540) (by decide +kernel)⟩
theorem lw_p125 : lw_okq (⟨"SugarDiceModel", "times", "(II)I"⟩, 27) := ⟨⟨by decide +kernel, by decide +kernel⟩, List.mem_of_getElem? (i := 1351) (by decide +kernel), List.mem_of_getElem? (i := 1543) (by decide +kernel), List.mem_of_getElem? (i := 1544) (by decide +kernel)⟩
theorem lw_p126 : lw_okq (⟨"SugarDiceModel", "throwsNow", "()I"⟩, 27) := ⟨⟨by decide +kernel, by decide +kernel⟩, List.mem_of_getElem? (i := 1351) (by decide +kernel), List.mem_of_getElem? (i := 1547) (by decide +kernel), List.mem_of_getElem? (i := 1548) (by decide +kernel)⟩
theorem lw_p127 : lw_okq (⟨"SugarDiceModel", "pastOf", "(II)I"⟩, 27) := ⟨⟨by decide +kernel, by decide +kernel⟩, List.mem_of_getElem? (i := 1351) (by decide +kernel), List.mem_of_getElem? (i := 1551) (by decide +kernel), List.mem_of_getElem? (i := 1552) (by decide +kernel)⟩
def lw_privs_8 : List (MethodName × Nat) := [(⟨"SugarDiceModel", "readLine", "()V"⟩, 27), (⟨"SugarDiceModel", "isWord", "(Ljava/lang/String;)Z"⟩, 27), (⟨"SugarDiceModel", "readDie", "()V"⟩, 27), (⟨"SugarDiceModel", "blames", "(I)V"⟩, 27), (⟨"SugarDiceModel", "number", "(II)I"⟩, 27), (⟨"SugarDiceModel", "took", "(Ljava/lang/String;)Z"⟩, 27), (⟨"SugarDiceModel", "readHand", "()V"⟩, 27), (⟨"SugarDiceModel", "isDie", "(J)Z"⟩, 27), (⟨"SugarDiceModel", "dice", "()I"⟩, 27), (⟨"SugarDiceModel", "weight", "(II)I"⟩, 27), (⟨"SugarDiceModel", "total", "(I)I"⟩, 27), (⟨"SugarDiceModel", "isSalt", "(I)Z"⟩, 27), (⟨"SugarDiceModel", "isGone", "(I)Z"⟩, 27), (⟨"SugarDiceModel", "times", "(II)I"⟩, 27), (⟨"SugarDiceModel", "throwsNow", "()I"⟩, 27), (⟨"SugarDiceModel", "pastOf", "(II)I"⟩, 27)]
theorem lw_r8 : ∀ q ∈ lw_privs_8, lw_okq q := List.forall_mem_cons.mpr ⟨lw_p112, List.forall_mem_cons.mpr ⟨lw_p113, List.forall_mem_cons.mpr ⟨lw_p114, List.forall_mem_cons.mpr ⟨lw_p115, List.forall_mem_cons.mpr ⟨lw_p116, List.forall_mem_cons.mpr ⟨lw_p117, List.forall_mem_cons.mpr ⟨lw_p118, List.forall_mem_cons.mpr ⟨lw_p119, List.forall_mem_cons.mpr ⟨lw_p120, List.forall_mem_cons.mpr ⟨lw_p121, List.forall_mem_cons.mpr ⟨lw_p122, List.forall_mem_cons.mpr ⟨lw_p123, List.forall_mem_cons.mpr ⟨lw_p124, List.forall_mem_cons.mpr ⟨lw_p125, List.forall_mem_cons.mpr ⟨lw_p126, List.forall_mem_cons.mpr ⟨lw_p127, fun _ h => absurd h List.not_mem_nil⟩⟩⟩⟩⟩⟩⟩⟩⟩⟩⟩⟩⟩⟩⟩⟩
theorem lw_p128 : lw_okq (⟨"SugarDiceModel", "isHand", "(J)Z"⟩, 27) := ⟨⟨by decide +kernel, by decide +kernel⟩, List.mem_of_getElem? (i := 1351) (by decide +kernel), List.mem_of_getElem? (i := 1559) (by decide +kernel), List.mem_of_getElem? (i := 1560) (by decide +kernel)⟩
theorem lw_p129 : lw_okq (⟨"SugarDiceModel", "hands", "()I"⟩, 27) := ⟨⟨by decide +kernel, by decide +kernel⟩, List.mem_of_getElem? (i := 1351) (by decide +kernel), List.mem_of_getElem? (i := 1563) (by decide +kernel), List.mem_of_getElem? (i := 1564) (by decide +kernel)⟩
theorem lw_p130 : lw_okq (⟨"SugarDiceModel", "draw", "(I)I"⟩, 27) := ⟨⟨by decide +kernel, by decide +kernel⟩, List.mem_of_getElem? (i := 1351) (by decide +kernel), List.mem_of_getElem? (i := 1576) (by decide +kernel), List.mem_of_getElem? (i := 1577) (by decide +kernel)⟩
theorem lw_p131 : lw_okq (⟨"SugarDiceModel", "faceBy", "(II)I"⟩, 27) := ⟨⟨by decide +kernel, by decide +kernel⟩, List.mem_of_getElem? (i := 1351) (by decide +kernel), List.mem_of_getElem? (i := 1581) (by decide +kernel), List.mem_of_getElem? (i := 1582) (by decide +kernel)⟩
theorem lw_p132 : lw_okq (⟨"SugarDiceModel", "goes", "(III)V"⟩, 27) := ⟨⟨by decide +kernel, by decide +kernel⟩, List.mem_of_getElem? (i := 1351) (by decide +kernel), List.mem_of_getElem? (i := 1585) (by decide +kernel), List.mem_of_getElem? (i := 1586) (by decide +kernel)⟩
theorem lw_p133 : lw_okq (⟨"SugarDiceModel", "trayFault", "(I)I"⟩, 27) := ⟨⟨by decide +kernel, by decide +kernel⟩, List.mem_of_getElem? (i := 1351) (by decide +kernel), List.mem_of_getElem? (i := 1616) (by decide +kernel), List.mem_of_getElem? (i := 1617) (by decide +kernel)⟩
theorem lw_p134 : lw_okq (⟨"SugarDiceModel", "goesBy", "(I)I"⟩, 27) := ⟨⟨by decide +kernel, by decide +kernel⟩, List.mem_of_getElem? (i := 1351) (by decide +kernel), List.mem_of_getElem? (i := 1627) (by decide +kernel), List.mem_of_getElem? (i := 1628) (by decide +kernel)⟩
theorem lw_p135 : lw_okq (⟨"SugarDiceModel", "whyTold", "(J)I"⟩, 27) := ⟨⟨by decide +kernel, by decide +kernel⟩, List.mem_of_getElem? (i := 1351) (by decide +kernel), List.mem_of_getElem? (i := 1631) (by decide +kernel), List.mem_of_getElem? (i := 1632) (by decide +kernel)⟩
theorem lw_p136 : lw_okq (⟨"SugarDiceModel", "totals", "()I"⟩, 27) := ⟨⟨by decide +kernel, by decide +kernel⟩, List.mem_of_getElem? (i := 1351) (by decide +kernel), List.mem_of_getElem? (i := 1636) (by decide +kernel), List.mem_of_getElem? (i := 1637) (by decide +kernel)⟩
theorem lw_p137 : lw_okq (⟨"SugarDiceModel", "eats", "(I)I"⟩, 27) := ⟨⟨by decide +kernel, by decide +kernel⟩, List.mem_of_getElem? (i := 1351) (by decide +kernel), List.mem_of_getElem? (i := 1649) (by decide +kernel), List.mem_of_getElem? (i := 1650) (by decide +kernel)⟩
theorem lw_p138 : lw_okq (⟨"SugarDiceModel", "eatenNext", "(I)I"⟩, 27) := ⟨⟨by decide +kernel, by decide +kernel⟩, List.mem_of_getElem? (i := 1351) (by decide +kernel), List.mem_of_getElem? (i := 1653) (by decide +kernel), List.mem_of_getElem? (i := 1654) (by decide +kernel)⟩
theorem lw_p139 : lw_okq (⟨"SugarDiceModel", "laysRow", "(I)V"⟩, 27) := ⟨⟨by decide +kernel, by decide +kernel⟩, List.mem_of_getElem? (i := 1351) (by decide +kernel), List.mem_of_getElem? (i := 1661) (by decide +kernel), List.mem_of_getElem? (i := 1662) (by decide +kernel)⟩
theorem lw_p140 : lw_okq (⟨"SugarDiceModel", "putsRow", "(I)V"⟩, 27) := ⟨⟨by decide +kernel, by decide +kernel⟩, List.mem_of_getElem? (i := 1351) (by decide +kernel), List.mem_of_getElem? (i := 1665) (by decide +kernel), List.mem_of_getElem? (i := 1666) (by decide +kernel)⟩
theorem lw_p141 : lw_okq (⟨"SugarDiceModel", "setFault", "(I)I"⟩, 27) := ⟨⟨by decide +kernel, by decide +kernel⟩, List.mem_of_getElem? (i := 1351) (by decide +kernel), List.mem_of_getElem? (i := 1694) (by decide +kernel), List.mem_of_getElem? (i := 1695) (by decide +kernel)⟩
theorem lw_p142 : lw_okq (⟨"SugarDiceModel", "all", "(I)J"⟩, 27) := ⟨⟨by decide +kernel, by decide +kernel⟩, List.mem_of_getElem? (i := 1351) (by decide +kernel), List.mem_of_getElem? (i := 1701) (by decide +kernel), List.mem_of_getElem? (i := 1702) (by decide +kernel)⟩
theorem lw_p143 : lw_okq (⟨"SugarDiceModel", "laysWays", "(I)V"⟩, 27) := ⟨⟨by decide +kernel, by decide +kernel⟩, List.mem_of_getElem? (i := 1351) (by decide +kernel), List.mem_of_getElem? (i := 1709) (by decide +kernel), List.mem_of_getElem? (i := 1710) (by decide +kernel)⟩
def lw_privs_9 : List (MethodName × Nat) := [(⟨"SugarDiceModel", "isHand", "(J)Z"⟩, 27), (⟨"SugarDiceModel", "hands", "()I"⟩, 27), (⟨"SugarDiceModel", "draw", "(I)I"⟩, 27), (⟨"SugarDiceModel", "faceBy", "(II)I"⟩, 27), (⟨"SugarDiceModel", "goes", "(III)V"⟩, 27), (⟨"SugarDiceModel", "trayFault", "(I)I"⟩, 27), (⟨"SugarDiceModel", "goesBy", "(I)I"⟩, 27), (⟨"SugarDiceModel", "whyTold", "(J)I"⟩, 27), (⟨"SugarDiceModel", "totals", "()I"⟩, 27), (⟨"SugarDiceModel", "eats", "(I)I"⟩, 27), (⟨"SugarDiceModel", "eatenNext", "(I)I"⟩, 27), (⟨"SugarDiceModel", "laysRow", "(I)V"⟩, 27), (⟨"SugarDiceModel", "putsRow", "(I)V"⟩, 27), (⟨"SugarDiceModel", "setFault", "(I)I"⟩, 27), (⟨"SugarDiceModel", "all", "(I)J"⟩, 27), (⟨"SugarDiceModel", "laysWays", "(I)V"⟩, 27)]
theorem lw_r9 : ∀ q ∈ lw_privs_9, lw_okq q := List.forall_mem_cons.mpr ⟨lw_p128, List.forall_mem_cons.mpr ⟨lw_p129, List.forall_mem_cons.mpr ⟨lw_p130, List.forall_mem_cons.mpr ⟨lw_p131, List.forall_mem_cons.mpr ⟨lw_p132, List.forall_mem_cons.mpr ⟨lw_p133, List.forall_mem_cons.mpr ⟨lw_p134, List.forall_mem_cons.mpr ⟨lw_p135, List.forall_mem_cons.mpr ⟨lw_p136, List.forall_mem_cons.mpr ⟨lw_p137, List.forall_mem_cons.mpr ⟨lw_p138, List.forall_mem_cons.mpr ⟨lw_p139, List.forall_mem_cons.mpr ⟨lw_p140, List.forall_mem_cons.mpr ⟨lw_p141, List.forall_mem_cons.mpr ⟨lw_p142, List.forall_mem_cons.mpr ⟨lw_p143, fun _ h => absurd h List.not_mem_nil⟩⟩⟩⟩⟩⟩⟩⟩⟩⟩⟩⟩⟩⟩⟩⟩
theorem lw_p144 : lw_okq (⟨"SugarDiceModel", "atLeast", "(II)J"⟩, 27) := ⟨⟨by decide +kernel, by decide +kernel⟩, List.mem_of_getElem? (i := 1351) (by decide +kernel), List.mem_of_getElem? (i := 1718) (by decide +kernel), List.mem_of_getElem? (i := 1719) (by decide +kernel)⟩
theorem lw_p145 : lw_okq (⟨"SugarDiceModel", "unlikeOf", "(IZ)J"⟩, 27) := ⟨⟨by decide +kernel, by decide +kernel⟩, List.mem_of_getElem? (i := 1351) (by decide +kernel), List.mem_of_getElem? (i := 1742) (by decide +kernel), List.mem_of_getElem? (i := 1743) (by decide +kernel)⟩
theorem lw_p146 : lw_okq (⟨"SugarDiceModel", "laysUnlike", "(I)V"⟩, 27) := ⟨⟨by decide +kernel, by decide +kernel⟩, List.mem_of_getElem? (i := 1351) (by decide +kernel), List.mem_of_getElem? (i := 1746) (by decide +kernel), List.mem_of_getElem? (i := 1747) (by decide +kernel)⟩
theorem lw_p147 : lw_okq (⟨"SugarDiceModel", "twoFault", "(II)I"⟩, 27) := ⟨⟨by decide +kernel, by decide +kernel⟩, List.mem_of_getElem? (i := 1351) (by decide +kernel), List.mem_of_getElem? (i := 1789) (by decide +kernel), List.mem_of_getElem? (i := 1790) (by decide +kernel)⟩
theorem lw_p148 : lw_okq (⟨"SugarDiceModel", "beatsOf", "(II)I"⟩, 27) := ⟨⟨by decide +kernel, by decide +kernel⟩, List.mem_of_getElem? (i := 1351) (by decide +kernel), List.mem_of_getElem? (i := 1793) (by decide +kernel), List.mem_of_getElem? (i := 1794) (by decide +kernel)⟩
theorem lw_p149 : lw_okq (⟨"SugarDiceModel", "tiesOf", "(II)I"⟩, 27) := ⟨⟨by decide +kernel, by decide +kernel⟩, List.mem_of_getElem? (i := 1351) (by decide +kernel), List.mem_of_getElem? (i := 1801) (by decide +kernel), List.mem_of_getElem? (i := 1802) (by decide +kernel)⟩
theorem lw_p150 : lw_okq (⟨"SugarDiceModel", "isBetter", "(II)Z"⟩, 27) := ⟨⟨by decide +kernel, by decide +kernel⟩, List.mem_of_getElem? (i := 1351) (by decide +kernel), List.mem_of_getElem? (i := 1809) (by decide +kernel), List.mem_of_getElem? (i := 1810) (by decide +kernel)⟩
theorem lw_p151 : lw_okq (⟨"SugarDiceModel", "isRing", "(III)Z"⟩, 27) := ⟨⟨by decide +kernel, by decide +kernel⟩, List.mem_of_getElem? (i := 1351) (by decide +kernel), List.mem_of_getElem? (i := 1817) (by decide +kernel), List.mem_of_getElem? (i := 1818) (by decide +kernel)⟩
theorem lw_p152 : lw_okq (⟨"SugarDiceModel", "games", "(IIJJJ)J"⟩, 27) := ⟨⟨by decide +kernel, by decide +kernel⟩, List.mem_of_getElem? (i := 1351) (by decide +kernel), List.mem_of_getElem? (i := 1825) (by decide +kernel), List.mem_of_getElem? (i := 1826) (by decide +kernel)⟩
theorem lw_p153 : lw_okq (⟨"SugarDiceModel", "moreOf", "(IIII)J"⟩, 27) := ⟨⟨by decide +kernel, by decide +kernel⟩, List.mem_of_getElem? (i := 1351) (by decide +kernel), List.mem_of_getElem? (i := 1833) (by decide +kernel), List.mem_of_getElem? (i := 1834) (by decide +kernel)⟩
theorem lw_p154 : lw_okq (⟨"SugarDiceModel", "facesFault", "(I)I"⟩, 27) := ⟨⟨by decide +kernel, by decide +kernel⟩, List.mem_of_getElem? (i := 1351) (by decide +kernel), List.mem_of_getElem? (i := 1852) (by decide +kernel), List.mem_of_getElem? (i := 1853) (by decide +kernel)⟩
theorem lw_p155 : lw_okq (⟨"SugarDiceModel", "faceTold", "(II)I"⟩, 27) := ⟨⟨by decide +kernel, by decide +kernel⟩, List.mem_of_getElem? (i := 1351) (by decide +kernel), List.mem_of_getElem? (i := 1856) (by decide +kernel), List.mem_of_getElem? (i := 1857) (by decide +kernel)⟩
theorem lw_p156 : lw_okq (⟨"SugarDiceModel", "wears", "(IIII)Z"⟩, 27) := ⟨⟨by decide +kernel, by decide +kernel⟩, List.mem_of_getElem? (i := 1351) (by decide +kernel), List.mem_of_getElem? (i := 1868) (by decide +kernel), List.mem_of_getElem? (i := 1869) (by decide +kernel)⟩
theorem lw_p157 : lw_okq (⟨"SugarDiceModel", "offOf", "(I)I"⟩, 27) := ⟨⟨by decide +kernel, by decide +kernel⟩, List.mem_of_getElem? (i := 1351) (by decide +kernel), List.mem_of_getElem? (i := 1884) (by decide +kernel), List.mem_of_getElem? (i := 1885) (by decide +kernel)⟩
theorem lw_p158 : lw_okq (⟨"SugarDiceModel", "cut", "(IIJ)J"⟩, 27) := ⟨⟨by decide +kernel, by decide +kernel⟩, List.mem_of_getElem? (i := 1351) (by decide +kernel), List.mem_of_getElem? (i := 1900) (by decide +kernel), List.mem_of_getElem? (i := 1901) (by decide +kernel)⟩
def lw_privs_10 : List (MethodName × Nat) := [(⟨"SugarDiceModel", "atLeast", "(II)J"⟩, 27), (⟨"SugarDiceModel", "unlikeOf", "(IZ)J"⟩, 27), (⟨"SugarDiceModel", "laysUnlike", "(I)V"⟩, 27), (⟨"SugarDiceModel", "twoFault", "(II)I"⟩, 27), (⟨"SugarDiceModel", "beatsOf", "(II)I"⟩, 27), (⟨"SugarDiceModel", "tiesOf", "(II)I"⟩, 27), (⟨"SugarDiceModel", "isBetter", "(II)Z"⟩, 27), (⟨"SugarDiceModel", "isRing", "(III)Z"⟩, 27), (⟨"SugarDiceModel", "games", "(IIJJJ)J"⟩, 27), (⟨"SugarDiceModel", "moreOf", "(IIII)J"⟩, 27), (⟨"SugarDiceModel", "facesFault", "(I)I"⟩, 27), (⟨"SugarDiceModel", "faceTold", "(II)I"⟩, 27), (⟨"SugarDiceModel", "wears", "(IIII)Z"⟩, 27), (⟨"SugarDiceModel", "offOf", "(I)I"⟩, 27), (⟨"SugarDiceModel", "cut", "(IIJ)J"⟩, 27)]
theorem lw_r10 : ∀ q ∈ lw_privs_10, lw_okq q := List.forall_mem_cons.mpr ⟨lw_p144, List.forall_mem_cons.mpr ⟨lw_p145, List.forall_mem_cons.mpr ⟨lw_p146, List.forall_mem_cons.mpr ⟨lw_p147, List.forall_mem_cons.mpr ⟨lw_p148, List.forall_mem_cons.mpr ⟨lw_p149, List.forall_mem_cons.mpr ⟨lw_p150, List.forall_mem_cons.mpr ⟨lw_p151, List.forall_mem_cons.mpr ⟨lw_p152, List.forall_mem_cons.mpr ⟨lw_p153, List.forall_mem_cons.mpr ⟨lw_p154, List.forall_mem_cons.mpr ⟨lw_p155, List.forall_mem_cons.mpr ⟨lw_p156, List.forall_mem_cons.mpr ⟨lw_p157, List.forall_mem_cons.mpr ⟨lw_p158, fun _ h => absurd h List.not_mem_nil⟩⟩⟩⟩⟩⟩⟩⟩⟩⟩⟩⟩⟩⟩⟩
def lw_privs : List (MethodName × Nat) := lw_privs_1 ++ (lw_privs_2 ++ (lw_privs_3 ++ (lw_privs_4 ++ (lw_privs_5 ++ (lw_privs_6 ++ (lw_privs_7 ++ (lw_privs_8 ++ (lw_privs_9 ++ (lw_privs_10)))))))))
def lw_tbl : List Cond := k2_sels lw_privs ++ tables_1
theorem lw_privs_ok : ∀ q ∈ lw_privs, lw_okq q := by
  show ∀ q ∈ lw_privs_1 ++ (lw_privs_2 ++ (lw_privs_3 ++ (lw_privs_4 ++ (lw_privs_5 ++ (lw_privs_6 ++ (lw_privs_7 ++ (lw_privs_8 ++ (lw_privs_9 ++ (lw_privs_10))))))))), lw_okq q
  exact List.forall_mem_append.mpr ⟨lw_r1, List.forall_mem_append.mpr ⟨lw_r2, List.forall_mem_append.mpr ⟨lw_r3, List.forall_mem_append.mpr ⟨lw_r4, List.forall_mem_append.mpr ⟨lw_r5, List.forall_mem_append.mpr ⟨lw_r6, List.forall_mem_append.mpr ⟨lw_r7, List.forall_mem_append.mpr ⟨lw_r8, List.forall_mem_append.mpr ⟨lw_r9, lw_r10⟩⟩⟩⟩⟩⟩⟩⟩⟩
end
section
/-! ===== BEGIN words of one list among another's, by their places ===== -/
theorem goodIn_r {big : List Cond} (ws : List Cond) (ps : List Nat) (hp : ws = ps.filterMap (fun i => big[i]?)) (h : ws.all goodWord = true) : GoodIn big ws := by
  intro w hw
  have h1 := List.all_eq_true.mp h w hw
  rw [hp] at hw
  obtain ⟨i, -, hi⟩ := List.mem_filterMap.mp hw
  have hm : w ∈ big := by first | exact List.mem_of_getElem? hi | exact List.getElem?_mem hi
  exact ⟨hm, good_of_word h1⟩
theorem goodIn_app {big a b : List Cond} (ha : GoodIn big a) (hb : GoodIn big b) : GoodIn big (a ++ b) := fun w h => (List.mem_append.mp h).elim (ha w) (hb w)
theorem goodIn_ca {big a b : List Cond} {c : Cond} (ha : GoodIn big (c :: a)) (hb : GoodIn big b) : GoodIn big (c :: (a ++ b)) := fun w h => (List.mem_cons.mp h).elim (fun e => ha w (List.mem_cons.mpr (Or.inl e))) (fun h => (List.mem_append.mp h).elim (fun h => ha w (List.mem_cons.mpr (Or.inr h))) (hb w))
theorem goodIn_sub {big ws : List Cond} (hm : ∀ w ∈ ws, w ∈ big) (h : ws.all goodWord = true) : GoodIn big ws := fun w hw => ⟨hm w hw, good_of_word (List.all_eq_true.mp h w hw)⟩
/-! ===== END ===== -/

/-! ===== BEGIN exceptions that leave a method, and their catching by the caller (launches without stack traces) ===== -/
section VXA
/-! The laws vx_back, vx_callV, vx_callS, vx_callSW, vx_throw0, vx_throwS follow proofs of the library, with one case more: JvmDerived/Free/Laws.lean (Back.of_free), Shelf42/LK1.lean (callV, callS), Shelf/KitTraced.lean (throwNew0V, throwNewS). -/
/-- where a method has thrown q: the class by its name, the cell, what was written, the world -/
def vx_T (XC : String → State → State → Prop) (st : State) (q : Addr) (t : State) (mc ms : Nat) (free : Addr → Prop) : Prop :=
  ∃ (E : String) (ce : Cell) (L : List Loc), XC E st t ∧ t.heap[q]? = some ce ∧ ce.vm = .none ∧ st.vm.findClass E = some ce.cls ∧ st.WarmedH t.vm ∧ st.sameButNew ({ t with vm := st.vm } : State) L mc ms ∧ ∀ z ∈ L, free z.base
def vx_Q (Qc : Array Value → State → Outcome → State → Prop) (XC : String → State → State → Prop) (mc ms : Nat) (free : Addr → Prop) : Array Value → State → Outcome → State → Prop := fun a st o t =>
  (Qc a st o t ∧ ∃ L, FrameEnd st o t L mc ms ∧ ∀ q ∈ L, free q.base) ∨ ∃ q, o = .threw q ∧ vx_T XC st q t mc ms free
/-- a callee that returns or throws -/
def vx_Met (l : Launch) (y : MethodName) (ws : List Cond) (rm : Room) (Pc : Array Value → State → Prop) (Qc : Array Value → State → Outcome → State → Prop) (XC : String → State → State → Prop) (mc ms : Nat) (free : Addr → Prop) : Prop :=
  MetFree l y (headSpec ws rm) Pc (fun _ _ _ _ _ => True) (vx_Q Qc XC mc ms free)
def vx_Post (XC : String → State → State → Prop) (mc ms : Nat) (free : Addr → Prop) : Pt → Array Value → Addr → Pt → Prop := fun A a q B =>
  ∃ (g : JFrame) (mk : MethodId) (t : State) (L : List Loc) (E : String) (ce : Cell), B.U.heap = t.heap ∧ B.U.vm = t.vm ∧ XC E (A.U.calling g mk a) t ∧ t.heap[q]? = some ce ∧ ce.vm = .none ∧ A.U.vm.findClass E = some ce.cls ∧ B.locs = A.locs ++ L ∧ (∀ z ∈ L, free z.base) ∧ B.cells = A.cells + mc ∧ B.slots = A.slots + ms
def vx_Back (l : Launch) (R : Room) (p : Program) (e : Env) (below : List Frame) (s : State) (sargs : Array Value) (y : MethodName) (len W9 : Nat)
    (Pre : Pt → Array Value → Prop) (Post : Pt → Array Value → Option Value → Pt → Prop) (PostX : Pt → Array Value → Addr → Pt → Prop) : Prop :=
  ∀ (m : MethodId) (meth : Method) (c : Code) (A : Pt) (g : JFrame) (ig : Instr) (mk : MethodId) (a : Array Value),
    Stand p l e R s m sargs below meth c A.U A.locs A.cells A.slots → g.method = m → g.locals.size = c.maxLocals → decode c.code g.pc = .ok (ig, len) →
    2 * g.monitorRoom + (g.stack.map fun v => v.category).sum ≤ W9 → A.U.methodNamed? y = some mk → Pre A a →
    (∃ (v : Option Value) (B : Pt), Stand p l e R s m sargs below meth c B.U B.locs B.cells B.slots ∧ Post A a v B ∧
      Steps p.tables e below (doInvoke e (A.U.setTop g) [] mk a).1 (B.U.setTop { g with pc := g.pc + len, stack := v.toList ++ g.stack })) ∨
    (∃ (q : Addr) (B : Pt), Stand p l e R s m sargs below meth c B.U B.locs B.cells B.slots ∧ PostX A a q B ∧
      Steps p.tables e below (doInvoke e (A.U.setTop g) [] mk a).1 ((B.U.setTop g).pushFrame (.throwing q)))
section Payer
variable {l : Launch} {R : Room} {p : Program} {e : Env} {below : List Frame} {s : State} {sargs : Array Value} {y : MethodName} {len W9 : Nat}
theorem vx_back {ws : List Cond} {rm : Room} {Pc : Array Value → State → Prop} {Qc : Array Value → State → Outcome → State → Prop} {XC : String → State → State → Prop} {mc ms : Nat} {free : Addr → Prop} {bytes : ByteArray} {maxL : Nat} {ret : Option FieldType}
    (hM : vx_Met l y ws rm Pc Qc XC mc ms free) (hblind : FrameBlind Pc) (hrc : rm.cells = mc) (hrs : rm.slots = ms)
    (hframes : rm.frames + 1 ≤ R.frames) (hlocals : W9 + (maxL + 11) + rm.locals ≤ R.locals)
    (hws : ∀ w ∈ ws, ∀ a' U, s.WarmedH U.vm → w.before a' U = true) (hcode : Cond.code y bytes maxL ret ∈ ws) (hinit : ∀ a' U, s.WarmedH U.vm → (Cond.initialized y.cls).before a' U = true) :
    vx_Back l R p e below s sargs y len W9 (PreOf R mc ms Pc) (PostOf Qc mc ms free) (vx_Post XC mc ms free) := by
  intro m meth c A g ig mk a X hg hsize hdg hW hn hp
  have h1 : (headSpec ws rm).pre.before a A.U = true := atoms_intro fun w hw => hws w hw _ _ X.warmed
  have h2 : (Cond.code y bytes maxL ret).before a A.U = true := hws _ hcode _ _ X.warmed
  have h3 : (Cond.initialized y.cls).before a A.U = true := hinit _ _ X.warmed
  have h4 : A.cells + (headSpec ws rm).room.cells ≤ R.cells := by rw [show (headSpec ws rm).room.cells = mc from hrc]; exact hp.1
  have h5 : A.slots + (headSpec ws rm).room.slots ≤ R.slots := by rw [show (headSpec ws rm).room.slots = ms from hrs]; exact hp.2.1
  have hPc : Pc a (A.U.calling g mk a) := hblind _ _ _ _ hp.2.2
  obtain ⟨U, Ls, c0, s0⟩ := A
  dsimp only [Pt.U, Pt.locs, Pt.cells, Pt.slots] at h1 h2 h3 h4 h5 X hn hPc ⊢
  obtain ⟨methY, cY, hmY, hcY, -, hlY, -, -, -, -⟩ := Cond.code_spec hn h2
  obtain ⟨kY, hkY, -⟩ := className_of_methodNamed hn
  have hinitY : kY.init = .initialized := Cond.initialized_spec (findClass_of_methodNamed hn) hkY h3
  have h : At U g.method c below := by rw [hg]; exact X.here
  have hlocals9 : W9 + (maxL + 11) + (headSpec ws rm).room.locals ≤ R.locals := hlocals
  have happ : (headSpec ws rm).appliesLoose y e.platform (U.calling g mk a) = true :=
    Spec.appliesLoose_calling (g := g) h hdg hn hkY hinitY
      (X.room_calling (g := g) (R' := (headSpec ws rm).room) hsize hmY hcY hframes (by rw [hlY]; omega) h4 h5) h1
  obtain ⟨mid, hmid⟩ := h.above
  have hfr : (U.setTop g).frames = (.java g :: mid) ++ below := by rw [State.frames_setTop' g h.top, hmid]; rfl
  obtain ⟨o, s₂, hsteps, -, hend, hq⟩ := Steps.callFree hM p X.admits X.cas X.clock (acts := []) hfr happ hPc trivial
  have hq' : vx_Q Qc XC mc ms free a (U.calling g mk a) o s₂ := hq
  rw [State.frames_setTop' g h.top] at hend
  obtain ⟨g₀, hg0⟩ := Option.isSome_iff_exists.mp h.top
  obtain ⟨r, hr⟩ := State.topJava?_eq_some.mp hg0
  have hr' : (({ U with heap := s₂.heap, slotsUsed := s₂.slotsUsed } : State).setVm s₂.vm).frames = .java g₀ :: r := hr
  rcases hq' with ⟨hqc, L, hfe, hL⟩ | ⟨q, rfl, E, ce, L, hx, hce, hcv, hcl, hW₂, hsm, hL⟩
  · obtain ⟨⟨v, rfl⟩, hW₂, e2, q2, q3, q4, q5, q6⟩ := id hfe
    have e3 : s₂ = ({ (U.calling g mk a).setFrames s₂.frames with heap := s₂.heap, slotsUsed := s₂.slotsUsed } : State).setVm s₂.vm := by
      have : s₂ = ({ s₂ with vm := (U.calling g mk a).vm } : State).setVm s₂.vm := rfl
      rw [e2] at this
      exact this
    obtain ⟨c₂, i₂, len₂, hc₂, hd₂, hf₂⟩ := hend
    have hW' : U.WarmedH s₂.vm := hW₂
    have hcc : c₂ = c := by
      have h1 : s₂.code? g.method = U.code? g.method := by
        rw [State.code?_eq, State.code?_eq, hW'.alike.method?]
      exact Option.some.inj (hc₂.symm.trans (h1.trans h.code))
    subst hcc
    have hlen : len₂ = len := by rw [hdg] at hd₂; cases hd₂; rfl
    subst hlen
    have hs₂ : s₂ = (({ U with heap := s₂.heap, slotsUsed := s₂.slotsUsed } : State).setVm s₂.vm).setTop { g with pc := g.pc + len₂, stack := v.toList ++ g.stack } := by
      refine e3.trans ?_
      rw [hf₂, State.calling_eq h.top, State.setFrames_setFrames, State.setTop_of_frames _ hr', hr]
      rfl
    have hsame : U.sameButNew ({ U with heap := s₂.heap, slotsUsed := s₂.slotsUsed } : State) L mc ms := by
      refine ⟨?_, q2, q3, q4, q5, q6⟩
      obtain ⟨t, ht, -⟩ := State.frames_cons hr
      show ({ U with heap := s₂.heap, slotsUsed := s₂.slotsUsed } : State) = { U.setFrames U.frames with heap := s₂.heap, slotsUsed := s₂.slotsUsed }
      rw [State.setFrames_self ht]
    subst hg
    refine Or.inl ⟨v, ⟨(({ U with heap := s₂.heap, slotsUsed := s₂.slotsUsed } : State).setVm s₂.vm), Ls ++ L, c0 + mc, s0 + ms⟩,
      ⟨X.admits, X.cas, X.clock, X.frames, X.room, X.hears, X.method, X.code, (X.here.setHeapUsed s₂.heap s₂.slotsUsed).setVm hW'.alike, X.tail, State.WarmedH.trans X.warmed hW', X.limits, X.bytes, X.same.trans (hsame.setVm s.vm)⟩,
      ⟨g, mk, s₂, L, rfl, rfl, hqc, rfl, hL, rfl, rfl⟩, ?_⟩
    show Steps p.tables e below _ ((({ U with heap := s₂.heap, slotsUsed := s₂.slotsUsed } : State).setVm s₂.vm).setTop { g with pc := g.pc + len₂, stack := v.toList ++ g.stack })
    rw [← hs₂]
    exact hsteps
  · obtain ⟨e2, q2, q3, q4, q5, q6⟩ := id hsm
    have e3 : s₂ = ({ (U.calling g mk a).setFrames s₂.frames with heap := s₂.heap, slotsUsed := s₂.slotsUsed } : State).setVm s₂.vm := by
      have : s₂ = ({ s₂ with vm := (U.calling g mk a).vm } : State).setVm s₂.vm := rfl
      rw [e2] at this
      exact this
    have hf₂ : s₂.frames = .throwing q :: .java g :: U.frames.tail := hend
    have hW' : U.WarmedH s₂.vm := hW₂
    have hs₂ : s₂ = ((({ U with heap := s₂.heap, slotsUsed := s₂.slotsUsed } : State).setVm s₂.vm).setTop g).pushFrame (.throwing q) := by
      refine e3.trans ?_
      rw [hf₂, State.calling_eq h.top, State.setFrames_setFrames, State.pushFrame, State.frames_setTop _ hr', State.setTop_of_frames _ hr', State.setFrames_setFrames, hr]
      rfl
    have hsame : U.sameButNew ({ U with heap := s₂.heap, slotsUsed := s₂.slotsUsed } : State) L mc ms := by
      refine ⟨?_, q2, q3, q4, q5, q6⟩
      obtain ⟨t, ht, -⟩ := State.frames_cons hr
      show ({ U with heap := s₂.heap, slotsUsed := s₂.slotsUsed } : State) = { U.setFrames U.frames with heap := s₂.heap, slotsUsed := s₂.slotsUsed }
      rw [State.setFrames_self ht]
    subst hg
    refine Or.inr ⟨q, ⟨(({ U with heap := s₂.heap, slotsUsed := s₂.slotsUsed } : State).setVm s₂.vm), Ls ++ L, c0 + mc, s0 + ms⟩,
      ⟨X.admits, X.cas, X.clock, X.frames, X.room, X.hears, X.method, X.code, (X.here.setHeapUsed s₂.heap s₂.slotsUsed).setVm hW'.alike, X.tail, State.WarmedH.trans X.warmed hW', X.limits, X.bytes, X.same.trans (hsame.setVm s.vm)⟩,
      ⟨g, mk, s₂, L, E, ce, rfl, rfl, hx, hce, hcv, hcl, rfl, hL, rfl, rfl⟩, ?_⟩
    show Steps p.tables e below _ (((({ U with heap := s₂.heap, slotsUsed := s₂.slotsUsed } : State).setVm s₂.vm).setTop g).pushFrame (.throwing q))
    rw [← hs₂]
    exact hsteps
end Payer
section Calls
variable {p : Program} {l : Launch} {e : Env} {R : Room} {s : State} {m : MethodId} {args : Array Value} {below : List Frame} {meth : Method} {c : Code} {T : State} {locs : List Loc} {cells slots : Nat}
theorem vx_callV (X : Stand p l e R s m args below meth c T locs cells slots) (hexec : p.tables.exec = Jvm.exec) {own C : String} {index : Nat} {y : MethodName} {bytes : ByteArray} {maxL : Nat} {ret : Option FieldType}
    (hown : s.vm.findClass own = some m.cls) (hlink : (Cond.methodLink own index y).before args s = true) (hinst : (Cond.instanceMethod y).before args s = true) (hsel : (Cond.selects C y y).before args s = true)
    (hcode : (Cond.code y bytes maxL ret).before args s = true) (hy : y.cls ≠ "java/lang/invoke/MethodHandle" ∧ y.cls ≠ "java/lang/invoke/VarHandle")
    {W9 : Nat} {Pre : Pt → Array Value → Prop} {Post : Pt → Array Value → Option Value → Pt → Prop} {PostX : Pt → Array Value → Addr → Pt → Prop} (hK : vx_Back l R p e below s args y 3 W9 Pre Post PostX)
    {b : Addr} {cellB : Cell} (hcell : T.heap[b]? = some cellB) (hobj : cellB.vm.isStatics = false) (hcls : s.vm.findClass C = some cellB.cls)
    {g : JFrame} (hg : g.method = m) (hsize : g.locals.size = c.maxLocals) {argsL rest : List Value} (hlen : ∀ sig, parseMethodDescriptor y.desc = some sig → argsL.length = sig.parameters.length)
    (hstack : g.stack = argsL.reverse ++ .ref b :: rest) (hW : 2 * g.monitorRoom + (rest.map fun v => v.category).sum ≤ W9) (hdg : decode c.code g.pc = .ok (.invokevirtual index, 3))
    (hpre : ∀ vm₁, s.WarmedH vm₁ → Pre ⟨T.setVm vm₁, locs, cells, slots⟩ (Value.ref b :: argsL).toArray) :
    (∃ (v : Option Value) (vm₁ : Vm) (B : Pt), s.WarmedH vm₁ ∧ Stand p l e R s m args below meth c B.U B.locs B.cells B.slots ∧ Post ⟨T.setVm vm₁, locs, cells, slots⟩ (Value.ref b :: argsL).toArray v B ∧
      ∀ target, Steps p.tables e below (B.U.setTop { g with pc := g.pc + 3, stack := v.toList ++ rest }) target → Steps p.tables e below (T.setTop g) target) ∨
    (∃ (q : Addr) (vm₁ : Vm) (B : Pt), s.WarmedH vm₁ ∧ Stand p l e R s m args below meth c B.U B.locs B.cells B.slots ∧ PostX ⟨T.setVm vm₁, locs, cells, slots⟩ (Value.ref b :: argsL).toArray q B ∧
      Steps p.tables e below (T.setTop g) ((B.U.setTop { g with stack := rest }).pushFrame (.throwing q))) := by
  obtain ⟨mk, methM, hnamed, hmethM, hstM, habM⟩ := Cond.instanceMethod_spec hinst
  obtain ⟨methM', cM, hmethM', -, -, -, -, -, -, hsigM⟩ := Cond.code_spec hnamed hcode
  cases hmethM.symm.trans hmethM'
  obtain ⟨c2, r2, m2, q1, q2, q3, q4, kP, hkP, hkPi⟩ := Cond.selects_spec hsel
  cases hcls.symm.trans q1
  cases (State.methodFound?_of_named hnamed hy).symm.trans q2
  cases hnamed.symm.trans q3
  have hselP : selectMethod e.platform s.vm cellB.cls mk = .method mk := by rw [Launch.admits_selectMethod X.admits]; exact q4
  obtain ⟨vm₁, X₁, hstep₁⟩ := X.invokevirtual hexec hown hlink hnamed hmethM hstM hkP hkPi hy (a := b) (cell := cellB) hcell
    (fun z h => by rw [h] at hobj; cases hobj) hselP hmethM habM hkP hkPi (g := g) hg (argsL := argsL) (rest := rest) (hlen _ hsigM) hstack hdg
  rcases hK m meth c ⟨T.setVm vm₁, locs, cells, slots⟩ { g with stack := rest } (.invokevirtual index) mk (Value.ref b :: argsL).toArray X₁ hg hsize hdg hW (X₁.named hnamed) (hpre vm₁ X₁.warmed) with ⟨v, B, X', hpost, hsteps⟩ | ⟨q, B, X', hpost, hsteps⟩
  · exact Or.inl ⟨v, vm₁, B, X₁.warmed, X', hpost, fun target h => hstep₁ _ fun acts => by rw [doInvoke_state]; exact hsteps.trans h⟩
  · exact Or.inr ⟨q, vm₁, B, X₁.warmed, X', hpost, hstep₁ _ fun acts => by rw [doInvoke_state]; exact hsteps⟩
theorem vx_callS (X : Stand p l e R s m args below meth c T locs cells slots) (hexec : p.tables.exec = Jvm.exec) {own : String} {index : Nat} {y : MethodName} {bytes : ByteArray} {maxL : Nat} {ret : Option FieldType}
    (hown : s.vm.findClass own = some m.cls) (hlink : (Cond.methodLink own index y).before args s = true) (hstat : (Cond.static y).before args s = true) (hinit : (Cond.initialized y.cls).before args s = true)
    (hcode : (Cond.code y bytes maxL ret).before args s = true) (hy : y.cls ≠ "java/lang/invoke/MethodHandle" ∧ y.cls ≠ "java/lang/invoke/VarHandle")
    {W9 : Nat} {Pre : Pt → Array Value → Prop} {Post : Pt → Array Value → Option Value → Pt → Prop} {PostX : Pt → Array Value → Addr → Pt → Prop} (hK : vx_Back l R p e below s args y 3 W9 Pre Post PostX)
    {g : JFrame} (hg : g.method = m) (hsize : g.locals.size = c.maxLocals) {argsL rest : List Value} (hlen : ∀ sig, parseMethodDescriptor y.desc = some sig → argsL.length = sig.parameters.length)
    (hstack : g.stack = argsL.reverse ++ rest) (hW : 2 * g.monitorRoom + (rest.map fun v => v.category).sum ≤ W9) (hdg : decode c.code g.pc = .ok (.invokestatic index, 3))
    (hpre : ∀ vm₁, s.WarmedH vm₁ → Pre ⟨T.setVm vm₁, locs, cells, slots⟩ argsL.toArray) :
    (∃ (v : Option Value) (vm₁ : Vm) (B : Pt), s.WarmedH vm₁ ∧ Stand p l e R s m args below meth c B.U B.locs B.cells B.slots ∧ Post ⟨T.setVm vm₁, locs, cells, slots⟩ argsL.toArray v B ∧
      ∀ target, Steps p.tables e below (B.U.setTop { g with pc := g.pc + 3, stack := v.toList ++ rest }) target → Steps p.tables e below (T.setTop g) target) ∨
    (∃ (q : Addr) (vm₁ : Vm) (B : Pt), s.WarmedH vm₁ ∧ Stand p l e R s m args below meth c B.U B.locs B.cells B.slots ∧ PostX ⟨T.setVm vm₁, locs, cells, slots⟩ argsL.toArray q B ∧
      Steps p.tables e below (T.setTop g) ((B.U.setTop { g with stack := rest }).pushFrame (.throwing q))) := by
  obtain ⟨mk, hnamed⟩ := Cond.code_named hcode
  obtain ⟨methM, cM, hmethM, -, -, -, -, -, -, hsigM⟩ := Cond.code_spec hnamed hcode
  have hstatic : methM.isStatic = true := Cond.static_spec hnamed hmethM hstat
  obtain ⟨kP, hkP, -⟩ := className_of_methodNamed hnamed
  have hinitP : kP.init = .initialized := Cond.initialized_spec (findClass_of_methodNamed hnamed) hkP hinit
  obtain ⟨vm₁, X₁, hstep₁⟩ := X.invokestatic hexec hown hlink hnamed hmethM hstatic hkP hinitP hy (g := g) hg (argsL := argsL) (rest := rest) (hlen _ hsigM) hstack hdg
  rcases hK m meth c ⟨T.setVm vm₁, locs, cells, slots⟩ { g with stack := rest } (.invokestatic index) mk argsL.toArray X₁ hg hsize hdg hW (X₁.named hnamed) (hpre vm₁ X₁.warmed) with ⟨v, B, X', hpost, hsteps⟩ | ⟨q, B, X', hpost, hsteps⟩
  · exact Or.inl ⟨v, vm₁, B, X₁.warmed, X', hpost, fun target h => hstep₁ _ fun acts => by rw [doInvoke_state]; exact hsteps.trans h⟩
  · exact Or.inr ⟨q, vm₁, B, X₁.warmed, X', hpost, hstep₁ _ fun acts => by rw [doInvoke_state]; exact hsteps⟩
end Calls
theorem vx_cls {s : State} {T : State} {vm₁ : Vm} {E : String} {k : ClassId} (hW : s.WarmedH vm₁) (h : (T.setVm vm₁).vm.findClass E = some k) : s.vm.findClass E = some k := by
  have h1 : vm₁.findClass E = some k := h
  rw [hW.alike.findClass] at h1
  exact h1
/-- the method's frame g, with q thrown over it -/
def vx_W (p : Program) (l : Launch) (e : Env) (R : Room) (s : State) (m : MethodId) (args : Array Value) (below : List Frame) (meth : Method) (c : Code) (H : Heap) (locs : List Loc) (cells slots : Nat) (Q : State → Prop) (g : JFrame) (q : Addr) : Prop :=
  ∀ T : State, T.heap = H → Stand p l e R s m args below meth c T locs cells slots → ∃ t, Steps p.tables e below ((T.setTop g).pushFrame (.throwing q)) t ∧ Q t
def vx_Run (p : Program) (l : Launch) (e : Env) (R : Room) (s : State) (m : MethodId) (args : Array Value) (below : List Frame) (meth : Method) (c : Code) (H : Heap) (locs : List Loc) (cells slots mc ms : Nat) (g : JFrame) (rest : List Value) (Qa : State → Outcome → State → Prop) (XC : String → State → State → Prop) (free : Addr → Prop) : Prop :=
  ∀ T : State, T.heap = H → Stand p l e R s m args below meth c T locs cells slots →
    (∃ (v : Option Value) (st₀ t T' : State) (L : List Loc), st₀.heap = H ∧ Stand p l e R s m args below meth c T' (locs ++ L) (cells + mc) (slots + ms) ∧ (∀ q ∈ L, free q.base) ∧ T'.heap = t.heap ∧ T'.vm = t.vm ∧ Qa st₀ (.returned v) t ∧
      Goes p e below T g T' { g with pc := g.pc + 3, stack := v.toList ++ rest }) ∨
    (∃ (q : Addr) (st₀ t T' : State) (L : List Loc) (E : String) (ce : Cell), st₀.heap = H ∧ Stand p l e R s m args below meth c T' (locs ++ L) (cells + mc) (slots + ms) ∧ (∀ z ∈ L, free z.base) ∧ T'.heap = t.heap ∧ T'.vm = t.vm ∧ XC E st₀ t ∧ t.heap[q]? = some ce ∧ ce.vm = .none ∧ s.vm.findClass E = some ce.cls ∧
      Steps p.tables e below (T.setTop g) ((T'.setTop { g with stack := rest }).pushFrame (.throwing q)))
def vx_X {S : Type} (px : S → Prop) (B : String → S → State → Prop) (A : Nat → Prop) : String → State → State → Prop := fun E st t => ∃ u : S, px u ∧ B E u t ∧ va_F A st t
section Runs
variable {p : Program} {l : Launch} {e : Env} {R : Room} {s : State} {m : MethodId} {args : Array Value} {below : List Frame} {meth : Method} {c : Code} {H : Heap} {locs : List Loc} {cells slots : Nat}
variable {y : MethodName} {bytes cc : ByteArray} {maxL nL mc ms n index : Nat} {ret : Option FieldType} {ws : List Cond} {rm : Room} {Pc : Array Value → State → Prop} {Qc : Array Value → State → Outcome → State → Prop} {XC : String → State → State → Prop} {free : Addr → Prop} {Ts : List Cond} {own C : String} {b : Addr} {As rest : List Value} {g : JFrame}
theorem vx_callBack (cb : CallB R s args own index y bytes maxL ret ws rm mc ms n) (hM : vx_Met l y ws rm Pc Qc XC mc ms free) (hbl : FrameBlind Pc) : vx_Back l R p e below s args y 3 8 (PreOf R mc ms Pc) (PostOf Qc mc ms free) (vx_Post XC mc ms free) := by
  obtain ⟨hrc, hrs, hfr, hlo, hws, hcw, -, hini, -⟩ := cb
  exact vx_back (bytes := bytes) (maxL := maxL) (ret := ret) hM hbl hrc hrs hfr hlo hws hcw (fun a' U hW => word_at hW (Or.inl (by first | rfl | simp [Cond.onTables, Cond.keeps, Cond.steady])) hini)
theorem vx_runV (S : CallFix p m c cc nL s args Ts own) (hM : vx_Met l y ws rm Pc Qc XC mc ms free) (cw : CallW R s args own C index y bytes maxL ret ws rm mc ms n) (hp : PreV s H C b Pc As)
    (hg : g.method = m) (hn : As.length = n) (hsize : g.locals.size = nL) (hstack : g.stack = As.reverse ++ .ref b :: rest) (hW : 2 * g.monitorRoom + (rest.map fun v => v.category).sum ≤ 8) (hdg : decode cc g.pc = .ok (.invokevirtual index, 3)) (hf : cells + mc ≤ R.cells ∧ slots + ms ≤ R.slots) :
    vx_Run p l e R s m args below meth c H locs cells slots mc ms g rest (Qc (Value.ref b :: As).toArray) XC free := by
  have hK : vx_Back l R p e below s args y 3 8 (PreOf R mc ms Pc) (PostOf Qc mc ms free) (vx_Post XC mc ms free) := vx_callBack cw.1 hM hp.1
  obtain ⟨⟨-, -, -, -, -, -, hcode, -, hy, hlen, hl⟩, hin, hse⟩ := cw
  obtain ⟨hx, hb, hml, ho, -⟩ := S
  obtain ⟨-, ⟨cellB, hcB, hoB, hclB⟩, hPc⟩ := hp
  intro T hT X
  rcases vx_callV X hx (C := C) (bytes := bytes) (maxL := maxL) (ret := ret) ho hl hin hse hcode hy hK (by rw [hT]; exact hcB) hoB hclB hg (hsize.trans hml.symm) (argsL := As) (rest := rest) (fun sig h => hn.trans (hlen sig h)) hstack hW (by rw [hb]; exact hdg)
    (fun vm₁ hW₁ => ⟨hf.1, hf.2, hPc (T.setVm vm₁) hT hW₁⟩) with ⟨v, vm₁, ⟨U', l2, c2, s2⟩, hW₁, X', ⟨g', mk, t, L, e1, e2, hq, h1, hL, h2, h3⟩, st⟩ | ⟨q, vm₁, ⟨U', l2, c2, s2⟩, hW₁, X', ⟨g', mk, t, L, E, ce, e1, e2, hq, hce, hcv, hcl, h1, hL, h2, h3⟩, st⟩
  · dsimp only [Pt.U, Pt.locs, Pt.cells, Pt.slots] at X' e1 e2 h1 h2 h3 st
    subst h1; subst h2; subst h3
    exact Or.inl ⟨v, (T.setVm vm₁).calling g' mk (Value.ref b :: As).toArray, t, U', L, hT, X', hL, e1, e2, hq, st⟩
  · dsimp only [Pt.U, Pt.locs, Pt.cells, Pt.slots] at X' e1 e2 h1 h2 h3 st hcl
    subst h1; subst h2; subst h3
    exact Or.inr ⟨q, (T.setVm vm₁).calling g' mk (Value.ref b :: As).toArray, t, U', L, E, ce, hT, X', hL, e1, e2, hq, hce, hcv, vx_cls hW₁ hcl, st⟩
theorem vx_runS (S : CallFix p m c cc nL s args Ts own) (hM : vx_Met l y ws rm Pc Qc XC mc ms free) (cw : CallB R s args own index y bytes maxL ret ws rm mc ms n ∧ (Cond.static y).before args s = true) (hp : PreS s H Pc As)
    (hg : g.method = m) (hn : As.length = n) (hsize : g.locals.size = nL) (hstack : g.stack = As.reverse ++ rest) (hW : 2 * g.monitorRoom + (rest.map fun v => v.category).sum ≤ 8) (hdg : decode cc g.pc = .ok (.invokestatic index, 3)) (hf : cells + mc ≤ R.cells ∧ slots + ms ≤ R.slots) :
    vx_Run p l e R s m args below meth c H locs cells slots mc ms g rest (Qc As.toArray) XC free := by
  have hK : vx_Back l R p e below s args y 3 8 (PreOf R mc ms Pc) (PostOf Qc mc ms free) (vx_Post XC mc ms free) := vx_callBack cw.1 hM hp.1
  obtain ⟨⟨-, -, -, -, -, -, hcode, hini, hy, hlen, hl⟩, hstt⟩ := cw
  obtain ⟨hx, hb, hml, ho, -⟩ := S
  intro T hT X
  rcases vx_callS X hx (bytes := bytes) (maxL := maxL) (ret := ret) ho hl hstt hini hcode hy hK hg (hsize.trans hml.symm) (argsL := As) (rest := rest) (fun sig h => hn.trans (hlen sig h)) hstack hW (by rw [hb]; exact hdg)
    (fun vm₁ hW₁ => ⟨hf.1, hf.2, hp.2 (T.setVm vm₁) hT hW₁⟩) with ⟨v, vm₁, ⟨U', l2, c2, s2⟩, hW₁, X', ⟨g', mk, t, L, e1, e2, hq, h1, hL, h2, h3⟩, st⟩ | ⟨q, vm₁, ⟨U', l2, c2, s2⟩, hW₁, X', ⟨g', mk, t, L, E, ce, e1, e2, hq, hce, hcv, hcl, h1, hL, h2, h3⟩, st⟩
  · dsimp only [Pt.U, Pt.locs, Pt.cells, Pt.slots] at X' e1 e2 h1 h2 h3 st
    subst h1; subst h2; subst h3
    exact Or.inl ⟨v, (T.setVm vm₁).calling g' mk As.toArray, t, U', L, hT, X', hL, e1, e2, hq, st⟩
  · dsimp only [Pt.U, Pt.locs, Pt.cells, Pt.slots] at X' e1 e2 h1 h2 h3 st hcl
    subst h1; subst h2; subst h3
    exact Or.inr ⟨q, (T.setVm vm₁).calling g' mk As.toArray, t, U', L, E, ce, hT, X', hL, e1, e2, hq, hce, hcv, vx_cls hW₁ hcl, st⟩
end Runs
section Rows
variable {p : Program} {l : Launch} {e : Env} {R : Room} {s : State} {m : MethodId} {args : Array Value} {below : List Frame} {meth : Method} {c : Code} {H : Heap} {locs : List Loc} {cells slots : Nat} {Q : State → Prop}
variable {mc ms : Nat} {free : Addr → Prop} {A0 A1 : Nat → Prop} {H0 : Heap} {a : Array Value} {pc : Nat} {ls : Array Slot} {st0 rest : List Value}
theorem vx_keep {st₀ t T' : State} {L : List Loc} (h0 : st₀.heap = H) (e1 : T'.heap = t.heap) (hS : va_S A0 H0 H locs) (hA : ∀ q, q < H.size → A1 q → A0 q) (hf : ∀ q, free q → A0 q) (hL : ∀ q ∈ L, free q.base) (hF : va_F A1 st₀ t) :
    H.size ≤ T'.heap.size ∧ (∀ q : Nat, q < H.size → ¬ A1 q → T'.heap[q]? = H[q]?) ∧ va_S A0 H0 T'.heap (locs ++ L) := by
  obtain ⟨hz, hk⟩ := hF
  rw [h0] at hz hk
  exact ⟨by rw [e1]; exact hz, fun q h1 h2 => by rw [e1]; exact hk q h1 h2,
    ⟨Nat.le_trans hS.1 (by rw [e1]; exact hz), fun q h1 h2 => by rw [e1, hk q (Nat.lt_of_lt_of_le h1 hS.1) (fun z => h2 (hA q (Nat.lt_of_lt_of_le h1 hS.1) z))]; exact hS.2.1 q h1 h2, fun q hq => by
      rcases List.mem_append.mp hq with h | h
      · exact hS.2.2 q h
      · exact hf _ (hL q h)⟩⟩
theorem vx_calli {S SX : Type} {post : Int32 → S → Prop} {px : SX → Prop} {B : S → State → Prop} {BX : String → SX → State → Prop} {AX : Nat → Prop} (hr : vx_Run p l e R s m args below meth c H locs cells slots mc ms (F0 m pc ls st0) rest (va_Qi post B A1 a) (vx_X px BX AX) free) (hS : va_S A0 H0 H locs) (hA : ∀ q, q < H.size → A1 q → A0 q) (hf : ∀ q, free q → A0 q) (hAX : ∀ q, q < H.size → AX q → A0 q)
    (kx : ∀ (E : String) (ce : Cell) (q9 : Addr) (u : SX) (t : State) (H1 : Heap) (locs1 : List Loc), t.heap = H1 → s.vm.Alike t.vm → px u → BX E u t → H.size ≤ H1.size → (∀ q : Nat, q < H.size → ¬ AX q → H1[q]? = H[q]?) → va_S A0 H0 H1 locs1 → H1[q9]? = some ce → ce.vm = .none → s.vm.findClass E = some ce.cls → vx_W p l e R s m args below meth c H1 locs1 (cells + mc) (slots + ms) Q (F0 m pc ls rest) q9)
    (kk : ∀ (r : Int32) (u : S) (t : State) (H1 : Heap) (locs1 : List Loc), t.heap = H1 → s.vm.Alike t.vm → post r u → B u t → H.size ≤ H1.size → (∀ q : Nat, q < H.size → ¬ A1 q → H1[q]? = H[q]?) → va_S A0 H0 H1 locs1 → W p l e R s m args below meth c H1 locs1 (cells + mc) (slots + ms) Q (F0 m (pc + 3) ls (.int r :: rest))) : W p l e R s m args below meth c H locs cells slots Q (F0 m pc ls st0) := by
  intro T hT X
  rcases hr T hT X with ⟨v, st₀, t, T', L, h0, X', hL, e1, e2, ⟨⟨r, u, hv, hp, hb⟩, hF⟩, st⟩ | ⟨q, st₀, t, T', L, E, ce, h0, X', hL, e1, e2, ⟨u, hp, hb, hF⟩, hce, hcv, hcl, st⟩
  · cases hv
    obtain ⟨k1, k2, k3⟩ := vx_keep h0 e1 hS hA hf hL hF
    obtain ⟨t2, a1, b1⟩ := kk r u t T'.heap (locs ++ L) e1.symm (by rw [← e2]; exact X'.warmed.alike) hp hb k1 k2 k3 T' rfl X'
    exact ⟨t2, st t2 a1, b1⟩
  · obtain ⟨k1, k2, k3⟩ := vx_keep h0 e1 hS hAX hf hL hF
    obtain ⟨t2, a1, b1⟩ := kx E ce q u t T'.heap (locs ++ L) e1.symm (by rw [← e2]; exact X'.warmed.alike) hp hb k1 k2 k3 (by rw [e1]; exact hce) hcv hcl T' rfl X'
    exact ⟨t2, st.trans a1, b1⟩
theorem vx_calll {S SX : Type} {post : Int64 → S → Prop} {px : SX → Prop} {B : S → State → Prop} {BX : String → SX → State → Prop} {AX : Nat → Prop} (hr : vx_Run p l e R s m args below meth c H locs cells slots mc ms (F0 m pc ls st0) rest (va_Ql post B A1 a) (vx_X px BX AX) free) (hS : va_S A0 H0 H locs) (hA : ∀ q, q < H.size → A1 q → A0 q) (hf : ∀ q, free q → A0 q) (hAX : ∀ q, q < H.size → AX q → A0 q)
    (kx : ∀ (E : String) (ce : Cell) (q9 : Addr) (u : SX) (t : State) (H1 : Heap) (locs1 : List Loc), t.heap = H1 → s.vm.Alike t.vm → px u → BX E u t → H.size ≤ H1.size → (∀ q : Nat, q < H.size → ¬ AX q → H1[q]? = H[q]?) → va_S A0 H0 H1 locs1 → H1[q9]? = some ce → ce.vm = .none → s.vm.findClass E = some ce.cls → vx_W p l e R s m args below meth c H1 locs1 (cells + mc) (slots + ms) Q (F0 m pc ls rest) q9)
    (kk : ∀ (r : Int64) (u : S) (t : State) (H1 : Heap) (locs1 : List Loc), t.heap = H1 → s.vm.Alike t.vm → post r u → B u t → H.size ≤ H1.size → (∀ q : Nat, q < H.size → ¬ A1 q → H1[q]? = H[q]?) → va_S A0 H0 H1 locs1 → W p l e R s m args below meth c H1 locs1 (cells + mc) (slots + ms) Q (F0 m (pc + 3) ls (.long r :: rest))) : W p l e R s m args below meth c H locs cells slots Q (F0 m pc ls st0) := by
  intro T hT X
  rcases hr T hT X with ⟨v, st₀, t, T', L, h0, X', hL, e1, e2, ⟨⟨r, u, hv, hp, hb⟩, hF⟩, st⟩ | ⟨q, st₀, t, T', L, E, ce, h0, X', hL, e1, e2, ⟨u, hp, hb, hF⟩, hce, hcv, hcl, st⟩
  · cases hv
    obtain ⟨k1, k2, k3⟩ := vx_keep h0 e1 hS hA hf hL hF
    obtain ⟨t2, a1, b1⟩ := kk r u t T'.heap (locs ++ L) e1.symm (by rw [← e2]; exact X'.warmed.alike) hp hb k1 k2 k3 T' rfl X'
    exact ⟨t2, st t2 a1, b1⟩
  · obtain ⟨k1, k2, k3⟩ := vx_keep h0 e1 hS hAX hf hL hF
    obtain ⟨t2, a1, b1⟩ := kx E ce q u t T'.heap (locs ++ L) e1.symm (by rw [← e2]; exact X'.warmed.alike) hp hb k1 k2 k3 (by rw [e1]; exact hce) hcv hcl T' rfl X'
    exact ⟨t2, st.trans a1, b1⟩
theorem vx_callf {S SX : Type} {post : UInt32 → S → Prop} {px : SX → Prop} {B : S → State → Prop} {BX : String → SX → State → Prop} {AX : Nat → Prop} (hr : vx_Run p l e R s m args below meth c H locs cells slots mc ms (F0 m pc ls st0) rest (va_Qf post B A1 a) (vx_X px BX AX) free) (hS : va_S A0 H0 H locs) (hA : ∀ q, q < H.size → A1 q → A0 q) (hf : ∀ q, free q → A0 q) (hAX : ∀ q, q < H.size → AX q → A0 q)
    (kx : ∀ (E : String) (ce : Cell) (q9 : Addr) (u : SX) (t : State) (H1 : Heap) (locs1 : List Loc), t.heap = H1 → s.vm.Alike t.vm → px u → BX E u t → H.size ≤ H1.size → (∀ q : Nat, q < H.size → ¬ AX q → H1[q]? = H[q]?) → va_S A0 H0 H1 locs1 → H1[q9]? = some ce → ce.vm = .none → s.vm.findClass E = some ce.cls → vx_W p l e R s m args below meth c H1 locs1 (cells + mc) (slots + ms) Q (F0 m pc ls rest) q9)
    (kk : ∀ (r : UInt32) (u : S) (t : State) (H1 : Heap) (locs1 : List Loc), t.heap = H1 → s.vm.Alike t.vm → post r u → B u t → H.size ≤ H1.size → (∀ q : Nat, q < H.size → ¬ A1 q → H1[q]? = H[q]?) → va_S A0 H0 H1 locs1 → W p l e R s m args below meth c H1 locs1 (cells + mc) (slots + ms) Q (F0 m (pc + 3) ls (.float r :: rest))) : W p l e R s m args below meth c H locs cells slots Q (F0 m pc ls st0) := by
  intro T hT X
  rcases hr T hT X with ⟨v, st₀, t, T', L, h0, X', hL, e1, e2, ⟨⟨r, u, hv, hp, hb⟩, hF⟩, st⟩ | ⟨q, st₀, t, T', L, E, ce, h0, X', hL, e1, e2, ⟨u, hp, hb, hF⟩, hce, hcv, hcl, st⟩
  · cases hv
    obtain ⟨k1, k2, k3⟩ := vx_keep h0 e1 hS hA hf hL hF
    obtain ⟨t2, a1, b1⟩ := kk r u t T'.heap (locs ++ L) e1.symm (by rw [← e2]; exact X'.warmed.alike) hp hb k1 k2 k3 T' rfl X'
    exact ⟨t2, st t2 a1, b1⟩
  · obtain ⟨k1, k2, k3⟩ := vx_keep h0 e1 hS hAX hf hL hF
    obtain ⟨t2, a1, b1⟩ := kx E ce q u t T'.heap (locs ++ L) e1.symm (by rw [← e2]; exact X'.warmed.alike) hp hb k1 k2 k3 (by rw [e1]; exact hce) hcv hcl T' rfl X'
    exact ⟨t2, st.trans a1, b1⟩
theorem vx_calld {S SX : Type} {post : UInt64 → S → Prop} {px : SX → Prop} {B : S → State → Prop} {BX : String → SX → State → Prop} {AX : Nat → Prop} (hr : vx_Run p l e R s m args below meth c H locs cells slots mc ms (F0 m pc ls st0) rest (va_Qd post B A1 a) (vx_X px BX AX) free) (hS : va_S A0 H0 H locs) (hA : ∀ q, q < H.size → A1 q → A0 q) (hf : ∀ q, free q → A0 q) (hAX : ∀ q, q < H.size → AX q → A0 q)
    (kx : ∀ (E : String) (ce : Cell) (q9 : Addr) (u : SX) (t : State) (H1 : Heap) (locs1 : List Loc), t.heap = H1 → s.vm.Alike t.vm → px u → BX E u t → H.size ≤ H1.size → (∀ q : Nat, q < H.size → ¬ AX q → H1[q]? = H[q]?) → va_S A0 H0 H1 locs1 → H1[q9]? = some ce → ce.vm = .none → s.vm.findClass E = some ce.cls → vx_W p l e R s m args below meth c H1 locs1 (cells + mc) (slots + ms) Q (F0 m pc ls rest) q9)
    (kk : ∀ (r : UInt64) (u : S) (t : State) (H1 : Heap) (locs1 : List Loc), t.heap = H1 → s.vm.Alike t.vm → post r u → B u t → H.size ≤ H1.size → (∀ q : Nat, q < H.size → ¬ A1 q → H1[q]? = H[q]?) → va_S A0 H0 H1 locs1 → W p l e R s m args below meth c H1 locs1 (cells + mc) (slots + ms) Q (F0 m (pc + 3) ls (.double r :: rest))) : W p l e R s m args below meth c H locs cells slots Q (F0 m pc ls st0) := by
  intro T hT X
  rcases hr T hT X with ⟨v, st₀, t, T', L, h0, X', hL, e1, e2, ⟨⟨r, u, hv, hp, hb⟩, hF⟩, st⟩ | ⟨q, st₀, t, T', L, E, ce, h0, X', hL, e1, e2, ⟨u, hp, hb, hF⟩, hce, hcv, hcl, st⟩
  · cases hv
    obtain ⟨k1, k2, k3⟩ := vx_keep h0 e1 hS hA hf hL hF
    obtain ⟨t2, a1, b1⟩ := kk r u t T'.heap (locs ++ L) e1.symm (by rw [← e2]; exact X'.warmed.alike) hp hb k1 k2 k3 T' rfl X'
    exact ⟨t2, st t2 a1, b1⟩
  · obtain ⟨k1, k2, k3⟩ := vx_keep h0 e1 hS hAX hf hL hF
    obtain ⟨t2, a1, b1⟩ := kx E ce q u t T'.heap (locs ++ L) e1.symm (by rw [← e2]; exact X'.warmed.alike) hp hb k1 k2 k3 (by rw [e1]; exact hce) hcv hcl T' rfl X'
    exact ⟨t2, st.trans a1, b1⟩
theorem vx_callv {S SX : Type} {post : S → Prop} {px : SX → Prop} {B : S → State → Prop} {BX : String → SX → State → Prop} {AX : Nat → Prop} (hr : vx_Run p l e R s m args below meth c H locs cells slots mc ms (F0 m pc ls st0) rest (va_Qv post B A1 a) (vx_X px BX AX) free) (hS : va_S A0 H0 H locs) (hA : ∀ q, q < H.size → A1 q → A0 q) (hf : ∀ q, free q → A0 q) (hAX : ∀ q, q < H.size → AX q → A0 q)
    (kx : ∀ (E : String) (ce : Cell) (q9 : Addr) (u : SX) (t : State) (H1 : Heap) (locs1 : List Loc), t.heap = H1 → s.vm.Alike t.vm → px u → BX E u t → H.size ≤ H1.size → (∀ q : Nat, q < H.size → ¬ AX q → H1[q]? = H[q]?) → va_S A0 H0 H1 locs1 → H1[q9]? = some ce → ce.vm = .none → s.vm.findClass E = some ce.cls → vx_W p l e R s m args below meth c H1 locs1 (cells + mc) (slots + ms) Q (F0 m pc ls rest) q9)
    (kk : ∀ (u : S) (t : State) (H1 : Heap) (locs1 : List Loc), t.heap = H1 → s.vm.Alike t.vm → post u → B u t → H.size ≤ H1.size → (∀ q : Nat, q < H.size → ¬ A1 q → H1[q]? = H[q]?) → va_S A0 H0 H1 locs1 → W p l e R s m args below meth c H1 locs1 (cells + mc) (slots + ms) Q (F0 m (pc + 3) ls (rest))) : W p l e R s m args below meth c H locs cells slots Q (F0 m pc ls st0) := by
  intro T hT X
  rcases hr T hT X with ⟨v, st₀, t, T', L, h0, X', hL, e1, e2, ⟨⟨u, hv, hp, hb⟩, hF⟩, st⟩ | ⟨q, st₀, t, T', L, E, ce, h0, X', hL, e1, e2, ⟨u, hp, hb, hF⟩, hce, hcv, hcl, st⟩
  · cases hv
    obtain ⟨k1, k2, k3⟩ := vx_keep h0 e1 hS hA hf hL hF
    obtain ⟨t2, a1, b1⟩ := kk u t T'.heap (locs ++ L) e1.symm (by rw [← e2]; exact X'.warmed.alike) hp hb k1 k2 k3 T' rfl X'
    exact ⟨t2, st t2 a1, b1⟩
  · obtain ⟨k1, k2, k3⟩ := vx_keep h0 e1 hS hAX hf hL hF
    obtain ⟨t2, a1, b1⟩ := kx E ce q u t T'.heap (locs ++ L) e1.symm (by rw [← e2]; exact X'.warmed.alike) hp hb k1 k2 k3 (by rw [e1]; exact hce) hcv hcl T' rfl X'
    exact ⟨t2, st.trans a1, b1⟩
/-- caught by the row x of this method's table; the rows ahead don't take it -/
theorem vx_catch {own name : String} {E : String} {ce : Cell} {q : Addr} (hown : s.vm.findClass own = some m.cls) (pre : List ExceptionTableEntry) (x : ExceptionTableEntry) (suf : List ExceptionTableEntry) (hsplit : c.exceptionTable.toList = pre ++ x :: suf)
    (hpass : ∀ z ∈ pre, covers z pc = false ∨ (z.catchType ≠ 0 ∧ ∃ nm : String, (Cond.classLink own z.catchType nm).before args s = true ∧ va_Nc E nm s)) (hx : covers x pc = true) (h0 : x.catchType ≠ 0)
    (hlink : (Cond.classLink own x.catchType name).before args s = true) (hcast : (Cond.castable E name).before args s = true) (hcell : H[q]? = some ce) (hv : ce.vm = .none) (hcl : s.vm.findClass E = some ce.cls)
    (kk : W p l e R s m args below meth c H locs cells slots Q (F0 m x.handlerPc ls [.ref q])) : vx_W p l e R s m args below meth c H locs cells slots Q (F0 m pc ls rest) q := by
  intro T hT X
  have hpl : e.platform.magicAccessors = ({} : Platform).magicAccessors := by rw [X.admits.platform]
  obtain ⟨c3, c4, hc3, hc4, hasg⟩ := Cond.castable_spec hcast
  cases Option.some.inj (hc3.symm.trans hcl)
  obtain ⟨c5, hc5, hcl5⟩ := Cond.classLink_spec hown hlink e.platform hpl
  cases Option.some.inj (hc4.symm.trans hc5)
  obtain ⟨vm', X', st⟩ := Stand.thenCaughtThrough X q (g := F0 m pc ls rest) rfl (Steps.refl _) (by rw [hT]; exact hcell) (by rw [hv]; rfl) (by obtain ⟨k9, h9, -⟩ := Vm.findClass_spec hcl; exact ⟨k9, h9⟩) pre x suf hsplit
    (fun z hz => by
      rcases hpass z hz with h | ⟨hz0, nm, hl1, hn1⟩
      · exact Or.inl h
      · obtain ⟨c6, hc6, hcl6⟩ := Cond.classLink_spec hown hl1 e.platform hpl
        obtain ⟨a8, b8, h1, h2, h3⟩ := hn1
        cases Option.some.inj (h1.symm.trans hcl)
        cases Option.some.inj (h2.symm.trans hc6)
        exact Or.inr ⟨hz0, _, hcl6, h3⟩) hx (Or.inr ⟨h0, c4, hcl5, hasg⟩)
  obtain ⟨t, a1, b1⟩ := kk (T.setVm vm') hT X'
  exact ⟨t, st.trans a1, b1⟩
end Rows
section Ends
variable {p : Program} {l : Launch} {e : Env} {R : Room} {s : State} {m : MethodId} {args : Array Value} {below : List Frame} {meth : Method} {c : Code} {H : Heap} {locs : List Loc} {cells slots : Nat} {Q : State → Prop}
variable {mc ms : Nat} {free : Addr → Prop} {A0 A1 : Nat → Prop} {H0 : Heap} {a : Array Value} {ls : Array Slot} {st0 rest : List Value}
variable {Qc : Array Value → State → Outcome → State → Prop} {XC : String → State → State → Prop}
/-- what a body that may throw owes at its end -/
def vx_MQ (below : List Frame) (Qc : Array Value → State → Outcome → State → Prop) (XC : String → State → State → Prop) (a : Array Value) (s : State) (mc ms : Nat) (free : Addr → Prop) : State → Prop := fun t =>
  ∃ o, t.status = .running ∧ Ended t below o ∧ vx_Q Qc XC mc ms free a s o t
theorem vx_ret {g : JFrame} {mc ms : Nat} (k : W p l e R s m args below meth c H locs cells slots (MQ below Qc args s mc ms free) g) : W p l e R s m args below meth c H locs cells slots (vx_MQ below Qc XC args s mc ms free) g := by
  intro T hT X
  obtain ⟨t, a1, o, b1, b2, b3, b4⟩ := k T hT X
  exact ⟨t, a1, o, b1, b2, Or.inl ⟨b3, b4⟩⟩
/-- not caught here: it goes on to the caller -/
theorem vx_widen {g : JFrame} {q : Addr} {k n : Nat} (h1 : cells ≤ k) (h2 : slots ≤ n) (kk : vx_W p l e R s m args below meth c H locs k n Q g q) : vx_W p l e R s m args below meth c H locs cells slots Q g q := fun T hT X => kk T hT (stand_widen X h1 h2)
theorem vx_out {pc : Nat} {E : String} {ce : Cell} {q : Addr} {mc ms : Nat} (hout : ∀ x ∈ c.exceptionTable.toList, covers x pc = false) (hlocks : meth.locks = false) (hcell : H[q]? = some ce) (hv : ce.vm = .none) (hcl : s.vm.findClass E = some ce.cls)
    (hx : ∀ t : State, t.heap = H → s.vm.Alike t.vm → XC E s t) (hf : ∀ z ∈ locs, free z.base) (hc : cells ≤ mc) (hs : slots ≤ ms) :
    vx_W p l e R s m args below meth c H locs cells slots (vx_MQ below Qc XC args s mc ms free) (F0 m pc ls rest) q := by
  intro T hT X
  obtain ⟨st1, hrun, hend, hW, hsm⟩ := X.leaveThrown q (g := F0 m pc ls rest) rfl rfl rfl hout hlocks
  have hcell9 : (T.setFrames (.throwing q :: below)).heap[q]? = some ce := by
    show T.heap[q]? = some ce
    rw [hT]; exact hcell
  exact ⟨_, st1, .threw q, hrun, hend, Or.inr ⟨q, rfl, E, ce, locs, hx _ hT hW.alike, hcell9, hv, hcl, hW, hsm.mono hc hs, hf⟩⟩
theorem vx_frame {U : State} {k n : Nat} (h : s.sameButNew ({ U with vm := s.vm } : State) locs k n) : s.heap.size ≤ U.heap.size ∧ ∀ q : Nat, q < s.heap.size → (∀ z ∈ locs, z.base ≠ q) → U.heap[q]? = s.heap[q]? := by
  obtain ⟨-, h2, -, -, -, h6⟩ := h
  refine ⟨h2, fun q hq hz => ?_⟩
  obtain ⟨c9, e1, e2, e3, e4⟩ := h6 q _ (Array.getElem?_eq_getElem hq)
  have hs : c9.slots = (s.heap[q]).slots := Array.ext_getElem? fun i => e4 i fun hm => hz _ hm rfl
  have h9 : c9 = s.heap[q] := by
    rw [hs] at e2
    exact e2
  have e5 : U.heap[q]? = some c9 := e1
  rw [e5, h9, Array.getElem?_eq_getElem hq]
/-- the words of a throw but the four that speak of the heap -/
def vx_no (w : Cond) : Bool := decide (w ≠ .isRef (.static Bundle.tN "UNASSIGNED_STACK" Bundle.steD)) && decide (w ≠ .isRef (.static Bundle.tN "SUPPRESSED_SENTINEL" Bundle.listD)) && decide (w ≠ .laysStatic Bundle.tN "UNASSIGNED_STACK" Bundle.steD) && decide (w ≠ .laysStatic Bundle.tN "SUPPRESSED_SENTINEL" Bundle.listD)
def vx_at0 (own : String) (ic : Nat) (X : String) (names : List String) : List Cond := (Bundle.ownAtoms0 own ic X names).filter vx_no
def vx_atS (own : String) (ic : Nat) (X : String) (names : List String) : List Cond := (Bundle.ownAtoms own ic X names).filter vx_no
/-- a word that the tables alone decide, or a good one -/
def vx_ot (w : Cond) : Bool := w.onTables || goodWord w
theorem vx_ot_at {args a' : Array Value} {s U : State} {w : Cond} (hW : s.WarmedH U.vm) (hvm : s.vm = U.vm) (hg : vx_ot w = true) (h : w.before args s = true) : w.before a' U = true := by
  simp only [vx_ot, Bool.or_eq_true] at hg
  rcases hg with hg | hg
  · exact va_tabs hg hvm h
  · exact word_at hW (good_of_word hg) h
/-- a list's words: the good ones out of the method's own list, the others by premises of their own -/
theorem vx_hat {args : Array Value} {s : State} {L B : List Cond} (h1 : ∀ w ∈ L.filter goodWord, w.before args s = true) (h2 : ∀ w ∈ L.filter (fun w => !goodWord w), w ∈ B) (h3 : ∀ w ∈ B, w.before args s = true) : ∀ w ∈ L, w.before args s = true := by
  intro w hw
  by_cases g : goodWord w = true
  · exact h1 w (List.mem_filter.mpr ⟨hw, g⟩)
  · refine h3 w (h2 w (List.mem_filter.mpr ⟨hw, ?_⟩))
    show (!goodWord w) = true
    cases hgw : goodWord w
    · rfl
    · exact absurd hgw g
theorem vx_c {args : Array Value} {s : State} {w : Cond} {B : List Cond} (h : w.before args s = true) (t : ∀ w ∈ B, w.before args s = true) : ∀ w' ∈ w :: B, w'.before args s = true := fun w' h' => (List.mem_cons.mp h').elim (fun e => by rw [e]; exact h) (t w')
theorem vx_n {args : Array Value} {s : State} : ∀ w ∈ ([] : List Cond), w.before args s = true := fun _ h => nomatch h
theorem vx_own {args : Array Value} {s : State} {L : List Cond} (h1 : ∀ w ∈ L.filter vx_no, w.before args s = true)
    (hU : (Cond.isRef (.static Bundle.tN "UNASSIGNED_STACK" Bundle.steD)).before args s = true) (hN : (Cond.isRef (.static Bundle.tN "SUPPRESSED_SENTINEL" Bundle.listD)).before args s = true)
    (lU : (Cond.laysStatic Bundle.tN "UNASSIGNED_STACK" Bundle.steD).before args s = true) (lN : (Cond.laysStatic Bundle.tN "SUPPRESSED_SENTINEL" Bundle.listD).before args s = true) : ∀ w ∈ L, w.before args s = true := by
  intro w hw
  by_cases e1 : w = .isRef (.static Bundle.tN "UNASSIGNED_STACK" Bundle.steD)
  · rw [e1]; exact hU
  · by_cases e2 : w = .isRef (.static Bundle.tN "SUPPRESSED_SENTINEL" Bundle.listD)
    · rw [e2]; exact hN
    · by_cases e3 : w = .laysStatic Bundle.tN "UNASSIGNED_STACK" Bundle.steD
      · rw [e3]; exact lU
      · by_cases e4 : w = .laysStatic Bundle.tN "SUPPRESSED_SENTINEL" Bundle.listD
        · rw [e4]; exact lN
        · exact h1 w (List.mem_filter.mpr ⟨hw, by unfold vx_no; rw [decide_eq_true e1, decide_eq_true e2, decide_eq_true e3, decide_eq_true e4]; rfl⟩)
/-- where a static field lies, its class's statics cell in H -/
def vx_L (C n d : String) (A : Nat → Prop) (U : State) (H : Heap) : Prop := ∃ (c : ClassId) (k : Class) (i : Nat) (f : Field) (a : Nat) (cell : Cell), U.vm.findClass C = some c ∧ U.fieldFound? C n d = some (c, k, i, f) ∧ f.isStatic = true ∧ k.statics = some a ∧ H[a]? = some cell ∧ cell.vm.isStatics = true ∧ cell.cls = c ∧ f.slot < cell.slots.size ∧ k.staticTypes[f.slot]? = some f.type ∧ ¬ A a
theorem vx_L.moved {C n d : String} {A : Nat → Prop} {u U : State} {H : Heap} (hvm : u.vm.Alike U.vm) (h : vx_L C n d A u H) : vx_L C n d A U H := by
  obtain ⟨c, k, i, f, a, cell, h1, h2, h3, h4, h5, h6, h7, h8, h9, h10⟩ := h
  obtain ⟨k', hi', he⟩ := State.fieldFound?_setVm hvm h2
  exact ⟨c, k', i, f, a, cell, by rw [hvm.findClass]; exact h1, hi', h3, by rw [he]; exact h4, h5, h6, h7, h8, by rw [he]; exact h9, h10⟩
theorem vx_L.kept {C n d : String} {A : Nat → Prop} {U : State} {H H1 : Heap} (h : vx_L C n d A U H) (hq : ∀ a : Nat, a < H.size → ¬ A a → H1[a]? = H[a]?) : vx_L C n d A U H1 := by
  obtain ⟨c, k, i, f, a, cell, h1, h2, h3, h4, h5, h6, h7, h8, h9, h10⟩ := h
  exact ⟨c, k, i, f, a, cell, h1, h2, h3, h4, by rw [hq a (Array.getElem?_eq_some_iff.mp h5).1 h10]; exact h5, h6, h7, h8, h9, h10⟩
theorem vx_L.narrow {C n d : String} {A B : Nat → Prop} {U : State} {H : Heap} (h : vx_L C n d A U H) (hAB : ∀ q, B q → A q) : vx_L C n d B U H := by
  obtain ⟨c, k, i, f, a, cell, h1, h2, h3, h4, h5, h6, h7, h8, h9, h10⟩ := h
  exact ⟨c, k, i, f, a, cell, h1, h2, h3, h4, h5, h6, h7, h8, h9, fun z => h10 (hAB _ z)⟩
theorem vx_L.word {C n d : String} {A : Nat → Prop} {s : State} {args : Array Value} (h : vx_L C n d A s s.heap) : (Cond.laysStatic C n d).before args s = true := by
  obtain ⟨c, k, i, f, a, cell, h1, h2, h3, h4, h5, h6, h7, h8, h9, -⟩ := h
  show (Cond.laysStatic C n d).holds args s none s [] = true
  exact Cond.laysStatic_of h1 h2 h3 h4 h5 h6 h7 h8 h9
/-- .. and what it holds: null or some reference -/
def vx_Zq (C n d : String) (A : Nat → Prop) (U : State) (H : Heap) : Prop := va_Zq C n d A U H ∧ vx_L C n d A U H
theorem vx_Zq.moved {C n d : String} {A : Nat → Prop} {u U : State} {H : Heap} (hvm : u.vm.Alike U.vm) (h : vx_Zq C n d A u H) : vx_Zq C n d A U H := ⟨va_Zq.moved hvm h.1, vx_L.moved hvm h.2⟩
theorem vx_Zq.kept {C n d : String} {A : Nat → Prop} {U : State} {H H1 : Heap} (h : vx_Zq C n d A U H) (hq : ∀ a : Nat, a < H.size → ¬ A a → H1[a]? = H[a]?) : vx_Zq C n d A U H1 := ⟨va_Zq.kept h.1 hq, vx_L.kept h.2 hq⟩
theorem vx_Zq.narrow {C n d : String} {A B : Nat → Prop} {U : State} {H : Heap} (h : vx_Zq C n d A U H) (hAB : ∀ q, B q → A q) : vx_Zq C n d B U H := ⟨va_Zq.narrow h.1 hAB, vx_L.narrow h.2 hAB⟩
theorem vx_Zqof {args : Array Value} {s : State} {C n d : String} {A : Nat → Prop} (hl : (Cond.laysStatic C n d).before args s = true) (hini : (Cond.initialized C).before args s = true) (h : (Cond.isRef (.static C n d)).before args s = true) (hA : ∀ a : Nat, a < s.heap.size → ¬ A a) : vx_Zq C n d A s s.heap := by
  refine ⟨va_Zqof hl hini h hA, ?_⟩
  obtain ⟨c, k, i, f, a, cell, h1, h2, h3, h4, h5, h6, h7, h8, h9⟩ := Cond.laysStatic_spec hl
  exact ⟨c, k, i, f, a, cell, h1, h2, h3, h4, h5, h6, h7, h8, h9, hA a (Array.getElem?_eq_some_iff.mp h5).1⟩
theorem vx_isRef {C n d : String} {v : Value} {A : Nat → Prop} {s : State} {args : Array Value} (h : va_Z C n d v A s s.heap) (hv : v.isRef = true) : (Cond.isRef (.static C n d)).before args s = true := by
  obtain ⟨cf, kf, fi, f, a, cell, h1, h2, h3, h4, h5, h6, h7, -⟩ := h
  have he : (Term.static C n d).eval args s none [] s = some v := by
    simp [Term.eval, State.fieldNamed?, h1, h2, h4, h5, h6, h7]
  simp only [Cond.before, Cond.holds, Cond.value, he]
  cases v <;> simp_all [Value.isRef]
theorem vx_isRefq {C n d : String} {A : Nat → Prop} {s : State} {args : Array Value} (h : va_Zq C n d A s s.heap) : (Cond.isRef (.static C n d)).before args s = true := by
  rcases h with h | ⟨t, h⟩
  · exact vx_isRef h rfl
  · exact vx_isRef h rfl
/-- the same frame, seen from here: as if the method were called anew in this heap -/
theorem vx_rebase {T : State} (X : Stand p l e R s m args below meth c T locs cells slots) {R' : Room} (hf : R'.frames ≤ R.frames) (hl : R'.locals ≤ R.locals) (hc : cells + R'.cells ≤ R.cells) (hs : slots + R'.slots ≤ R.slots) :
    Stand p l e R' ((T.setVm s.vm).setFrames (.invoking m args :: below)) m args below meth c T [] 0 0 := by
  have htop : (T.setVm s.vm).topJava?.isSome := X.here.top
  have hF : ((T.setVm s.vm).setFrames (.invoking m args :: below)).frames = .invoking m args :: below := State.frames_setFrames _ (State.cur_lt_of_top htop)
  obtain ⟨g₀, hg0⟩ := Option.isSome_iff_exists.mp htop
  obtain ⟨r, hr⟩ := State.topJava?_eq_some.mp hg0
  have hl9 : e.platform.stackLimits (T.setVm s.vm).me = e.platform.stackLimits s.me := X.limits
  have hb9 : (T.setVm s.vm).me.stackBytes = s.me.stackBytes := X.bytes
  refine ⟨X.admits, X.cas, X.clock, hF, ?_, X.hears, X.method, X.code, X.here, X.tail, X.warmed, ?_, ?_, ?_⟩
  · have h := X.room
    have hU : ((T.setVm s.vm).setFrames (.invoking m args :: below)).localsInUse = s.localsInUse := by
      rw [State.localsInUse_invoking hF (meth := meth) (c := c) X.method X.code, State.localsInUse_invoking X.frames X.method X.code]
    simp only [State.hasRoom, Bool.and_eq_true, decide_eq_true_eq] at h ⊢
    obtain ⟨⟨⟨⟨h1, h2, h3, h4, h5, h6⟩, h7⟩, h8⟩, h9⟩ := h
    rw [X.frames, List.length_cons] at h2 h3
    have q1 := X.heapSize
    have q2 := X.used
    simp only [hF, hU, List.length_cons, State.stackLimits_setFrames, State.stackBytes_setFrames, hl9, hb9]
    refine ⟨⟨⟨⟨by omega, by omega, by omega, by omega, by omega, h6⟩, ?_⟩, ?_⟩, X.book⟩
    · show T.heap.size + R'.cells ≤ e.platform.maxCells
      omega
    · show T.slotsUsed + R'.slots ≤ e.platform.maxSlots
      omega
  · rw [State.stackLimits_setFrames]; rfl
  · rw [State.stackBytes_setFrames]; rfl
  · refine ⟨?_, Nat.le_refl _, Nat.le_refl _, ?_, ?_, fun a c9 h9 => ⟨c9, h9, rfl, rfl, fun _ _ => rfl⟩⟩
    · obtain ⟨t, ht, -⟩ := State.frames_cons hr
      show T.setVm s.vm = { ((T.setVm s.vm).setFrames (.invoking m args :: below)).setFrames (T.setVm s.vm).frames with heap := T.heap, slotsUsed := T.slotsUsed }
      rw [State.setFrames_setFrames, State.setFrames_self ht]
      rfl
    · show T.slotsUsed = T.slotsUsed + ((T.heap.toList.drop T.heap.size).map (·.slots.size)).sum
      rw [List.drop_eq_nil_of_le (Nat.le_of_eq Array.length_toList)]
      rfl
    · show ((T.heap.toList.drop T.heap.size).map (·.slots.size)).sum ≤ 0
      rw [List.drop_eq_nil_of_le (Nat.le_of_eq Array.length_toList)]
      exact Nat.le_refl _
/-- 'throw new E()': new; dup; invokespecial; athrow -/
theorem vx_throw0 {cc : ByteArray} {pc : Nat} (hexec : p.tables.exec = Jvm.exec) (hb : c.code = cc) (hl : l.stackTraces = false) {own cls : String} {names : List String} {ik ic mc ms : Nat} {A : Nat → Prop}
    (hown : s.vm.findClass own = some m.cls) (hcls : Bundle.fit cls = true) (hnames : ∀ n ∈ names, Bundle.fit n = true)
    (hk : (Cond.classLink own ik cls).before args s = true) (hini : (Cond.initialized cls).before args s = true) (hat : ∀ w ∈ vx_at0 own ic cls names, w.before args s = true)
    (hgood : ∀ w ∈ Cond.classLink own ik cls :: Cond.initialized cls :: vx_at0 own ic cls names, vx_ot w = true)
    (hU : vx_Zq Bundle.tN "UNASSIGNED_STACK" Bundle.steD A s s.heap) (hN : vx_Zq Bundle.tN "SUPPRESSED_SENTINEL" Bundle.listD A s s.heap) (hS : va_S A s.heap H locs) (hsize : ls.size = c.maxLocals)
    (d0 : decode cc pc = .ok (.new ik, 3)) (d3 : decode cc (pc + 3) = .ok (.dup, 1)) (d4 : decode cc (pc + 4) = .ok (.invokespecial ic, 3)) (d7 : decode cc (pc + 7) = .ok (.athrow, 1))
    (hout : ∀ x ∈ c.exceptionTable.toList, covers x (pc + 7) = false)
    (hRframes : names.length + 3 < R.frames) (hRlocals : (rest.map fun v => v.category).sum + (13 * (names.length + 1) + 42) ≤ R.locals) (hRcells : cells + 1 ≤ R.cells) (hRslots : slots + 6 ≤ R.slots) (hlocks : meth.locks = false)
    (hx : ∀ t : State, s.vm.Alike t.vm → H.size ≤ t.heap.size → (∀ q : Nat, q < H.size → t.heap[q]? = H[q]?) → XC cls s t)
    (hf : ∀ z ∈ locs, free z.base) (hc : cells + 1 ≤ mc) (hs : slots + 6 ≤ ms) :
    W p l e R s m args below meth c H locs cells slots (vx_MQ below Qc XC args s mc ms free) (F0 m pc ls rest) := by
  intro T hT X
  have htr : e.platform.stackTraces = false := (show e.platform.stackTraces = l.stackTraces by rw [X.admits.platform]).trans hl
  have Y := vx_rebase X (R' := { frames := R.frames, locals := R.locals, cells := 1, slots := 6 }) (Nat.le_refl _) (Nat.le_refl _) hRcells hRslots
  obtain ⟨s', hA⟩ : ∃ z, z = (T.setVm s.vm).setFrames (.invoking m args :: below) := ⟨_, rfl⟩
  rw [← hA] at Y
  have hvm : s'.vm = s.vm := by rw [hA]; rfl
  have hhp : s'.heap = H := by rw [hA]; exact hT
  have hW0 : s.WarmedH s'.vm := by rw [hvm]; exact State.WarmedH.refl s
  have hat' : ∀ w ∈ vx_at0 own ic cls names, w.before args s' = true := fun w hw => vx_ot_at hW0 hvm.symm (hgood w (List.mem_cons_of_mem _ (List.mem_cons_of_mem _ hw))) (hat w hw)
  have hk' : (Cond.classLink own ik cls).before args s' = true := vx_ot_at hW0 hvm.symm (hgood _ List.mem_cons_self) hk
  have hini' : (Cond.initialized cls).before args s' = true := vx_ot_at hW0 hvm.symm (hgood _ (List.mem_cons_of_mem _ List.mem_cons_self)) hini
  have hU' : vx_Zq Bundle.tN "UNASSIGNED_STACK" Bundle.steD A s' s'.heap := by rw [hhp]; exact vx_Zq.moved hW0.alike (hU.kept hS.2.1)
  have hN' : vx_Zq Bundle.tN "SUPPRESSED_SENTINEL" Bundle.listD A s' s'.heap := by rw [hhp]; exact vx_Zq.moved hW0.alike (hN.kept hS.2.1)
  have h : ∀ w ∈ Bundle.ownAtoms0 own ic cls names, w.before args s' = true := vx_own hat' (vx_isRefq hU'.1) (vx_isRefq hN'.1) hU'.2.word hN'.2.word
  have hown' : s'.vm.findClass own = some m.cls := by rw [hvm]; exact hown
  have hins : (Cond.instantiable cls 6).before args s' = true := h _ (by simp [Bundle.ownAtoms0])
  obtain ⟨vm₁, cX, kX, hfX, hkX, -, -, X₁, st1⟩ := Y.newCold hexec (own := own) (C := cls) (index := ik) (n := 6) hown' hk' hins hini'
    (g := F0 m pc ls rest) rfl (by rw [hb]; exact d0) (Nat.le_refl _) (Nat.le_refl _)
  generalize hT1 : (T.setVm vm₁).pushCell { cls := cX, slots := kX.instanceTypes.map defaultValue, vm := .none } = T1 at X₁ st1
  have hcat : (Value.ref T.heap.size).category = 1 := rfl
  have hcellA : T1.heap[T.heap.size]? = some (freshCell cX kX) := by rw [← hT1]; exact State.heap_pushCell_size _ _
  have d3' : decode c.code (pc + 3) = .ok (.dup, 1) := by rw [hb]; exact d3
  obtain ⟨U, hsteps, hrun, hend, hW, hsame, ce, hce, hO⟩ := X₁.ctorThrow0 hexec htr (own := own) (cls := cls) (names := names) (ic := ic) hown' hcls hnames h (fun x hx => nomatch hx) hfX hkX hcellA (by rw [hhp, hT]; exact Nat.le_refl _)
    (g := { method := m, pc := pc + 4, locals := ls, stack := .ref T.heap.size :: .ref T.heap.size :: rest, locked := none }) rfl hsize rfl rfl (rest := rest) rfl
    (by rw [hb]; exact d4) (by rw [hb]; exact d7) hout hRframes (by simp only [List.map_cons, List.sum_cons, hcat]; omega) hlocks
  obtain ⟨f1, f2⟩ := vx_frame hsame
  rw [hhp] at f1 f2
  have hWs : s.WarmedH U.vm := State.WarmedH.trans hW0 hW
  have hcl : s.vm.findClass cls = some ce.cls := by
    have h9 := hO.cls
    rw [hvm] at h9
    exact h9
  have hall : s.sameButNew ({ U with vm := s.vm } : State) locs mc ms := by
    subst hA
    obtain ⟨e1, e2⟩ := hsame
    rw [State.setFrames_setFrames] at e1
    have h2 : (T.setVm s.vm).sameButNew ({ U with vm := s.vm } : State) [] (0 + 1) (0 + 6) := ⟨e1, e2⟩
    have h3 := X.same.trans h2
    rw [List.append_nil] at h3
    exact h3.mono hc hs
  refine ⟨U, ?_, .threw T.heap.size, hrun, hend, Or.inr ⟨T.heap.size, rfl, cls, ce, locs, hx U hWs.alike f1 (fun q hq => f2 q hq (fun z hz => nomatch hz)), hce, hO.vm, hcl, hWs, hall, hf⟩⟩
  refine st1 _ ?_
  show Steps p.tables e below (T1.setTop { method := m, pc := pc + 3, locals := ls, stack := .ref T.heap.size :: rest, locked := none }) _
  jvm_step X₁.here [X₁.here.top, hexec, d3', Value.category]
  exact hsteps
/-- 'throw new E("text")': new; dup; ldc; invokespecial; athrow -/
theorem vx_throwS {cc : ByteArray} {pc : Nat} (hexec : p.tables.exec = Jvm.exec) (hb : c.code = cc) (hl : l.stackTraces = false) {own cls text : String} {names : List String} {ik is ic mc ms sa : Nat} {A : Nat → Prop}
    (hown : s.vm.findClass own = some m.cls) (hcls : Bundle.fit cls = true) (hnames : ∀ n ∈ names, Bundle.fit n = true)
    (hk : (Cond.classLink own ik cls).before args s = true) (hini : (Cond.initialized cls).before args s = true) (hstr : vk_R own is text sa s) (hat : ∀ w ∈ vx_atS own ic cls names, w.before args s = true)
    (hgood : ∀ w ∈ Cond.classLink own ik cls :: Cond.initialized cls :: vx_atS own ic cls names, vx_ot w = true)
    (hU : vx_Zq Bundle.tN "UNASSIGNED_STACK" Bundle.steD A s s.heap) (hN : vx_Zq Bundle.tN "SUPPRESSED_SENTINEL" Bundle.listD A s s.heap) (hS : va_S A s.heap H locs) (hsize : ls.size = c.maxLocals)
    (d0 : decode cc pc = .ok (.new ik, 3)) (d3 : decode cc (pc + 3) = .ok (.dup, 1)) (d4 : decode cc (pc + 4) = .ok (.ldc is, 2)) (d6 : decode cc (pc + 6) = .ok (.invokespecial ic, 3)) (d9 : decode cc (pc + 9) = .ok (.athrow, 1))
    (hout : ∀ x ∈ c.exceptionTable.toList, covers x (pc + 9) = false)
    (hRframes : names.length + 3 < R.frames) (hRlocals : (rest.map fun v => v.category).sum + (13 * (names.length + 1) + 43) ≤ R.locals) (hRcells : cells + 1 ≤ R.cells) (hRslots : slots + 6 ≤ R.slots) (hlocks : meth.locks = false)
    (hx : ∀ t : State, s.vm.Alike t.vm → H.size ≤ t.heap.size → (∀ q : Nat, q < H.size → t.heap[q]? = H[q]?) → XC cls s t)
    (hf : ∀ z ∈ locs, free z.base) (hc : cells + 1 ≤ mc) (hs : slots + 6 ≤ ms) :
    W p l e R s m args below meth c H locs cells slots (vx_MQ below Qc XC args s mc ms free) (F0 m pc ls rest) := by
  intro T hT X
  have htr : e.platform.stackTraces = false := (show e.platform.stackTraces = l.stackTraces by rw [X.admits.platform]).trans hl
  have Y := vx_rebase X (R' := { frames := R.frames, locals := R.locals, cells := 1, slots := 6 }) (Nat.le_refl _) (Nat.le_refl _) hRcells hRslots
  obtain ⟨s', hA⟩ : ∃ z, z = (T.setVm s.vm).setFrames (.invoking m args :: below) := ⟨_, rfl⟩
  rw [← hA] at Y
  have hvm : s'.vm = s.vm := by rw [hA]; rfl
  have hhp : s'.heap = H := by rw [hA]; exact hT
  have hW0 : s.WarmedH s'.vm := by rw [hvm]; exact State.WarmedH.refl s
  have hat' : ∀ w ∈ vx_atS own ic cls names, w.before args s' = true := fun w hw => vx_ot_at hW0 hvm.symm (hgood w (List.mem_cons_of_mem _ (List.mem_cons_of_mem _ hw))) (hat w hw)
  have hk' : (Cond.classLink own ik cls).before args s' = true := vx_ot_at hW0 hvm.symm (hgood _ List.mem_cons_self) hk
  have hini' : (Cond.initialized cls).before args s' = true := vx_ot_at hW0 hvm.symm (hgood _ (List.mem_cons_of_mem _ List.mem_cons_self)) hini
  have hU' : vx_Zq Bundle.tN "UNASSIGNED_STACK" Bundle.steD A s' s'.heap := by rw [hhp]; exact vx_Zq.moved hW0.alike (hU.kept hS.2.1)
  have hN' : vx_Zq Bundle.tN "SUPPRESSED_SENTINEL" Bundle.listD A s' s'.heap := by rw [hhp]; exact vx_Zq.moved hW0.alike (hN.kept hS.2.1)
  have h : ∀ w ∈ Bundle.ownAtoms own ic cls names, w.before args s' = true := vx_own hat' (vx_isRefq hU'.1) (vx_isRefq hN'.1) hU'.2.word hN'.2.word
  have hown' : s'.vm.findClass own = some m.cls := by rw [hvm]; exact hown
  have hins : (Cond.instantiable cls 6).before args s' = true := h _ (by simp [Bundle.ownAtoms])
  obtain ⟨vm₁, cX, kX, hfX, hkX, -, -, X₁, st1⟩ := Y.newCold hexec (own := own) (C := cls) (index := ik) (n := 6) hown' hk' hins hini'
    (g := F0 m pc ls rest) rfl (by rw [hb]; exact d0) (Nat.le_refl _) (Nat.le_refl _)
  generalize hT1 : (T.setVm vm₁).pushCell { cls := cX, slots := kX.instanceTypes.map defaultValue, vm := .none } = T1 at X₁ st1
  have hcat : (Value.ref T.heap.size).category = 1 := rfl
  have hcellA : T1.heap[T.heap.size]? = some (freshCell cX kX) := by rw [← hT1]; exact State.heap_pushCell_size _ _
  have d3' : decode c.code (pc + 3) = .ok (.dup, 1) := by rw [hb]; exact d3
  have d4' : decode c.code (pc + 4) = .ok (.ldc is, 2) := by rw [hb]; exact d4
  have hstr' : vk_R own is text sa s' := vk_R.warm hW0 hstr
  obtain ⟨U, hsteps, hrun, hend, hW, hsame, ce, hce, hO⟩ := X₁.ctorThrowS hexec htr (own := own) (cls := cls) (names := names) (ic := ic) hown' hcls hnames h (fun x hx => nomatch hx) hfX hkX hcellA (by rw [hhp, hT]; exact Nat.le_refl _) (msg := .ref sa) rfl
    (g := { method := m, pc := pc + 6, locals := ls, stack := .ref sa :: .ref T.heap.size :: .ref T.heap.size :: rest, locked := none }) rfl hsize rfl rfl (rest := rest) rfl
    (by rw [hb]; exact d6) (by rw [hb]; exact d9) hout hRframes (by simp only [List.map_cons, List.sum_cons, hcat]; omega) hlocks
  obtain ⟨f1, f2⟩ := vx_frame hsame
  rw [hhp] at f1 f2
  have hWs : s.WarmedH U.vm := State.WarmedH.trans hW0 hW
  have hcl : s.vm.findClass cls = some ce.cls := by
    have h9 := hO.cls
    rw [hvm] at h9
    exact h9
  have hall : s.sameButNew ({ U with vm := s.vm } : State) locs mc ms := by
    subst hA
    obtain ⟨e1, e2⟩ := hsame
    rw [State.setFrames_setFrames] at e1
    have h2 : (T.setVm s.vm).sameButNew ({ U with vm := s.vm } : State) [] (0 + 1) (0 + 6) := ⟨e1, e2⟩
    have h3 := X.same.trans h2
    rw [List.append_nil] at h3
    exact h3.mono hc hs
  refine ⟨U, ?_, .threw T.heap.size, hrun, hend, Or.inr ⟨T.heap.size, rfl, cls, ce, locs, hx U hWs.alike f1 (fun q hq => f2 q hq (fun z hz => nomatch hz)), hce, hO.vm, hcl, hWs, hall, hf⟩⟩
  refine st1 _ ?_
  show Steps p.tables e below (T1.setTop { method := m, pc := pc + 3, locals := ls, stack := .ref T.heap.size :: rest, locked := none }) _
  jvm_step X₁.here [X₁.here.top, hexec, d3', Value.category]
  exact X₁.ldcString hexec (own := own) (text := text) (index := is) (a := sa) hown' hstr'.1 hstr'.2
    (g := { method := m, pc := pc + 4, locals := ls, stack := .ref T.heap.size :: .ref T.heap.size :: rest, locked := none }) rfl d4' _ hsteps
/-- 'throw new E("text")', the text by a wide index -/
theorem vx_throwSW {cc : ByteArray} {pc : Nat} (hexec : p.tables.exec = Jvm.exec) (hb : c.code = cc) (hl : l.stackTraces = false) {own cls text : String} {names : List String} {ik is ic mc ms sa : Nat} {A : Nat → Prop}
    (hown : s.vm.findClass own = some m.cls) (hcls : Bundle.fit cls = true) (hnames : ∀ n ∈ names, Bundle.fit n = true)
    (hk : (Cond.classLink own ik cls).before args s = true) (hini : (Cond.initialized cls).before args s = true) (hstr : vk_R own is text sa s) (hat : ∀ w ∈ vx_atS own ic cls names, w.before args s = true)
    (hgood : ∀ w ∈ Cond.classLink own ik cls :: Cond.initialized cls :: vx_atS own ic cls names, vx_ot w = true)
    (hU : vx_Zq Bundle.tN "UNASSIGNED_STACK" Bundle.steD A s s.heap) (hN : vx_Zq Bundle.tN "SUPPRESSED_SENTINEL" Bundle.listD A s s.heap) (hS : va_S A s.heap H locs) (hsize : ls.size = c.maxLocals)
    (d0 : decode cc pc = .ok (.new ik, 3)) (d3 : decode cc (pc + 3) = .ok (.dup, 1)) (d4 : decode cc (pc + 4) = .ok (.ldc_w is, 3)) (d7 : decode cc (pc + 7) = .ok (.invokespecial ic, 3)) (d10 : decode cc (pc + 10) = .ok (.athrow, 1))
    (hout : ∀ x ∈ c.exceptionTable.toList, covers x (pc + 10) = false)
    (hRframes : names.length + 3 < R.frames) (hRlocals : (rest.map fun v => v.category).sum + (13 * (names.length + 1) + 43) ≤ R.locals) (hRcells : cells + 1 ≤ R.cells) (hRslots : slots + 6 ≤ R.slots) (hlocks : meth.locks = false)
    (hx : ∀ t : State, s.vm.Alike t.vm → H.size ≤ t.heap.size → (∀ q : Nat, q < H.size → t.heap[q]? = H[q]?) → XC cls s t)
    (hf : ∀ z ∈ locs, free z.base) (hc : cells + 1 ≤ mc) (hs : slots + 6 ≤ ms) :
    W p l e R s m args below meth c H locs cells slots (vx_MQ below Qc XC args s mc ms free) (F0 m pc ls rest) := by
  intro T hT X
  have htr : e.platform.stackTraces = false := (show e.platform.stackTraces = l.stackTraces by rw [X.admits.platform]).trans hl
  have Y := vx_rebase X (R' := { frames := R.frames, locals := R.locals, cells := 1, slots := 6 }) (Nat.le_refl _) (Nat.le_refl _) hRcells hRslots
  obtain ⟨s', hA⟩ : ∃ z, z = (T.setVm s.vm).setFrames (.invoking m args :: below) := ⟨_, rfl⟩
  rw [← hA] at Y
  have hvm : s'.vm = s.vm := by rw [hA]; rfl
  have hhp : s'.heap = H := by rw [hA]; exact hT
  have hW0 : s.WarmedH s'.vm := by rw [hvm]; exact State.WarmedH.refl s
  have hat' : ∀ w ∈ vx_atS own ic cls names, w.before args s' = true := fun w hw => vx_ot_at hW0 hvm.symm (hgood w (List.mem_cons_of_mem _ (List.mem_cons_of_mem _ hw))) (hat w hw)
  have hk' : (Cond.classLink own ik cls).before args s' = true := vx_ot_at hW0 hvm.symm (hgood _ List.mem_cons_self) hk
  have hini' : (Cond.initialized cls).before args s' = true := vx_ot_at hW0 hvm.symm (hgood _ (List.mem_cons_of_mem _ List.mem_cons_self)) hini
  have hU' : vx_Zq Bundle.tN "UNASSIGNED_STACK" Bundle.steD A s' s'.heap := by rw [hhp]; exact vx_Zq.moved hW0.alike (hU.kept hS.2.1)
  have hN' : vx_Zq Bundle.tN "SUPPRESSED_SENTINEL" Bundle.listD A s' s'.heap := by rw [hhp]; exact vx_Zq.moved hW0.alike (hN.kept hS.2.1)
  have h : ∀ w ∈ Bundle.ownAtoms own ic cls names, w.before args s' = true := vx_own hat' (vx_isRefq hU'.1) (vx_isRefq hN'.1) hU'.2.word hN'.2.word
  have hown' : s'.vm.findClass own = some m.cls := by rw [hvm]; exact hown
  have hins : (Cond.instantiable cls 6).before args s' = true := h _ (by simp [Bundle.ownAtoms])
  obtain ⟨vm₁, cX, kX, hfX, hkX, -, -, X₁, st1⟩ := Y.newCold hexec (own := own) (C := cls) (index := ik) (n := 6) hown' hk' hins hini'
    (g := F0 m pc ls rest) rfl (by rw [hb]; exact d0) (Nat.le_refl _) (Nat.le_refl _)
  generalize hT1 : (T.setVm vm₁).pushCell { cls := cX, slots := kX.instanceTypes.map defaultValue, vm := .none } = T1 at X₁ st1
  have hcat : (Value.ref T.heap.size).category = 1 := rfl
  have hcellA : T1.heap[T.heap.size]? = some (freshCell cX kX) := by rw [← hT1]; exact State.heap_pushCell_size _ _
  have d3' : decode c.code (pc + 3) = .ok (.dup, 1) := by rw [hb]; exact d3
  have d4' : decode c.code (pc + 4) = .ok (.ldc_w is, 3) := by rw [hb]; exact d4
  have hstr' : vk_R own is text sa s' := vk_R.warm hW0 hstr
  obtain ⟨U, hsteps, hrun, hend, hW, hsame, ce, hce, hO⟩ := X₁.ctorThrowS hexec htr (own := own) (cls := cls) (names := names) (ic := ic) hown' hcls hnames h (fun x hx => nomatch hx) hfX hkX hcellA (by rw [hhp, hT]; exact Nat.le_refl _) (msg := .ref sa) rfl
    (g := { method := m, pc := pc + 7, locals := ls, stack := .ref sa :: .ref T.heap.size :: .ref T.heap.size :: rest, locked := none }) rfl hsize rfl rfl (rest := rest) rfl
    (by rw [hb]; exact d7) (by rw [hb]; exact d10) hout hRframes (by simp only [List.map_cons, List.sum_cons, hcat]; omega) hlocks
  obtain ⟨f1, f2⟩ := vx_frame hsame
  rw [hhp] at f1 f2
  have hWs : s.WarmedH U.vm := State.WarmedH.trans hW0 hW
  have hcl : s.vm.findClass cls = some ce.cls := by
    have h9 := hO.cls
    rw [hvm] at h9
    exact h9
  have hall : s.sameButNew ({ U with vm := s.vm } : State) locs mc ms := by
    subst hA
    obtain ⟨e1, e2⟩ := hsame
    rw [State.setFrames_setFrames] at e1
    have h2 : (T.setVm s.vm).sameButNew ({ U with vm := s.vm } : State) [] (0 + 1) (0 + 6) := ⟨e1, e2⟩
    have h3 := X.same.trans h2
    rw [List.append_nil] at h3
    exact h3.mono hc hs
  refine ⟨U, ?_, .threw T.heap.size, hrun, hend, Or.inr ⟨T.heap.size, rfl, cls, ce, locs, hx U hWs.alike f1 (fun q hq => f2 q hq (fun z hz => nomatch hz)), hce, hO.vm, hcl, hWs, hall, hf⟩⟩
  refine st1 _ ?_
  show Steps p.tables e below (T1.setTop { method := m, pc := pc + 3, locals := ls, stack := .ref T.heap.size :: rest, locked := none }) _
  jvm_step X₁.here [X₁.here.top, hexec, d3', Value.category]
  exact X₁.ldcStringW hexec (own := own) (text := text) (index := is) (a := sa) hown' hstr'.1 hstr'.2
    (g := { method := m, pc := pc + 4, locals := ls, stack := .ref T.heap.size :: .ref T.heap.size :: rest, locked := none }) rfl d4' _ hsteps
end Ends
section Bodies
variable {l : Launch}
theorem vx_ofW {y : MethodName} {ws ws' : List Cond} {rm : Room} {Pc : Array Value → State → Prop} {Qc : Array Value → State → Outcome → State → Prop} {XC : String → State → State → Prop} {mc ms : Nat} {free : Addr → Prop} {cc : ByteArray} {maxL : Nat} {ret : Option FieldType}
    (hy : plainName y.cls = true) (hw : ws = Cond.code y cc maxL ret :: ws')
    (body : ∀ p e s m args below meth c s₁, BodyLoose p l y (headSpec ws rm) cc maxL ret e s m args below meth c s₁ → c.maxLocals = maxL → (∀ x ∈ c.exceptionTable.toList, False) → Pc args s →
      W p l e (headSpec ws rm).room s m args below meth c s.heap [] 0 0 (vx_MQ below Qc XC args s mc ms free) (entryFrame m args maxL)) : vx_Met l y ws rm Pc Qc XC mc ms free := by
  refine MetFree.of_bodyS (code := cc) (maxLocals := maxL) (ret := ret) hy ?_ ?_
  · intro args s m h hn
    obtain ⟨meth, c, h1, h2, h3, h4, h5, h6, -, -⟩ := Cond.code_spec hn (atoms_spec (ws := ws) h _ (by rw [hw]; exact List.mem_cons_self))
    exact ⟨meth, c, h1, h2, h3, h4, h5, h6⟩
  · intro p e s m args below meth c s₁ B hml hP _
    have hh0 : s₁.heap = s.heap := by rw [B.state]; rfl
    have ht : ∀ x ∈ c.exceptionTable.toList, False := by
      obtain ⟨meth9, c9, h1, h2, -, -, -, -, h7, -⟩ := Cond.code_spec B.named (atoms_spec (ws := ws) B.pre _ (by rw [hw]; exact List.mem_cons_self))
      cases Option.some.inj (h1.symm.trans B.method)
      cases Option.some.inj (h2.symm.trans (Stand.of_body B).code)
      intro x hx
      rw [Array.isEmpty_iff.mp h7] at hx
      cases hx
    obtain ⟨t, a1, o, b1, b2, b3⟩ := body p e s m args below meth c s₁ B hml ht hP s₁ hh0 (Stand.of_body B)
    exact ⟨t, o, a1, b1, b2, b3⟩
/-- the table of a body with handlers -/
theorem vx_table {p : Program} {x y : MethodName} {S : Spec} {cc bytes : ByteArray} {maxL maxL' : Nat} {ret ret' : Option FieldType} {e : Env} {s s₁ : State} {m : MethodId} {args : Array Value} {below : List Frame} {meth : Method} {c : Code} {hh : List (Nat × Nat × Nat × Nat)}
    (B : BodyLoose p l y S cc maxL ret e s m args below meth c s₁) (h : (Cond.codeWith y bytes maxL' ret' hh).before args s = true) : c.exceptionTable.toList = tableOf hh := by
  obtain ⟨m9, meth9, c9, hn9, h1, h2, -, -, h6, -⟩ := Cond.codeWith_spec h
  cases Option.some.inj (hn9.symm.trans B.named)
  cases Option.some.inj (h1.symm.trans B.method)
  cases Option.some.inj (h2.symm.trans (Stand.of_body B).code)
  rw [← h6, table_eq]
end Bodies
end VXA
/-! ===== END ===== -/
/-! ===== BEGIN a static call of a method with an exception table ===== -/
section VXS
variable {p : Program} {l : Launch} {e : Env} {R : Room} {s : State} {m : MethodId} {args : Array Value} {below : List Frame} {meth : Method} {c : Code} {T : State} {H : Heap} {locs : List Loc} {cells slots : Nat}
abbrev vx_CSW (R : Room) (s : State) (args : Array Value) (own : String) (index : Nat) (y : MethodName) (bytes : ByteArray) (maxL : Nat) (ret : Option FieldType) (hh : List (Nat × Nat × Nat × Nat)) (ws : List Cond) (rm : Room) (mc ms n : Nat) : Prop :=
  (rm.cells = mc ∧ rm.slots = ms ∧ rm.frames + 1 ≤ R.frames ∧ 8 + (maxL + 11) + rm.locals ≤ R.locals ∧ (∀ w ∈ ws, ∀ (a' : Array Value) (U : State), s.WarmedH U.vm → w.before a' U = true) ∧ Cond.codeWith y bytes maxL ret hh ∈ ws) ∧
  (Cond.codeWith y bytes maxL ret hh).before args s = true ∧ (Cond.initialized y.cls).before args s = true ∧ (y.cls ≠ "java/lang/invoke/MethodHandle" ∧ y.cls ≠ "java/lang/invoke/VarHandle") ∧
  (∀ sig, parseMethodDescriptor y.desc = some sig → n = sig.parameters.length) ∧ (Cond.methodLink own index y).before args s = true ∧ (Cond.static y).before args s = true
theorem vx_cwSW {own : String} {index maxL mc ms : Nat} {y : MethodName} {bytes : ByteArray} {ret : Option FieldType} {hh : List (Nat × Nat × Nat × Nat)} {Ts ws ws' : List Cond} {rm : Room} (n : Nat) (ht : ∀ w ∈ Ts, w.before args s = true) (hT : GoodIn Ts (va_wsS own index y ws)) (hw : ws = Cond.codeWith y bytes maxL ret hh :: ws') (hrc : rm.cells = mc) (hrs : rm.slots = ms)
    (hd : y.cls ≠ "java/lang/invoke/MethodHandle" ∧ y.cls ≠ "java/lang/invoke/VarHandle" ∧ (parseMethodDescriptor y.desc).map (fun d => d.parameters.length) = some n) (hR : rm.frames + 1 ≤ R.frames ∧ 8 + (maxL + 11) + rm.locals ≤ R.locals) :
    vx_CSW R s args own index y bytes maxL ret hh ws rm mc ms n := by
  have ok : ∀ w ∈ va_wsS own index y ws, w.before args s = true := fun w h => ht w (hT w h).1
  have hG : GoodIn Ts ws := fun w h => hT w (by unfold va_wsS; exact List.mem_append_right _ h)
  have hc : Cond.codeWith y bytes maxL ret hh ∈ ws := by rw [hw]; exact List.mem_cons_self
  refine ⟨⟨hrc, hrs, hR.1, hR.2, pay_in ht hG, hc⟩, ht _ (hG _ hc).1, ok _ (by simp [va_wsS]), ⟨hd.1, hd.2.1⟩, fun sig h => ?_, ok _ (by simp [va_wsS]), ok _ (by simp [va_wsS])⟩
  have h2 := hd.2.2
  rw [h] at h2
  exact (Option.some.inj h2).symm
theorem vx_callSW (X : Stand p l e R s m args below meth c T locs cells slots) (hexec : p.tables.exec = Jvm.exec) {own : String} {index : Nat} {y : MethodName} {bytes : ByteArray} {maxL : Nat} {ret : Option FieldType} {hh : List (Nat × Nat × Nat × Nat)}
    (hown : s.vm.findClass own = some m.cls) (hlink : (Cond.methodLink own index y).before args s = true) (hstat : (Cond.static y).before args s = true) (hinit : (Cond.initialized y.cls).before args s = true)
    (hcode : (Cond.codeWith y bytes maxL ret hh).before args s = true) (hy : y.cls ≠ "java/lang/invoke/MethodHandle" ∧ y.cls ≠ "java/lang/invoke/VarHandle")
    {W9 : Nat} {Pre : Pt → Array Value → Prop} {Post : Pt → Array Value → Option Value → Pt → Prop} (hK : Back l R p e below s args y 3 W9 Pre Post)
    {g : JFrame} (hg : g.method = m) (hsize : g.locals.size = c.maxLocals) {argsL rest : List Value} (hlen : ∀ sig, parseMethodDescriptor y.desc = some sig → argsL.length = sig.parameters.length)
    (hstack : g.stack = argsL.reverse ++ rest) (hW : 2 * g.monitorRoom + (rest.map fun v => v.category).sum ≤ W9) (hdg : decode c.code g.pc = .ok (.invokestatic index, 3))
    (hpre : ∀ vm₁, s.WarmedH vm₁ → Pre ⟨T.setVm vm₁, locs, cells, slots⟩ argsL.toArray) :
    ∃ (v : Option Value) (vm₁ : Vm) (B : Pt), s.WarmedH vm₁ ∧ Stand p l e R s m args below meth c B.U B.locs B.cells B.slots ∧ Post ⟨T.setVm vm₁, locs, cells, slots⟩ argsL.toArray v B ∧
      ∀ target, Steps p.tables e below (B.U.setTop { g with pc := g.pc + 3, stack := v.toList ++ rest }) target → Steps p.tables e below (T.setTop g) target := by
  obtain ⟨mk, methM, cM, hnamed, hmethM, -, -, -, -, -, -, hsigM⟩ := Cond.codeWith_spec hcode
  have hstatic : methM.isStatic = true := Cond.static_spec hnamed hmethM hstat
  obtain ⟨kP, hkP, -⟩ := className_of_methodNamed hnamed
  have hinitP : kP.init = .initialized := Cond.initialized_spec (findClass_of_methodNamed hnamed) hkP hinit
  obtain ⟨vm₁, X₁, hstep₁⟩ := X.invokestatic hexec hown hlink hnamed hmethM hstatic hkP hinitP hy (g := g) hg (argsL := argsL) (rest := rest) (hlen _ hsigM) hstack hdg
  obtain ⟨v, B, X', hpost, hsteps⟩ := hK m meth c ⟨T.setVm vm₁, locs, cells, slots⟩ { g with stack := rest } (.invokestatic index) mk argsL.toArray X₁ hg hsize hdg hW (X₁.named hnamed) (hpre vm₁ X₁.warmed)
  exact ⟨v, vm₁, B, X₁.warmed, X', hpost, fun target h => hstep₁ _ fun acts => by rw [doInvoke_state]; exact hsteps.trans h⟩
theorem vx_runSW {y : MethodName} {bytes cc : ByteArray} {maxL nL mc ms n index : Nat} {ret : Option FieldType} {hh : List (Nat × Nat × Nat × Nat)} {ws : List Cond} {rm : Room} {Pc : Array Value → State → Prop} {Qc : Array Value → State → Outcome → State → Prop} {free : Addr → Prop} {Ts : List Cond} {own : String} {As rest : List Value} {g : JFrame}
    (S : CallFix p m c cc nL s args Ts own) (hM : Met l y ws rm Pc Qc mc ms free) (cw : vx_CSW R s args own index y bytes maxL ret hh ws rm mc ms n) (hp : PreS s H Pc As)
    (hg : g.method = m) (hn : As.length = n) (hsize : g.locals.size = nL) (hstack : g.stack = As.reverse ++ rest) (hW : 2 * g.monitorRoom + (rest.map fun v => v.category).sum ≤ 8) (hdg : decode cc g.pc = .ok (.invokestatic index, 3)) (hf : cells + mc ≤ R.cells ∧ slots + ms ≤ R.slots) :
    va_Run p l e R s m args below meth c H locs cells slots mc ms g rest (Qc As.toArray) (free) := by
  obtain ⟨⟨hrc, hrs, hfr, hlo, hws, hcw⟩, hcode, hini, hy, hlen, hl, hstt⟩ := cw
  have hK : Back l R p e below s args y 3 8 (PreOf R mc ms Pc) (PostOf Qc mc ms free) := va_backW (hh := hh) (bytes := bytes) (maxL := maxL) (ret := ret) hM hp.1 hrc hrs hfr hlo hws hcw (fun a' U hW => word_at hW (Or.inl (by first | rfl | simp [Cond.onTables, Cond.keeps, Cond.steady])) hini)
  obtain ⟨hx, hb, hml, ho, -⟩ := S
  intro T hT X
  obtain ⟨v, vm₁, ⟨U', l2, c2, s2⟩, hW₁, X', ⟨g', mk, t, L, e1, e2, hq, h1, hL, h2, h3⟩, st⟩ := vx_callSW X hx (hh := hh) (bytes := bytes) (maxL := maxL) (ret := ret) ho hl hstt hini hcode hy hK hg (hsize.trans hml.symm) (argsL := As) (rest := rest) (fun sig h => hn.trans (hlen sig h)) hstack hW (by rw [hb]; exact hdg)
    (fun vm₁ hW₁ => ⟨hf.1, hf.2, hp.2 (T.setVm vm₁) hT hW₁⟩)
  dsimp only [Pt.U, Pt.locs, Pt.cells, Pt.slots] at X' e1 e2 h1 h2 h3 st
  subst h1; subst h2; subst h3
  exact ⟨v, (T.setVm vm₁).calling g' mk As.toArray, t, U', L, hT, X', hL, e1, e2, hq, st⟩
/-- not caught here, past rows that name other classes: it goes on to the caller -/
theorem vx_outP {p : Program} {l : Launch} {e : Env} {R : Room} {s : State} {m : MethodId} {args : Array Value} {below : List Frame} {meth : Method} {c : Code} {H : Heap} {locs : List Loc} {cells slots : Nat} {free : Addr → Prop} {ls : Array Slot} {rest : List Value} {Qc : Array Value → State → Outcome → State → Prop} {XC : String → State → State → Prop}
    {pc : Nat} {own E : String} {ce : Cell} {q : Addr} {mc ms : Nat} (hown : s.vm.findClass own = some m.cls) (hlocks : meth.locks = false)
    (hpass : ∀ z ∈ c.exceptionTable.toList, covers z pc = false ∨ (z.catchType ≠ 0 ∧ ∃ nm : String, (Cond.classLink own z.catchType nm).before args s = true ∧ va_Nc E nm s)) (hcell : H[q]? = some ce) (hv : ce.vm = .none) (hcl : s.vm.findClass E = some ce.cls)
    (hx : ∀ t : State, t.heap = H → s.vm.Alike t.vm → XC E s t) (hf : ∀ z ∈ locs, free z.base) (hc : cells ≤ mc) (hs : slots ≤ ms) :
    vx_W p l e R s m args below meth c H locs cells slots (vx_MQ below Qc XC args s mc ms free) (F0 m pc ls rest) q := by
  intro T hT X
  have hpl : e.platform.magicAccessors = ({} : Platform).magicAccessors := by rw [X.admits.platform]
  obtain ⟨vm', hW', X', st⟩ := Stand.outThrough X hlocks q (g := F0 m pc ls rest) rfl rfl rfl (cell := ce) (by rw [hT]; exact hcell) (by rw [hv]; rfl)
    (by obtain ⟨k9, h9, -⟩ := Vm.findClass_spec hcl; exact ⟨k9, h9⟩) (fun z hz => by
      rcases hpass z hz with h | ⟨hz0, nm, hl1, hn1⟩
      · exact Or.inl h
      · obtain ⟨c6, hc6, hcl6⟩ := Cond.classLink_spec hown hl1 e.platform hpl
        obtain ⟨a8, b8, h1, h2, h3⟩ := hn1
        cases Option.some.inj (h1.symm.trans hcl)
        cases Option.some.inj (h2.symm.trans hc6)
        exact Or.inr ⟨hz0, _, hcl6, h3⟩)
  obtain ⟨g₀, hfr⟩ := X'.frames_eq
  have hcell9 : ((T.setVm vm').setFrames (.throwing q :: below)).heap[q]? = some ce := by
    show T.heap[q]? = some ce
    rw [hT]; exact hcell
  have hend : Ended ((T.setVm vm').setFrames (.throwing q :: below)) below (.threw q) := State.frames_setFrames _ (State.cur_lt_of_frames hfr)
  refine ⟨(T.setVm vm').setFrames (.throwing q :: below), ?_, .threw q, X'.here.running, hend, Or.inr ⟨q, rfl, E, ce, locs, hx _ hT (X'.ends _).1.alike, hcell9, hv, hcl, (X'.ends _).1, (X'.ends _).2.mono hc hs, hf⟩⟩
  rw [X.pushThrowing_eq]
  exact st
/-- a thing of a world lies in the heap -/
theorem vx_lt {D : va_G} {cl : List vw_C} {ws : va_W} {H1 : Heap} (h : va_P D cl ws H1) {k : Nat} {q : Nat × va_E} (hk : ws[k]? = some q) : q.1 < H1.size := (h k q hk).lt
end VXS
/-! ===== END ===== -/
/-! ===== BEGIN methods with a table of their own: called by a name, returning or throwing ===== -/
section VXH
/-! vx_backW, vx_callVX, vx_callSX, vx_callVW, vx_runVW, vx_runVX, vx_runSX, vx_ofWH follow the same proofs as their sisters above (Free/Laws.lean, Shelf42/LK1.lean); vx_outP calls Shelf42/NT130.lean (outThrough). -/
section
variable {l : Launch} {R : Room} {p : Program} {e : Env} {below : List Frame} {s : State} {sargs : Array Value} {y : MethodName} {len W9 : Nat}
theorem vx_backW {ws : List Cond} {rm : Room} {Pc : Array Value → State → Prop} {Qc : Array Value → State → Outcome → State → Prop} {XC : String → State → State → Prop} {mc ms : Nat} {free : Addr → Prop} {bytes : ByteArray} {maxL : Nat} {ret : Option FieldType} {hh : List (Nat × Nat × Nat × Nat)}
    (hM : vx_Met l y ws rm Pc Qc XC mc ms free) (hblind : FrameBlind Pc) (hrc : rm.cells = mc) (hrs : rm.slots = ms)
    (hframes : rm.frames + 1 ≤ R.frames) (hlocals : W9 + (maxL + 11) + rm.locals ≤ R.locals)
    (hws : ∀ w ∈ ws, ∀ a' U, s.WarmedH U.vm → w.before a' U = true) (hcode : Cond.codeWith y bytes maxL ret hh ∈ ws) (hinit : ∀ a' U, s.WarmedH U.vm → (Cond.initialized y.cls).before a' U = true) :
    vx_Back l R p e below s sargs y len W9 (PreOf R mc ms Pc) (PostOf Qc mc ms free) (vx_Post XC mc ms free) := by
  intro m meth c A g ig mk a X hg hsize hdg hW hn hp
  have h1 : (headSpec ws rm).pre.before a A.U = true := atoms_intro fun w hw => hws w hw _ _ X.warmed
  have h2 : (Cond.codeWith y bytes maxL ret hh).before a A.U = true := hws _ hcode _ _ X.warmed
  have h3 : (Cond.initialized y.cls).before a A.U = true := hinit _ _ X.warmed
  have h4 : A.cells + (headSpec ws rm).room.cells ≤ R.cells := by rw [show (headSpec ws rm).room.cells = mc from hrc]; exact hp.1
  have h5 : A.slots + (headSpec ws rm).room.slots ≤ R.slots := by rw [show (headSpec ws rm).room.slots = ms from hrs]; exact hp.2.1
  have hPc : Pc a (A.U.calling g mk a) := hblind _ _ _ _ hp.2.2
  obtain ⟨U, Ls, c0, s0⟩ := A
  dsimp only [Pt.U, Pt.locs, Pt.cells, Pt.slots] at h1 h2 h3 h4 h5 X hn hPc ⊢
  obtain ⟨m9, methY, cY, hn9, hmY, hcY, -, hlY, -⟩ := Cond.codeWith_spec h2
  cases Option.some.inj (hn9.symm.trans hn)
  obtain ⟨kY, hkY, -⟩ := className_of_methodNamed hn
  have hinitY : kY.init = .initialized := Cond.initialized_spec (findClass_of_methodNamed hn) hkY h3
  have h : At U g.method c below := by rw [hg]; exact X.here
  have hlocals9 : W9 + (maxL + 11) + (headSpec ws rm).room.locals ≤ R.locals := hlocals
  have happ : (headSpec ws rm).appliesLoose y e.platform (U.calling g mk a) = true :=
    Spec.appliesLoose_calling (g := g) h hdg hn hkY hinitY
      (X.room_calling (g := g) (R' := (headSpec ws rm).room) hsize hmY hcY hframes (by rw [hlY]; omega) h4 h5) h1
  obtain ⟨mid, hmid⟩ := h.above
  have hfr : (U.setTop g).frames = (.java g :: mid) ++ below := by rw [State.frames_setTop' g h.top, hmid]; rfl
  obtain ⟨o, s₂, hsteps, -, hend, hq⟩ := Steps.callFree hM p X.admits X.cas X.clock (acts := []) hfr happ hPc trivial
  have hq' : vx_Q Qc XC mc ms free a (U.calling g mk a) o s₂ := hq
  rw [State.frames_setTop' g h.top] at hend
  obtain ⟨g₀, hg0⟩ := Option.isSome_iff_exists.mp h.top
  obtain ⟨r, hr⟩ := State.topJava?_eq_some.mp hg0
  have hr' : (({ U with heap := s₂.heap, slotsUsed := s₂.slotsUsed } : State).setVm s₂.vm).frames = .java g₀ :: r := hr
  rcases hq' with ⟨hqc, L, hfe, hL⟩ | ⟨q, rfl, E, ce, L, hx, hce, hcv, hcl, hW₂, hsm, hL⟩
  · obtain ⟨⟨v, rfl⟩, hW₂, e2, q2, q3, q4, q5, q6⟩ := id hfe
    have e3 : s₂ = ({ (U.calling g mk a).setFrames s₂.frames with heap := s₂.heap, slotsUsed := s₂.slotsUsed } : State).setVm s₂.vm := by
      have : s₂ = ({ s₂ with vm := (U.calling g mk a).vm } : State).setVm s₂.vm := rfl
      rw [e2] at this
      exact this
    obtain ⟨c₂, i₂, len₂, hc₂, hd₂, hf₂⟩ := hend
    have hW' : U.WarmedH s₂.vm := hW₂
    have hcc : c₂ = c := by
      have h1 : s₂.code? g.method = U.code? g.method := by
        rw [State.code?_eq, State.code?_eq, hW'.alike.method?]
      exact Option.some.inj (hc₂.symm.trans (h1.trans h.code))
    subst hcc
    have hlen : len₂ = len := by rw [hdg] at hd₂; cases hd₂; rfl
    subst hlen
    have hs₂ : s₂ = (({ U with heap := s₂.heap, slotsUsed := s₂.slotsUsed } : State).setVm s₂.vm).setTop { g with pc := g.pc + len₂, stack := v.toList ++ g.stack } := by
      refine e3.trans ?_
      rw [hf₂, State.calling_eq h.top, State.setFrames_setFrames, State.setTop_of_frames _ hr', hr]
      rfl
    have hsame : U.sameButNew ({ U with heap := s₂.heap, slotsUsed := s₂.slotsUsed } : State) L mc ms := by
      refine ⟨?_, q2, q3, q4, q5, q6⟩
      obtain ⟨t, ht, -⟩ := State.frames_cons hr
      show ({ U with heap := s₂.heap, slotsUsed := s₂.slotsUsed } : State) = { U.setFrames U.frames with heap := s₂.heap, slotsUsed := s₂.slotsUsed }
      rw [State.setFrames_self ht]
    subst hg
    refine Or.inl ⟨v, ⟨(({ U with heap := s₂.heap, slotsUsed := s₂.slotsUsed } : State).setVm s₂.vm), Ls ++ L, c0 + mc, s0 + ms⟩,
      ⟨X.admits, X.cas, X.clock, X.frames, X.room, X.hears, X.method, X.code, (X.here.setHeapUsed s₂.heap s₂.slotsUsed).setVm hW'.alike, X.tail, State.WarmedH.trans X.warmed hW', X.limits, X.bytes, X.same.trans (hsame.setVm s.vm)⟩,
      ⟨g, mk, s₂, L, rfl, rfl, hqc, rfl, hL, rfl, rfl⟩, ?_⟩
    show Steps p.tables e below _ ((({ U with heap := s₂.heap, slotsUsed := s₂.slotsUsed } : State).setVm s₂.vm).setTop { g with pc := g.pc + len₂, stack := v.toList ++ g.stack })
    rw [← hs₂]
    exact hsteps
  · obtain ⟨e2, q2, q3, q4, q5, q6⟩ := id hsm
    have e3 : s₂ = ({ (U.calling g mk a).setFrames s₂.frames with heap := s₂.heap, slotsUsed := s₂.slotsUsed } : State).setVm s₂.vm := by
      have : s₂ = ({ s₂ with vm := (U.calling g mk a).vm } : State).setVm s₂.vm := rfl
      rw [e2] at this
      exact this
    have hf₂ : s₂.frames = .throwing q :: .java g :: U.frames.tail := hend
    have hW' : U.WarmedH s₂.vm := hW₂
    have hs₂ : s₂ = ((({ U with heap := s₂.heap, slotsUsed := s₂.slotsUsed } : State).setVm s₂.vm).setTop g).pushFrame (.throwing q) := by
      refine e3.trans ?_
      rw [hf₂, State.calling_eq h.top, State.setFrames_setFrames, State.pushFrame, State.frames_setTop _ hr', State.setTop_of_frames _ hr', State.setFrames_setFrames, hr]
      rfl
    have hsame : U.sameButNew ({ U with heap := s₂.heap, slotsUsed := s₂.slotsUsed } : State) L mc ms := by
      refine ⟨?_, q2, q3, q4, q5, q6⟩
      obtain ⟨t, ht, -⟩ := State.frames_cons hr
      show ({ U with heap := s₂.heap, slotsUsed := s₂.slotsUsed } : State) = { U.setFrames U.frames with heap := s₂.heap, slotsUsed := s₂.slotsUsed }
      rw [State.setFrames_self ht]
    subst hg
    refine Or.inr ⟨q, ⟨(({ U with heap := s₂.heap, slotsUsed := s₂.slotsUsed } : State).setVm s₂.vm), Ls ++ L, c0 + mc, s0 + ms⟩,
      ⟨X.admits, X.cas, X.clock, X.frames, X.room, X.hears, X.method, X.code, (X.here.setHeapUsed s₂.heap s₂.slotsUsed).setVm hW'.alike, X.tail, State.WarmedH.trans X.warmed hW', X.limits, X.bytes, X.same.trans (hsame.setVm s.vm)⟩,
      ⟨g, mk, s₂, L, E, ce, rfl, rfl, hx, hce, hcv, hcl, rfl, hL, rfl, rfl⟩, ?_⟩
    show Steps p.tables e below _ (((({ U with heap := s₂.heap, slotsUsed := s₂.slotsUsed } : State).setVm s₂.vm).setTop g).pushFrame (.throwing q))
    rw [← hs₂]
    exact hsteps
end
variable {p : Program} {l : Launch} {e : Env} {R : Room} {s : State} {m : MethodId} {args : Array Value} {below : List Frame} {meth : Method} {c : Code} {T : State} {H : Heap} {locs : List Loc} {cells slots : Nat}
theorem vx_callVX (X : Stand p l e R s m args below meth c T locs cells slots) (hexec : p.tables.exec = Jvm.exec) {own C : String} {index : Nat} {y : MethodName} {bytes : ByteArray} {maxL : Nat} {ret : Option FieldType} {hh : List (Nat × Nat × Nat × Nat)}
    (hown : s.vm.findClass own = some m.cls) (hlink : (Cond.methodLink own index y).before args s = true) (hinst : (Cond.instanceMethod y).before args s = true) (hsel : (Cond.selects C y y).before args s = true)
    (hcode : (Cond.codeWith y bytes maxL ret hh).before args s = true) (hy : y.cls ≠ "java/lang/invoke/MethodHandle" ∧ y.cls ≠ "java/lang/invoke/VarHandle")
    {W9 : Nat} {Pre : Pt → Array Value → Prop} {Post : Pt → Array Value → Option Value → Pt → Prop} {PostX : Pt → Array Value → Addr → Pt → Prop} (hK : vx_Back l R p e below s args y 3 W9 Pre Post PostX)
    {b : Addr} {cellB : Cell} (hcell : T.heap[b]? = some cellB) (hobj : cellB.vm.isStatics = false) (hcls : s.vm.findClass C = some cellB.cls)
    {g : JFrame} (hg : g.method = m) (hsize : g.locals.size = c.maxLocals) {argsL rest : List Value} (hlen : ∀ sig, parseMethodDescriptor y.desc = some sig → argsL.length = sig.parameters.length)
    (hstack : g.stack = argsL.reverse ++ .ref b :: rest) (hW : 2 * g.monitorRoom + (rest.map fun v => v.category).sum ≤ W9) (hdg : decode c.code g.pc = .ok (.invokevirtual index, 3))
    (hpre : ∀ vm₁, s.WarmedH vm₁ → Pre ⟨T.setVm vm₁, locs, cells, slots⟩ (Value.ref b :: argsL).toArray) :
    (∃ (v : Option Value) (vm₁ : Vm) (B : Pt), s.WarmedH vm₁ ∧ Stand p l e R s m args below meth c B.U B.locs B.cells B.slots ∧ Post ⟨T.setVm vm₁, locs, cells, slots⟩ (Value.ref b :: argsL).toArray v B ∧
      ∀ target, Steps p.tables e below (B.U.setTop { g with pc := g.pc + 3, stack := v.toList ++ rest }) target → Steps p.tables e below (T.setTop g) target) ∨
    (∃ (q : Addr) (vm₁ : Vm) (B : Pt), s.WarmedH vm₁ ∧ Stand p l e R s m args below meth c B.U B.locs B.cells B.slots ∧ PostX ⟨T.setVm vm₁, locs, cells, slots⟩ (Value.ref b :: argsL).toArray q B ∧
      Steps p.tables e below (T.setTop g) ((B.U.setTop { g with stack := rest }).pushFrame (.throwing q))) := by
  obtain ⟨mk, methM, hnamed, hmethM, hstM, habM⟩ := Cond.instanceMethod_spec hinst
  obtain ⟨m8, methM', cM, hn8, hmethM', -, -, -, -, -, -, hsigM⟩ := Cond.codeWith_spec hcode
  cases Option.some.inj (hn8.symm.trans hnamed)
  cases hmethM.symm.trans hmethM'
  obtain ⟨c2, r2, m2, q1, q2, q3, q4, kP, hkP, hkPi⟩ := Cond.selects_spec hsel
  cases hcls.symm.trans q1
  cases (State.methodFound?_of_named hnamed hy).symm.trans q2
  cases hnamed.symm.trans q3
  have hselP : selectMethod e.platform s.vm cellB.cls mk = .method mk := by rw [Launch.admits_selectMethod X.admits]; exact q4
  obtain ⟨vm₁, X₁, hstep₁⟩ := X.invokevirtual hexec hown hlink hnamed hmethM hstM hkP hkPi hy (a := b) (cell := cellB) hcell
    (fun z h => by rw [h] at hobj; cases hobj) hselP hmethM habM hkP hkPi (g := g) hg (argsL := argsL) (rest := rest) (hlen _ hsigM) hstack hdg
  rcases hK m meth c ⟨T.setVm vm₁, locs, cells, slots⟩ { g with stack := rest } (.invokevirtual index) mk (Value.ref b :: argsL).toArray X₁ hg hsize hdg hW (X₁.named hnamed) (hpre vm₁ X₁.warmed) with ⟨v, B, X', hpost, hsteps⟩ | ⟨q, B, X', hpost, hsteps⟩
  · exact Or.inl ⟨v, vm₁, B, X₁.warmed, X', hpost, fun target h => hstep₁ _ fun acts => by rw [doInvoke_state]; exact hsteps.trans h⟩
  · exact Or.inr ⟨q, vm₁, B, X₁.warmed, X', hpost, hstep₁ _ fun acts => by rw [doInvoke_state]; exact hsteps⟩
theorem vx_callSX (X : Stand p l e R s m args below meth c T locs cells slots) (hexec : p.tables.exec = Jvm.exec) {own : String} {index : Nat} {y : MethodName} {bytes : ByteArray} {maxL : Nat} {ret : Option FieldType} {hh : List (Nat × Nat × Nat × Nat)}
    (hown : s.vm.findClass own = some m.cls) (hlink : (Cond.methodLink own index y).before args s = true) (hstat : (Cond.static y).before args s = true) (hinit : (Cond.initialized y.cls).before args s = true)
    (hcode : (Cond.codeWith y bytes maxL ret hh).before args s = true) (hy : y.cls ≠ "java/lang/invoke/MethodHandle" ∧ y.cls ≠ "java/lang/invoke/VarHandle")
    {W9 : Nat} {Pre : Pt → Array Value → Prop} {Post : Pt → Array Value → Option Value → Pt → Prop} {PostX : Pt → Array Value → Addr → Pt → Prop} (hK : vx_Back l R p e below s args y 3 W9 Pre Post PostX)
    {g : JFrame} (hg : g.method = m) (hsize : g.locals.size = c.maxLocals) {argsL rest : List Value} (hlen : ∀ sig, parseMethodDescriptor y.desc = some sig → argsL.length = sig.parameters.length)
    (hstack : g.stack = argsL.reverse ++ rest) (hW : 2 * g.monitorRoom + (rest.map fun v => v.category).sum ≤ W9) (hdg : decode c.code g.pc = .ok (.invokestatic index, 3))
    (hpre : ∀ vm₁, s.WarmedH vm₁ → Pre ⟨T.setVm vm₁, locs, cells, slots⟩ argsL.toArray) :
    (∃ (v : Option Value) (vm₁ : Vm) (B : Pt), s.WarmedH vm₁ ∧ Stand p l e R s m args below meth c B.U B.locs B.cells B.slots ∧ Post ⟨T.setVm vm₁, locs, cells, slots⟩ argsL.toArray v B ∧
      ∀ target, Steps p.tables e below (B.U.setTop { g with pc := g.pc + 3, stack := v.toList ++ rest }) target → Steps p.tables e below (T.setTop g) target) ∨
    (∃ (q : Addr) (vm₁ : Vm) (B : Pt), s.WarmedH vm₁ ∧ Stand p l e R s m args below meth c B.U B.locs B.cells B.slots ∧ PostX ⟨T.setVm vm₁, locs, cells, slots⟩ argsL.toArray q B ∧
      Steps p.tables e below (T.setTop g) ((B.U.setTop { g with stack := rest }).pushFrame (.throwing q))) := by
  obtain ⟨mk, methM, cM, hnamed, hmethM, -, -, -, -, -, -, hsigM⟩ := Cond.codeWith_spec hcode
  have hstatic : methM.isStatic = true := Cond.static_spec hnamed hmethM hstat
  obtain ⟨kP, hkP, -⟩ := className_of_methodNamed hnamed
  have hinitP : kP.init = .initialized := Cond.initialized_spec (findClass_of_methodNamed hnamed) hkP hinit
  obtain ⟨vm₁, X₁, hstep₁⟩ := X.invokestatic hexec hown hlink hnamed hmethM hstatic hkP hinitP hy (g := g) hg (argsL := argsL) (rest := rest) (hlen _ hsigM) hstack hdg
  rcases hK m meth c ⟨T.setVm vm₁, locs, cells, slots⟩ { g with stack := rest } (.invokestatic index) mk argsL.toArray X₁ hg hsize hdg hW (X₁.named hnamed) (hpre vm₁ X₁.warmed) with ⟨v, B, X', hpost, hsteps⟩ | ⟨q, B, X', hpost, hsteps⟩
  · exact Or.inl ⟨v, vm₁, B, X₁.warmed, X', hpost, fun target h => hstep₁ _ fun acts => by rw [doInvoke_state]; exact hsteps.trans h⟩
  · exact Or.inr ⟨q, vm₁, B, X₁.warmed, X', hpost, hstep₁ _ fun acts => by rw [doInvoke_state]; exact hsteps⟩
theorem vx_callVW (X : Stand p l e R s m args below meth c T locs cells slots) (hexec : p.tables.exec = Jvm.exec) {own C : String} {index : Nat} {y : MethodName} {bytes : ByteArray} {maxL : Nat} {ret : Option FieldType} {hh : List (Nat × Nat × Nat × Nat)}
    (hown : s.vm.findClass own = some m.cls) (hlink : (Cond.methodLink own index y).before args s = true) (hinst : (Cond.instanceMethod y).before args s = true) (hsel : (Cond.selects C y y).before args s = true)
    (hcode : (Cond.codeWith y bytes maxL ret hh).before args s = true) (hy : y.cls ≠ "java/lang/invoke/MethodHandle" ∧ y.cls ≠ "java/lang/invoke/VarHandle")
    {W9 : Nat} {Pre : Pt → Array Value → Prop} {Post : Pt → Array Value → Option Value → Pt → Prop} (hK : Back l R p e below s args y 3 W9 Pre Post)
    {b : Addr} {cellB : Cell} (hcell : T.heap[b]? = some cellB) (hobj : cellB.vm.isStatics = false) (hcls : s.vm.findClass C = some cellB.cls)
    {g : JFrame} (hg : g.method = m) (hsize : g.locals.size = c.maxLocals) {argsL rest : List Value} (hlen : ∀ sig, parseMethodDescriptor y.desc = some sig → argsL.length = sig.parameters.length)
    (hstack : g.stack = argsL.reverse ++ .ref b :: rest) (hW : 2 * g.monitorRoom + (rest.map fun v => v.category).sum ≤ W9) (hdg : decode c.code g.pc = .ok (.invokevirtual index, 3))
    (hpre : ∀ vm₁, s.WarmedH vm₁ → Pre ⟨T.setVm vm₁, locs, cells, slots⟩ (Value.ref b :: argsL).toArray) :
    ∃ (v : Option Value) (vm₁ : Vm) (B : Pt), s.WarmedH vm₁ ∧ Stand p l e R s m args below meth c B.U B.locs B.cells B.slots ∧ Post ⟨T.setVm vm₁, locs, cells, slots⟩ (Value.ref b :: argsL).toArray v B ∧
      ∀ target, Steps p.tables e below (B.U.setTop { g with pc := g.pc + 3, stack := v.toList ++ rest }) target → Steps p.tables e below (T.setTop g) target := by
  obtain ⟨mk, methM, hnamed, hmethM, hstM, habM⟩ := Cond.instanceMethod_spec hinst
  obtain ⟨m8, methM', cM, hn8, hmethM', -, -, -, -, -, -, hsigM⟩ := Cond.codeWith_spec hcode
  cases Option.some.inj (hn8.symm.trans hnamed)
  cases hmethM.symm.trans hmethM'
  obtain ⟨c2, r2, m2, q1, q2, q3, q4, kP, hkP, hkPi⟩ := Cond.selects_spec hsel
  cases hcls.symm.trans q1
  cases (State.methodFound?_of_named hnamed hy).symm.trans q2
  cases hnamed.symm.trans q3
  have hselP : selectMethod e.platform s.vm cellB.cls mk = .method mk := by rw [Launch.admits_selectMethod X.admits]; exact q4
  obtain ⟨vm₁, X₁, hstep₁⟩ := X.invokevirtual hexec hown hlink hnamed hmethM hstM hkP hkPi hy (a := b) (cell := cellB) hcell
    (fun z h => by rw [h] at hobj; cases hobj) hselP hmethM habM hkP hkPi (g := g) hg (argsL := argsL) (rest := rest) (hlen _ hsigM) hstack hdg
  obtain ⟨v, B, X', hpost, hsteps⟩ := hK m meth c ⟨T.setVm vm₁, locs, cells, slots⟩ { g with stack := rest } (.invokevirtual index) mk (Value.ref b :: argsL).toArray X₁ hg hsize hdg hW (X₁.named hnamed) (hpre vm₁ X₁.warmed)
  exact ⟨v, vm₁, B, X₁.warmed, X', hpost, fun target h => hstep₁ _ fun acts => by rw [doInvoke_state]; exact hsteps.trans h⟩
abbrev vx_CVW (R : Room) (s : State) (args : Array Value) (own C : String) (index : Nat) (y : MethodName) (bytes : ByteArray) (maxL : Nat) (ret : Option FieldType) (hh : List (Nat × Nat × Nat × Nat)) (ws : List Cond) (rm : Room) (mc ms n : Nat) : Prop :=
  (rm.cells = mc ∧ rm.slots = ms ∧ rm.frames + 1 ≤ R.frames ∧ 8 + (maxL + 11) + rm.locals ≤ R.locals ∧ (∀ w ∈ ws, ∀ (a' : Array Value) (U : State), s.WarmedH U.vm → w.before a' U = true) ∧ Cond.codeWith y bytes maxL ret hh ∈ ws) ∧
  (Cond.codeWith y bytes maxL ret hh).before args s = true ∧ (Cond.initialized y.cls).before args s = true ∧ (y.cls ≠ "java/lang/invoke/MethodHandle" ∧ y.cls ≠ "java/lang/invoke/VarHandle") ∧
  (∀ sig, parseMethodDescriptor y.desc = some sig → n = sig.parameters.length) ∧ (Cond.methodLink own index y).before args s = true ∧ (Cond.instanceMethod y).before args s = true ∧ (Cond.selects C y y).before args s = true
theorem vx_cwVW {own C : String} {index maxL mc ms : Nat} {y : MethodName} {bytes : ByteArray} {ret : Option FieldType} {hh : List (Nat × Nat × Nat × Nat)} {Ts ws ws' : List Cond} {rm : Room} (n : Nat) (ht : ∀ w ∈ Ts, w.before args s = true) (hT : GoodIn Ts (wsV own index C y ws)) (hw : ws = Cond.codeWith y bytes maxL ret hh :: ws') (hrc : rm.cells = mc) (hrs : rm.slots = ms)
    (hd : y.cls = C ∧ y.cls ≠ "java/lang/invoke/MethodHandle" ∧ y.cls ≠ "java/lang/invoke/VarHandle" ∧ (parseMethodDescriptor y.desc).map (fun d => d.parameters.length) = some n) (hR : rm.frames + 1 ≤ R.frames ∧ 8 + (maxL + 11) + rm.locals ≤ R.locals) :
    vx_CVW R s args own C index y bytes maxL ret hh ws rm mc ms n := by
  obtain ⟨hC, hd⟩ := hd
  subst hC
  have ok : ∀ w ∈ wsV own index y.cls y ws, w.before args s = true := fun w h => ht w (hT w h).1
  have hG : GoodIn Ts ws := fun w h => hT w (by unfold wsV; exact List.mem_append_right _ h)
  have hc : Cond.codeWith y bytes maxL ret hh ∈ ws := by rw [hw]; exact List.mem_cons_self
  refine ⟨⟨hrc, hrs, hR.1, hR.2, pay_in ht hG, hc⟩, ht _ (hG _ hc).1, ok _ (by simp [wsV]), ⟨hd.1, hd.2.1⟩, fun sig h => ?_, ok _ (by simp [wsV]), ok _ (by simp [wsV]), ok _ (by simp [wsV])⟩
  have h2 := hd.2.2
  rw [h] at h2
  exact (Option.some.inj h2).symm
theorem vx_runVW {y : MethodName} {bytes cc : ByteArray} {maxL nL mc ms n index : Nat} {ret : Option FieldType} {hh : List (Nat × Nat × Nat × Nat)} {ws : List Cond} {rm : Room} {Pc : Array Value → State → Prop} {Qc : Array Value → State → Outcome → State → Prop} {free : Addr → Prop} {Ts : List Cond} {own C : String} {b : Addr} {As rest : List Value} {g : JFrame}
    (S : CallFix p m c cc nL s args Ts own) (hM : Met l y ws rm Pc Qc mc ms free) (cw : vx_CVW R s args own C index y bytes maxL ret hh ws rm mc ms n) (hp : PreV s H C b Pc As)
    (hg : g.method = m) (hn : As.length = n) (hsize : g.locals.size = nL) (hstack : g.stack = As.reverse ++ .ref b :: rest) (hW : 2 * g.monitorRoom + (rest.map fun v => v.category).sum ≤ 8) (hdg : decode cc g.pc = .ok (.invokevirtual index, 3)) (hf : cells + mc ≤ R.cells ∧ slots + ms ≤ R.slots) :
    va_Run p l e R s m args below meth c H locs cells slots mc ms g rest (Qc (Value.ref b :: As).toArray) free := by
  obtain ⟨⟨hrc, hrs, hfr, hlo, hws, hcw⟩, hcode, hini, hy, hlen, hl, hin, hse⟩ := cw
  have hK : Back l R p e below s args y 3 8 (PreOf R mc ms Pc) (PostOf Qc mc ms free) := va_backW (hh := hh) (bytes := bytes) (maxL := maxL) (ret := ret) hM hp.1 hrc hrs hfr hlo hws hcw (fun a' U hW => word_at hW (Or.inl (by first | rfl | simp [Cond.onTables, Cond.keeps, Cond.steady])) hini)
  obtain ⟨hx, hb, hml, ho, -⟩ := S
  obtain ⟨-, ⟨cellB, hcB, hoB, hclB⟩, hPc⟩ := hp
  intro T hT X
  obtain ⟨v, vm₁, ⟨U', l2, c2, s2⟩, hW₁, X', ⟨g', mk, t, L, e1, e2, hq, h1, hL, h2, h3⟩, st⟩ := vx_callVW X hx (C := C) (hh := hh) (bytes := bytes) (maxL := maxL) (ret := ret) ho hl hin hse hcode hy hK (by rw [hT]; exact hcB) hoB hclB hg (hsize.trans hml.symm) (argsL := As) (rest := rest) (fun sig h => hn.trans (hlen sig h)) hstack hW (by rw [hb]; exact hdg)
    (fun vm₁ hW₁ => ⟨hf.1, hf.2, hPc (T.setVm vm₁) hT hW₁⟩)
  dsimp only [Pt.U, Pt.locs, Pt.cells, Pt.slots] at X' e1 e2 h1 h2 h3 st
  subst h1; subst h2; subst h3
  exact ⟨v, (T.setVm vm₁).calling g' mk (Value.ref b :: As).toArray, t, U', L, hT, X', hL, e1, e2, hq, st⟩
section
variable {y : MethodName} {bytes cc : ByteArray} {maxL nL mc ms n index : Nat} {ret : Option FieldType} {ws : List Cond} {rm : Room} {Pc : Array Value → State → Prop} {Qc : Array Value → State → Outcome → State → Prop} {XC : String → State → State → Prop} {free : Addr → Prop} {Ts : List Cond} {own C : String} {b : Addr} {As rest : List Value} {g : JFrame}
theorem vx_runVX {hh : List (Nat × Nat × Nat × Nat)} (S : CallFix p m c cc nL s args Ts own) (hM : vx_Met l y ws rm Pc Qc XC mc ms free) (cw : vx_CVW R s args own C index y bytes maxL ret hh ws rm mc ms n) (hp : PreV s H C b Pc As)
    (hg : g.method = m) (hn : As.length = n) (hsize : g.locals.size = nL) (hstack : g.stack = As.reverse ++ .ref b :: rest) (hW : 2 * g.monitorRoom + (rest.map fun v => v.category).sum ≤ 8) (hdg : decode cc g.pc = .ok (.invokevirtual index, 3)) (hf : cells + mc ≤ R.cells ∧ slots + ms ≤ R.slots) :
    vx_Run p l e R s m args below meth c H locs cells slots mc ms g rest (Qc (Value.ref b :: As).toArray) XC free := by
  obtain ⟨⟨hrc, hrs, hfr, hlo, hws, hcw⟩, hcode, hini, hy, hlen, hl, hin, hse⟩ := cw
  have hK : vx_Back l R p e below s args y 3 8 (PreOf R mc ms Pc) (PostOf Qc mc ms free) (vx_Post XC mc ms free) := vx_backW (hh := hh) (bytes := bytes) (maxL := maxL) (ret := ret) hM hp.1 hrc hrs hfr hlo hws hcw (fun a' U hW => word_at hW (Or.inl (by first | rfl | simp [Cond.onTables, Cond.keeps, Cond.steady])) hini)
  obtain ⟨hx, hb, hml, ho, -⟩ := S
  obtain ⟨-, ⟨cellB, hcB, hoB, hclB⟩, hPc⟩ := hp
  intro T hT X
  rcases vx_callVX X hx (C := C) (hh := hh) (bytes := bytes) (maxL := maxL) (ret := ret) ho hl hin hse hcode hy hK (by rw [hT]; exact hcB) hoB hclB hg (hsize.trans hml.symm) (argsL := As) (rest := rest) (fun sig h => hn.trans (hlen sig h)) hstack hW (by rw [hb]; exact hdg)
    (fun vm₁ hW₁ => ⟨hf.1, hf.2, hPc (T.setVm vm₁) hT hW₁⟩) with ⟨v, vm₁, ⟨U', l2, c2, s2⟩, hW₁, X', ⟨g', mk, t, L, e1, e2, hq, h1, hL, h2, h3⟩, st⟩ | ⟨q, vm₁, ⟨U', l2, c2, s2⟩, hW₁, X', ⟨g', mk, t, L, E, ce, e1, e2, hq, hce, hcv, hcl, h1, hL, h2, h3⟩, st⟩
  · dsimp only [Pt.U, Pt.locs, Pt.cells, Pt.slots] at X' e1 e2 h1 h2 h3 st
    subst h1; subst h2; subst h3
    exact Or.inl ⟨v, (T.setVm vm₁).calling g' mk (Value.ref b :: As).toArray, t, U', L, hT, X', hL, e1, e2, hq, st⟩
  · dsimp only [Pt.U, Pt.locs, Pt.cells, Pt.slots] at X' e1 e2 h1 h2 h3 st hcl
    subst h1; subst h2; subst h3
    exact Or.inr ⟨q, (T.setVm vm₁).calling g' mk (Value.ref b :: As).toArray, t, U', L, E, ce, hT, X', hL, e1, e2, hq, hce, hcv, vx_cls hW₁ hcl, st⟩
theorem vx_runSX {hh : List (Nat × Nat × Nat × Nat)} (S : CallFix p m c cc nL s args Ts own) (hM : vx_Met l y ws rm Pc Qc XC mc ms free) (cw : vx_CSW R s args own index y bytes maxL ret hh ws rm mc ms n) (hp : PreS s H Pc As)
    (hg : g.method = m) (hn : As.length = n) (hsize : g.locals.size = nL) (hstack : g.stack = As.reverse ++ rest) (hW : 2 * g.monitorRoom + (rest.map fun v => v.category).sum ≤ 8) (hdg : decode cc g.pc = .ok (.invokestatic index, 3)) (hf : cells + mc ≤ R.cells ∧ slots + ms ≤ R.slots) :
    vx_Run p l e R s m args below meth c H locs cells slots mc ms g rest (Qc As.toArray) XC free := by
  obtain ⟨⟨hrc, hrs, hfr, hlo, hws, hcw⟩, hcode, hini, hy, hlen, hl, hstt⟩ := cw
  have hK : vx_Back l R p e below s args y 3 8 (PreOf R mc ms Pc) (PostOf Qc mc ms free) (vx_Post XC mc ms free) := vx_backW (hh := hh) (bytes := bytes) (maxL := maxL) (ret := ret) hM hp.1 hrc hrs hfr hlo hws hcw (fun a' U hW => word_at hW (Or.inl (by first | rfl | simp [Cond.onTables, Cond.keeps, Cond.steady])) hini)
  obtain ⟨hx, hb, hml, ho, -⟩ := S
  intro T hT X
  rcases vx_callSX X hx (hh := hh) (bytes := bytes) (maxL := maxL) (ret := ret) ho hl hstt hini hcode hy hK hg (hsize.trans hml.symm) (argsL := As) (rest := rest) (fun sig h => hn.trans (hlen sig h)) hstack hW (by rw [hb]; exact hdg)
    (fun vm₁ hW₁ => ⟨hf.1, hf.2, hp.2 (T.setVm vm₁) hT hW₁⟩) with ⟨v, vm₁, ⟨U', l2, c2, s2⟩, hW₁, X', ⟨g', mk, t, L, e1, e2, hq, h1, hL, h2, h3⟩, st⟩ | ⟨q, vm₁, ⟨U', l2, c2, s2⟩, hW₁, X', ⟨g', mk, t, L, E, ce, e1, e2, hq, hce, hcv, hcl, h1, hL, h2, h3⟩, st⟩
  · dsimp only [Pt.U, Pt.locs, Pt.cells, Pt.slots] at X' e1 e2 h1 h2 h3 st
    subst h1; subst h2; subst h3
    exact Or.inl ⟨v, (T.setVm vm₁).calling g' mk As.toArray, t, U', L, hT, X', hL, e1, e2, hq, st⟩
  · dsimp only [Pt.U, Pt.locs, Pt.cells, Pt.slots] at X' e1 e2 h1 h2 h3 st hcl
    subst h1; subst h2; subst h3
    exact Or.inr ⟨q, (T.setVm vm₁).calling g' mk As.toArray, t, U', L, E, ce, hT, X', hL, e1, e2, hq, hce, hcv, vx_cls hW₁ hcl, st⟩
end
end VXH
theorem vx_ofWH {l : Launch} {y : MethodName} {ws ws' : List Cond} {rm : Room} {Pc : Array Value → State → Prop} {Qc : Array Value → State → Outcome → State → Prop} {XC : String → State → State → Prop} {mc ms : Nat} {free : Addr → Prop} {cc : ByteArray} {maxL : Nat} {ret : Option FieldType} {hh : List (Nat × Nat × Nat × Nat)}
    (hy : plainName y.cls = true) (hw : ws = Cond.codeWith y cc maxL ret hh :: ws')
    (body : ∀ p e s m args below meth c s₁, BodyLoose p l y (headSpec ws rm) cc maxL ret e s m args below meth c s₁ → c.maxLocals = maxL → Pc args s →
      W p l e (headSpec ws rm).room s m args below meth c s.heap [] 0 0 (vx_MQ below Qc XC args s mc ms free) (entryFrame m args maxL)) : vx_Met l y ws rm Pc Qc XC mc ms free := by
  refine MetFree.of_bodyS (code := cc) (maxLocals := maxL) (ret := ret) hy ?_ ?_
  · intro args s m h hn
    obtain ⟨m9, meth, c, hn9, h1, h2, h3, h4, -, h5, h6, -⟩ := Cond.codeWith_spec (atoms_spec (ws := ws) h _ (by rw [hw]; exact List.mem_cons_self))
    cases hn.symm.trans hn9
    exact ⟨meth, c, h1, h2, h3, h4, h5, h6⟩
  · intro p e s m args below meth c s₁ B hml hP _
    have hh0 : s₁.heap = s.heap := by rw [B.state]; rfl
    obtain ⟨t, a1, o, b1, b2, b3⟩ := body p e s m args below meth c s₁ B hml hP s₁ hh0 (Stand.of_body B)
    exact ⟨t, o, a1, b1, b2, b3⟩
/-! ===== END ===== -/
end
section
def RX0 : String := "SugarDice$Beating"
def TX0 : u_T := fun k => match k with
  | _ => ("SugarDice$Beating", "game", "LSugarDice$Game;", true)
def tyX0 : Nat → FieldType := fun k => match k with
  | _ => .object "SugarDice$Game"
abbrev wsX00 : List Cond := u_ws RX0 TX0 1
theorem nmX0 : ∀ a, a < 1 → ∀ b, b < 1 → a ≠ b → (TX0 a).2.1 ≠ (TX0 b).2.1 := by decide +kernel
theorem tyX0_ok : ∀ k, k < 1 → parseFieldDescriptor (TX0 k).2.2.1 = some (tyX0 k) := by decide +kernel
abbrev cX0_init : ByteArray := prog_2_method_1_code
def yX0_init : MethodName := ⟨RX0, "<init>", "(LSugarDice$Game;)V"⟩
abbrev cX0_waysToBeat : ByteArray := prog_2_method_2_code
def yX0_waysToBeat : MethodName := ⟨RX0, "waysToBeat", "(II)I"⟩
abbrev cX0_waysToTie : ByteArray := prog_2_method_3_code
def yX0_waysToTie : MethodName := ⟨RX0, "waysToTie", "(II)I"⟩
abbrev cX0_isBetter : ByteArray := prog_2_method_4_code
def yX0_isBetter : MethodName := ⟨RX0, "isBetter", "(II)Z"⟩
abbrev cX0_strongestDie : ByteArray := prog_2_method_5_code
def yX0_strongestDie : MethodName := ⟨RX0, "strongestDie", "()I"⟩
abbrev cX0_weakerOnes : ByteArray := prog_2_method_6_code
def yX0_weakerOnes : MethodName := ⟨RX0, "weakerOnes", "(I)I"⟩
abbrev cX0_ringAt : ByteArray := prog_2_method_7_code
def yX0_ringAt : MethodName := ⟨RX0, "ringAt", "(I)I"⟩
abbrev cX0_evenestTwo : ByteArray := prog_2_method_8_code
def yX0_evenestTwo : MethodName := ⟨RX0, "evenestTwo", "()I"⟩
def RX1 : String := "SugarDice$Draws"
def TX1 : u_T := fun k => match k with
  | _ => ("SugarDice$Draws", "seed", "I", false)
def tyX1 : Nat → FieldType := fun k => match k with
  | _ => .int
abbrev wsX10 : List Cond := u_ws RX1 TX1 1
theorem nmX1 : ∀ a, a < 1 → ∀ b, b < 1 → a ≠ b → (TX1 a).2.1 ≠ (TX1 b).2.1 := by decide +kernel
theorem tyX1_ok : ∀ k, k < 1 → parseFieldDescriptor (TX1 k).2.2.1 = some (tyX1 k) := by decide +kernel
abbrev cX1_init : ByteArray := prog_3_method_1_code
def yX1_init : MethodName := ⟨RX1, "<init>", "()V"⟩
abbrev cX1_begin : ByteArray := prog_3_method_2_code
def yX1_begin : MethodName := ⟨RX1, "begin", "(I)V"⟩
abbrev cX1_draw : ByteArray := prog_3_method_3_code
def yX1_draw : MethodName := ⟨RX1, "draw", "()I"⟩
def RX2 : String := "SugarDice$Game"
def TX2 : u_T := fun k => match k with
  | 0 => ("SugarDice$Game", "lines", "I", false)
  | 1 => ("SugarDice$Game", "dice", "I", false)
  | 2 => ("SugarDice$Game", "hands", "I", false)
  | 3 => ("SugarDice$Game", "antsFace", "I", false)
  | 4 => ("SugarDice$Game", "thrown", "I", false)
  | 5 => ("SugarDice$Game", "cells", "[I", true)
  | 6 => ("SugarDice$Game", "told", "[I", true)
  | _ => ("SugarDice$Game", "cellsBefore", "[I", true)
def tyX2 : Nat → FieldType := fun k => match k with
  | 0 => .int
  | 1 => .int
  | 2 => .int
  | 3 => .int
  | 4 => .int
  | 5 => .array .int
  | 6 => .array .int
  | _ => .array .int
abbrev wsX20 : List Cond := u_ws RX2 TX2 8
theorem nmX2 : ∀ a, a < 8 → ∀ b, b < 8 → a ≠ b → (TX2 a).2.1 ≠ (TX2 b).2.1 := by decide +kernel
theorem tyX2_ok : ∀ k, k < 8 → parseFieldDescriptor (TX2 k).2.2.1 = some (tyX2 k) := by decide +kernel
abbrev cX2_init : ByteArray := prog_4_method_1_code
def yX2_init : MethodName := ⟨RX2, "<init>", "()V"⟩
abbrev cX2_begin : ByteArray := prog_4_method_2_code
def yX2_begin : MethodName := ⟨RX2, "begin", "(LSugarDice$TableText;)V"⟩
abbrev cX2_copyFrom : ByteArray := prog_4_method_3_code
def yX2_copyFrom : MethodName := ⟨RX2, "copyFrom", "(LSugarDice$Game;)V"⟩
abbrev cX2_hasDie : ByteArray := prog_4_method_4_code
def yX2_hasDie : MethodName := ⟨RX2, "hasDie", "(I)Z"⟩
abbrev cX2_hasHand : ByteArray := prog_4_method_5_code
def yX2_hasHand : MethodName := ⟨RX2, "hasHand", "(I)Z"⟩
abbrev cX2_weight : ByteArray := prog_4_method_6_code
def yX2_weight : MethodName := ⟨RX2, "weight", "(II)I"⟩
abbrev cX2_total : ByteArray := prog_4_method_7_code
def yX2_total : MethodName := ⟨RX2, "total", "(I)I"⟩
abbrev cX2_allTotals : ByteArray := prog_4_method_8_code
def yX2_allTotals : MethodName := ⟨RX2, "allTotals", "()I"⟩
abbrev cX2_isGone : ByteArray := prog_4_method_9_code
def yX2_isGone : MethodName := ⟨RX2, "isGone", "(I)Z"⟩
abbrev cX2_goneDice : ByteArray := prog_4_method_10_code
def yX2_goneDice : MethodName := ⟨RX2, "goneDice", "()I"⟩
abbrev cX2_isSalt : ByteArray := prog_4_method_11_code
def yX2_isSalt : MethodName := ⟨RX2, "isSalt", "(I)Z"⟩
abbrev cX2_makeSalt : ByteArray := prog_4_method_12_code
def yX2_makeSalt : MethodName := ⟨RX2, "makeSalt", "(I)V"⟩
abbrev cX2_heat : ByteArray := prog_4_method_13_code
def yX2_heat : MethodName := ⟨RX2, "heat", "(I)I"⟩
abbrev cX2_cool : ByteArray := prog_4_method_14_code
def yX2_cool : MethodName := ⟨RX2, "cool", "(I)V"⟩
abbrev cX2_dieByLot : ByteArray := prog_4_method_15_code
def yX2_dieByLot : MethodName := ⟨RX2, "dieByLot", "(I)I"⟩
abbrev cX2_wear : ByteArray := prog_4_method_16_code
def yX2_wear : MethodName := ⟨RX2, "wear", "(III)I"⟩
abbrev cX2_hasRoomForThrow : ByteArray := prog_4_method_17_code
def yX2_hasRoomForThrow : MethodName := ⟨RX2, "hasRoomForThrow", "()Z"⟩
abbrev cX2_whyNot : ByteArray := prog_4_method_18_code
def yX2_whyNot : MethodName := ⟨RX2, "whyNot", "(III)I"⟩
abbrev cX2_whyNotTold : ByteArray := prog_4_method_19_code
def yX2_whyNotTold : MethodName := ⟨RX2, "whyNotTold", "(J)I"⟩
abbrev cX2_throwToldOne : ByteArray := prog_4_method_20_code
def yX2_throwToldOne : MethodName := ⟨RX2, "throwToldOne", "(I)V"⟩
abbrev cX2_faceByDraw : ByteArray := prog_4_method_21_code
def yX2_faceByDraw : MethodName := ⟨RX2, "faceByDraw", "(II)I"⟩
abbrev cX2_throwFace : ByteArray := prog_4_method_22_code
def yX2_throwFace : MethodName := ⟨RX2, "throwFace", "(III)V"⟩
abbrev cX2_undo : ByteArray := prog_4_method_23_code
def yX2_undo : MethodName := ⟨RX2, "undo", "(I)V"⟩
abbrev cX2_toldThrow : ByteArray := prog_4_method_24_code
def yX2_toldThrow : MethodName := ⟨RX2, "toldThrow", "(I)I"⟩
abbrev cX2_dieOfThrow : ByteArray := prog_4_method_25_code
def yX2_dieOfThrow : MethodName := ⟨RX2, "dieOfThrow", "(I)I"⟩
abbrev cX2_handOfThrow : ByteArray := prog_4_method_26_code
def yX2_handOfThrow : MethodName := ⟨RX2, "handOfThrow", "(I)I"⟩
abbrev cX2_faceOfThrow : ByteArray := prog_4_method_27_code
def yX2_faceOfThrow : MethodName := ⟨RX2, "faceOfThrow", "(I)I"⟩
abbrev cX2_faceForAnts : ByteArray := prog_4_method_28_code
def yX2_faceForAnts : MethodName := ⟨RX2, "faceForAnts", "(I)I"⟩
abbrev cX2_feedAnts : ByteArray := prog_4_method_29_code
def yX2_feedAnts : MethodName := ⟨RX2, "feedAnts", "(II)I"⟩
abbrev cX2_weightAfterAnts : ByteArray := prog_4_method_30_code
def yX2_weightAfterAnts : MethodName := ⟨RX2, "weightAfterAnts", "(III)I"⟩
abbrev cX2_lastFaceForAnts : ByteArray := prog_4_method_31_code
def yX2_lastFaceForAnts : MethodName := ⟨RX2, "lastFaceForAnts", "(I)I"⟩
abbrev cX2_drawLots : ByteArray := prog_4_method_32_code
def yX2_drawLots : MethodName := ⟨RX2, "drawLots", "(LSugarDice$Draws;)I"⟩
abbrev cX2_dieLeft : ByteArray := prog_4_method_33_code
def yX2_dieLeft : MethodName := ⟨RX2, "dieLeft", "(II)I"⟩
def RX3 : String := "SugarDice$Ledger"
def TX3 : u_T := fun k => match k with
  | _ => ("SugarDice$Ledger", "game", "LSugarDice$Game;", true)
def tyX3 : Nat → FieldType := fun k => match k with
  | _ => .object "SugarDice$Game"
abbrev wsX30 : List Cond := u_ws RX3 TX3 1
theorem nmX3 : ∀ a, a < 1 → ∀ b, b < 1 → a ≠ b → (TX3 a).2.1 ≠ (TX3 b).2.1 := by decide +kernel
theorem tyX3_ok : ∀ k, k < 1 → parseFieldDescriptor (TX3 k).2.2.1 = some (tyX3 k) := by decide +kernel
abbrev cX3_init : ByteArray := prog_5_method_1_code
def yX3_init : MethodName := ⟨RX3, "<init>", "(LSugarDice$Game;)V"⟩
abbrev cX3_throwsOfDie : ByteArray := prog_5_method_2_code
def yX3_throwsOfDie : MethodName := ⟨RX3, "throwsOfDie", "(I)I"⟩
abbrev cX3_throwsOfHand : ByteArray := prog_5_method_3_code
def yX3_throwsOfHand : MethodName := ⟨RX3, "throwsOfHand", "(I)I"⟩
abbrev cX3_timesShown : ByteArray := prog_5_method_4_code
def yX3_timesShown : MethodName := ⟨RX3, "timesShown", "(II)I"⟩
abbrev cX3_longestRow : ByteArray := prog_5_method_5_code
def yX3_longestRow : MethodName := ⟨RX3, "longestRow", "(I)I"⟩
abbrev cX3_howFarOff : ByteArray := prog_5_method_6_code
def yX3_howFarOff : MethodName := ⟨RX3, "howFarOff", "(I)I"⟩
abbrev cX3_farthestOff : ByteArray := prog_5_method_7_code
def yX3_farthestOff : MethodName := ⟨RX3, "farthestOff", "()I"⟩
def RX4 : String := "SugarDice$Odds"
def TX4 : u_T := fun k => match k with
  | 0 => ("SugarDice$Odds", "game", "LSugarDice$Game;", true)
  | 1 => ("SugarDice$Odds", "ways", "[J", true)
  | 2 => ("SugarDice$Odds", "otherWays", "[J", true)
  | _ => ("SugarDice$Odds", "setWays", "[J", true)
def tyX4 : Nat → FieldType := fun k => match k with
  | 0 => .object "SugarDice$Game"
  | 1 => .array .long
  | 2 => .array .long
  | _ => .array .long
abbrev wsX40 : List Cond := u_ws RX4 TX4 4
theorem nmX4 : ∀ a, a < 4 → ∀ b, b < 4 → a ≠ b → (TX4 a).2.1 ≠ (TX4 b).2.1 := by decide +kernel
theorem tyX4_ok : ∀ k, k < 4 → parseFieldDescriptor (TX4 k).2.2.1 = some (tyX4 k) := by decide +kernel
abbrev cX4_init : ByteArray := prog_6_method_1_code
def yX4_init : MethodName := ⟨RX4, "<init>", "(LSugarDice$Game;)V"⟩
abbrev cX4_wholeOf : ByteArray := prog_6_method_2_code
def yX4_wholeOf : MethodName := ⟨RX4, "wholeOf", "(I)J"⟩
abbrev cX4_waysOfSum : ByteArray := prog_6_method_3_code
def yX4_waysOfSum : MethodName := ⟨RX4, "waysOfSum", "(II)J"⟩
abbrev cX4_waysOfSumOrMore : ByteArray := prog_6_method_4_code
def yX4_waysOfSumOrMore : MethodName := ⟨RX4, "waysOfSumOrMore", "(II)J"⟩
abbrev cX4_waysOfOneFace : ByteArray := prog_6_method_5_code
def yX4_waysOfOneFace : MethodName := ⟨RX4, "waysOfOneFace", "(I)J"⟩
abbrev cX4_likeliestSum : ByteArray := prog_6_method_6_code
def yX4_likeliestSum : MethodName := ⟨RX4, "likeliestSum", "(I)I"⟩
abbrev cX4_possibleSums : ByteArray := prog_6_method_7_code
def yX4_possibleSums : MethodName := ⟨RX4, "possibleSums", "(I)I"⟩
abbrev cX4_allSumsWeighed : ByteArray := prog_6_method_8_code
def yX4_allSumsWeighed : MethodName := ⟨RX4, "allSumsWeighed", "(I)J"⟩
abbrev cX4_bestSetFor : ByteArray := prog_6_method_9_code
def yX4_bestSetFor : MethodName := ⟨RX4, "bestSetFor", "(II)I"⟩
abbrev cX4_waysOfUnlikeFaces : ByteArray := prog_6_method_10_code
def yX4_waysOfUnlikeFaces : MethodName := ⟨RX4, "waysOfUnlikeFaces", "(IZ)J"⟩
abbrev cX4_waysOfEveryFace : ByteArray := prog_6_method_11_code
def yX4_waysOfEveryFace : MethodName := ⟨RX4, "waysOfEveryFace", "(II)J"⟩
abbrev cX4_waysOfMore : ByteArray := prog_6_method_12_code
def yX4_waysOfMore : MethodName := ⟨RX4, "waysOfMore", "(III)J"⟩
abbrev cX4_bestByStopping : ByteArray := prog_6_method_13_code
def yX4_bestByStopping : MethodName := ⟨RX4, "bestByStopping", "(II)J"⟩
abbrev cX4_leastFaceToStop : ByteArray := prog_6_method_14_code
def yX4_leastFaceToStop : MethodName := ⟨RX4, "leastFaceToStop", "(II)I"⟩
abbrev cX4_countSums : ByteArray := prog_6_method_15_code
def yX4_countSums : MethodName := ⟨RX4, "countSums", "(I)V"⟩
abbrev cX4_countThrows : ByteArray := prog_6_method_16_code
def yX4_countThrows : MethodName := ⟨RX4, "countThrows", "([JII)V"⟩
abbrev cX4_addToSums : ByteArray := prog_6_method_17_code
def yX4_addToSums : MethodName := ⟨RX4, "addToSums", "([JI)V"⟩
abbrev cX4_addToFaceSets : ByteArray := prog_6_method_18_code
def yX4_addToFaceSets : MethodName := ⟨RX4, "addToFaceSets", "(IZ)V"⟩
abbrev cX4_begin : ByteArray := prog_6_method_19_code
def yX4_begin : MethodName := ⟨RX4, "begin", "([J)V"⟩
abbrev cX4_isIn : ByteArray := prog_6_method_20_code
def yX4_isIn : MethodName := ⟨RX4, "isIn", "(II)Z"⟩
abbrev cX4_isWithoutGap : ByteArray := prog_6_method_21_code
def yX4_isWithoutGap : MethodName := ⟨RX4, "isWithoutGap", "(I)Z"⟩
def RX5 : String := "SugarDice$TableText"
def TX5 : u_T := fun k => match k with
  | 0 => ("SugarDice$TableText", "tape", "LSugarDice$Tape;", true)
  | 1 => ("SugarDice$TableText", "cells", "[I", true)
  | 2 => ("SugarDice$TableText", "lines", "I", false)
  | 3 => ("SugarDice$TableText", "dice", "I", false)
  | 4 => ("SugarDice$TableText", "hands", "I", false)
  | 5 => ("SugarDice$TableText", "antsFace", "I", false)
  | 6 => ("SugarDice$TableText", "faultKind", "I", false)
  | 7 => ("SugarDice$TableText", "faultPlace", "I", false)
  | 8 => ("SugarDice$TableText", "length", "I", false)
  | 9 => ("SugarDice$TableText", "at", "I", false)
  | 10 => ("SugarDice$TableText", "start", "I", false)
  | 11 => ("SugarDice$TableText", "token", "I", false)
  | _ => ("SugarDice$TableText", "value", "I", false)
def tyX5 : Nat → FieldType := fun k => match k with
  | 0 => .object "SugarDice$Tape"
  | 1 => .array .int
  | 2 => .int
  | 3 => .int
  | 4 => .int
  | 5 => .int
  | 6 => .int
  | 7 => .int
  | 8 => .int
  | 9 => .int
  | 10 => .int
  | 11 => .int
  | _ => .int
abbrev wsX50 : List Cond := u_ws RX5 TX5 13
theorem nmX5 : ∀ a, a < 13 → ∀ b, b < 13 → a ≠ b → (TX5 a).2.1 ≠ (TX5 b).2.1 := by decide +kernel
theorem tyX5_ok : ∀ k, k < 13 → parseFieldDescriptor (TX5 k).2.2.1 = some (tyX5 k) := by decide +kernel
abbrev cX5_init : ByteArray := prog_7_method_1_code
def yX5_init : MethodName := ⟨RX5, "<init>", "(LSugarDice$Tape;)V"⟩
abbrev cX5_read : ByteArray := prog_7_method_2_code
def yX5_read : MethodName := ⟨RX5, "read", "(I)V"⟩
abbrev cX5_clear : ByteArray := prog_7_method_3_code
def yX5_clear : MethodName := ⟨RX5, "clear", "()V"⟩
abbrev cX5_readsLine : ByteArray := prog_7_method_4_code
def yX5_readsLine : MethodName := ⟨RX5, "readsLine", "()Z"⟩
abbrev cX5_readsDie : ByteArray := prog_7_method_5_code
def yX5_readsDie : MethodName := ⟨RX5, "readsDie", "()Z"⟩
abbrev cX5_readsHand : ByteArray := prog_7_method_6_code
def yX5_readsHand : MethodName := ⟨RX5, "readsHand", "()Z"⟩
abbrev cX5_readsAnts : ByteArray := prog_7_method_7_code
def yX5_readsAnts : MethodName := ⟨RX5, "readsAnts", "()Z"⟩
abbrev cX5_readsNumber : ByteArray := prog_7_method_8_code
def yX5_readsNumber : MethodName := ⟨RX5, "readsNumber", "(II)Z"⟩
abbrev cX5_isFaulty : ByteArray := prog_7_method_9_code
def yX5_isFaulty : MethodName := ⟨RX5, "isFaulty", "(I)Z"⟩
abbrev cX5_nextToken : ByteArray := prog_7_method_10_code
def yX5_nextToken : MethodName := ⟨RX5, "nextToken", "()V"⟩
abbrev cX5_nextNumber : ByteArray := prog_7_method_11_code
def yX5_nextNumber : MethodName := ⟨RX5, "nextNumber", "()V"⟩
abbrev cX5_nextWord : ByteArray := prog_7_method_12_code
def yX5_nextWord : MethodName := ⟨RX5, "nextWord", "()V"⟩
abbrev cX5_isWord : ByteArray := prog_7_method_13_code
def yX5_isWord : MethodName := ⟨RX5, "isWord", "(Ljava/lang/String;)Z"⟩
abbrev cX5_isBlank : ByteArray := prog_7_method_14_code
def yX5_isBlank : MethodName := ⟨RX5, "isBlank", "(I)Z"⟩
abbrev cX5_isDigit : ByteArray := prog_7_method_15_code
def yX5_isDigit : MethodName := ⟨RX5, "isDigit", "(I)Z"⟩
abbrev cX5_isLetter : ByteArray := prog_7_method_16_code
def yX5_isLetter : MethodName := ⟨RX5, "isLetter", "(I)Z"⟩
def RX6 : String := "SugarDice$Tape"
def TX6 : u_T := fun k => match k with
  | 0 => ("SugarDice$Tape", "bytes", "[B", true)
  | _ => ("SugarDice$Tape", "length", "I", false)
def tyX6 : Nat → FieldType := fun k => match k with
  | 0 => .array .byte
  | _ => .int
abbrev wsX60 : List Cond := u_ws RX6 TX6 2
theorem nmX6 : ∀ a, a < 2 → ∀ b, b < 2 → a ≠ b → (TX6 a).2.1 ≠ (TX6 b).2.1 := by decide +kernel
theorem tyX6_ok : ∀ k, k < 2 → parseFieldDescriptor (TX6 k).2.2.1 = some (tyX6 k) := by decide +kernel
abbrev cX6_init : ByteArray := prog_8_method_1_code
def yX6_init : MethodName := ⟨RX6, "<init>", "()V"⟩
abbrev cX6_hasRoomForFeed : ByteArray := prog_8_method_2_code
def yX6_hasRoomForFeed : MethodName := ⟨RX6, "hasRoomForFeed", "()Z"⟩
abbrev cX6_put : ByteArray := prog_8_method_3_code
def yX6_put : MethodName := ⟨RX6, "put", "(I)V"⟩
abbrev cX6_byteAt : ByteArray := prog_8_method_4_code
def yX6_byteAt : MethodName := ⟨RX6, "byteAt", "(I)I"⟩
def RX7 : String := "SugarDice$Tray"
def TX7 : u_T := fun k => match k with
  | 0 => ("SugarDice$Tray", "numbers", "[J", true)
  | 1 => ("SugarDice$Tray", "missing", "Z", false)
  | 2 => ("SugarDice$Tray", "sort", "I", false)
  | _ => ("SugarDice$Tray", "many", "I", false)
def tyX7 : Nat → FieldType := fun k => match k with
  | 0 => .array .long
  | 1 => .boolean
  | 2 => .int
  | _ => .int
abbrev wsX70 : List Cond := u_ws RX7 TX7 4
theorem nmX7 : ∀ a, a < 4 → ∀ b, b < 4 → a ≠ b → (TX7 a).2.1 ≠ (TX7 b).2.1 := by decide +kernel
theorem tyX7_ok : ∀ k, k < 4 → parseFieldDescriptor (TX7 k).2.2.1 = some (tyX7 k) := by decide +kernel
abbrev cX7_init : ByteArray := prog_9_method_1_code
def yX7_init : MethodName := ⟨RX7, "<init>", "()V"⟩
abbrev cX7_lay : ByteArray := prog_9_method_2_code
def yX7_lay : MethodName := ⟨RX7, "lay", "(II)V"⟩
abbrev cX7_put : ByteArray := prog_9_method_3_code
def yX7_put : MethodName := ⟨RX7, "put", "(IJ)V"⟩
abbrev cX7_number : ByteArray := prog_9_method_4_code
def yX7_number : MethodName := ⟨RX7, "number", "(I)J"⟩
abbrev cX7_cut : ByteArray := prog_9_method_5_code
def yX7_cut : MethodName := ⟨RX7, "cut", "(J)J"⟩
abbrev cX7_holdsToldFaces : ByteArray := prog_9_method_6_code
def yX7_holdsToldFaces : MethodName := ⟨RX7, "holdsToldFaces", "()Z"⟩
abbrev cX7_face : ByteArray := prog_9_method_7_code
def yX7_face : MethodName := ⟨RX7, "face", "(I)I"⟩
def RX8 : String := "SugarDice$Witness"
def TX8 : u_T := fun k => match k with
  | 0 => ("SugarDice$Witness", "game", "LSugarDice$Game;", true)
  | 1 => ("SugarDice$Witness", "weights", "[I", true)
  | _ => ("SugarDice$Witness", "heats", "[I", true)
def tyX8 : Nat → FieldType := fun k => match k with
  | 0 => .object "SugarDice$Game"
  | 1 => .array .int
  | _ => .array .int
abbrev wsX80 : List Cond := u_ws RX8 TX8 3
theorem nmX8 : ∀ a, a < 3 → ∀ b, b < 3 → a ≠ b → (TX8 a).2.1 ≠ (TX8 b).2.1 := by decide +kernel
theorem tyX8_ok : ∀ k, k < 3 → parseFieldDescriptor (TX8 k).2.2.1 = some (tyX8 k) := by decide +kernel
abbrev cX8_init : ByteArray := prog_10_method_1_code
def yX8_init : MethodName := ⟨RX8, "<init>", "(LSugarDice$Game;)V"⟩
abbrev cX8_likeliestDie : ByteArray := prog_10_method_2_code
def yX8_likeliestDie : MethodName := ⟨RX8, "likeliestDie", "(LSugarDice$Tray;)I"⟩
abbrev cX8_rowsOfDice : ByteArray := prog_10_method_3_code
def yX8_rowsOfDice : MethodName := ⟨RX8, "rowsOfDice", "(LSugarDice$Tray;)I"⟩
abbrev cX8_rowOfHands : ByteArray := prog_10_method_4_code
def yX8_rowOfHands : MethodName := ⟨RX8, "rowOfHands", "(ILSugarDice$Tray;II)I"⟩
abbrev cX8_totalBehind : ByteArray := prog_10_method_5_code
def yX8_totalBehind : MethodName := ⟨RX8, "totalBehind", "(ILSugarDice$Tray;I)I"⟩
abbrev cX8_begin : ByteArray := prog_10_method_6_code
def yX8_begin : MethodName := ⟨RX8, "begin", "(I)V"⟩
def RX9 : String := "SugarDice"
def TX9 : u_T := fun k => match k with
  | 0 => ("SugarDice", "tape", "LSugarDice$Tape;", true)
  | 1 => ("SugarDice", "text", "LSugarDice$TableText;", true)
  | 2 => ("SugarDice", "game", "LSugarDice$Game;", true)
  | 3 => ("SugarDice", "draws", "LSugarDice$Draws;", true)
  | 4 => ("SugarDice", "odds", "LSugarDice$Odds;", true)
  | 5 => ("SugarDice", "beating", "LSugarDice$Beating;", true)
  | 6 => ("SugarDice", "witness", "LSugarDice$Witness;", true)
  | 7 => ("SugarDice", "ledger", "LSugarDice$Ledger;", true)
  | 8 => ("SugarDice", "trays", "[LSugarDice$Tray;", true)
  | _ => ("SugarDice", "images", "[LSugarDice$Game;", true)
def tyX9 : Nat → FieldType := fun k => match k with
  | 0 => .object "SugarDice$Tape"
  | 1 => .object "SugarDice$TableText"
  | 2 => .object "SugarDice$Game"
  | 3 => .object "SugarDice$Draws"
  | 4 => .object "SugarDice$Odds"
  | 5 => .object "SugarDice$Beating"
  | 6 => .object "SugarDice$Witness"
  | 7 => .object "SugarDice$Ledger"
  | 8 => .array (.object "SugarDice$Tray")
  | _ => .array (.object "SugarDice$Game")
abbrev wsX90 : List Cond := u_ws RX9 TX9 10
theorem nmX9 : ∀ a, a < 10 → ∀ b, b < 10 → a ≠ b → (TX9 a).2.1 ≠ (TX9 b).2.1 := by decide +kernel
theorem tyX9_ok : ∀ k, k < 10 → parseFieldDescriptor (TX9 k).2.2.1 = some (tyX9 k) := by decide +kernel
abbrev cX9_init : ByteArray := prog_1_method_1_code
def yX9_init : MethodName := ⟨RX9, "<init>", "()V"⟩
abbrev cX9_feed : ByteArray := prog_1_method_2_code
def yX9_feed : MethodName := ⟨RX9, "feed", "(IIIII)I"⟩
abbrev cX9_table : ByteArray := prog_1_method_3_code
def yX9_table : MethodName := ⟨RX9, "table", "(I)I"⟩
abbrev cX9_fault : ByteArray := prog_1_method_4_code
def yX9_fault : MethodName := ⟨RX9, "fault", "(I)I"⟩
abbrev cX9_die : ByteArray := prog_1_method_5_code
def yX9_die : MethodName := ⟨RX9, "die", "(II)I"⟩
abbrev cX9_hand : ByteArray := prog_1_method_6_code
def yX9_hand : MethodName := ⟨RX9, "hand", "(II)I"⟩
abbrev cX9_salts : ByteArray := prog_1_method_7_code
def yX9_salts : MethodName := ⟨RX9, "salts", "(I)Z"⟩
abbrev cX9_cast : ByteArray := prog_1_method_8_code
def yX9_cast : MethodName := ⟨RX9, "cast", "(III)I"⟩
abbrev cX9_shows : ByteArray := prog_1_method_9_code
def yX9_shows : MethodName := ⟨RX9, "shows", "(III)I"⟩
abbrev cX9_back : ByteArray := prog_1_method_10_code
def yX9_back : MethodName := ⟨RX9, "back", "(I)I"⟩
abbrev cX9_past : ByteArray := prog_1_method_11_code
def yX9_past : MethodName := ⟨RX9, "past", "(II)I"⟩
abbrev cX9_evening : ByteArray := prog_1_method_12_code
def yX9_evening : MethodName := ⟨RX9, "evening", "(II)I"⟩
abbrev cX9_judge : ByteArray := prog_1_method_13_code
def yX9_judge : MethodName := ⟨RX9, "judge", "(II)I"⟩
abbrev cX9_perform : ByteArray := prog_1_method_14_code
def yX9_perform : MethodName := ⟨RX9, "perform", "(I)I"⟩
abbrev cX9_ants : ByteArray := prog_1_method_15_code
def yX9_ants : MethodName := ⟨RX9, "ants", "(I)I"⟩
abbrev cX9_eaten : ByteArray := prog_1_method_16_code
def yX9_eaten : MethodName := ⟨RX9, "eaten", "(III)I"⟩
abbrev cX9_lasts : ByteArray := prog_1_method_17_code
def yX9_lasts : MethodName := ⟨RX9, "lasts", "(I)I"⟩
abbrev cX9_lastFace : ByteArray := prog_1_method_18_code
def yX9_lastFace : MethodName := ⟨RX9, "lastFace", "(I)I"⟩
abbrev cX9_rain : ByteArray := prog_1_method_19_code
def yX9_rain : MethodName := ⟨RX9, "rain", "(I)I"⟩
abbrev cX9_fan : ByteArray := prog_1_method_20_code
def yX9_fan : MethodName := ⟨RX9, "fan", "(I)I"⟩
abbrev cX9_lot : ByteArray := prog_1_method_21_code
def yX9_lot : MethodName := ⟨RX9, "lot", "(I)I"⟩
abbrev cX9_whole : ByteArray := prog_1_method_22_code
def yX9_whole : MethodName := ⟨RX9, "whole", "(I)J"⟩
abbrev cX9_sum : ByteArray := prog_1_method_23_code
def yX9_sum : MethodName := ⟨RX9, "sum", "(II)J"⟩
abbrev cX9_least : ByteArray := prog_1_method_24_code
def yX9_least : MethodName := ⟨RX9, "least", "(II)J"⟩
abbrev cX9_alike : ByteArray := prog_1_method_25_code
def yX9_alike : MethodName := ⟨RX9, "alike", "(I)J"⟩
abbrev cX9_mode : ByteArray := prog_1_method_26_code
def yX9_mode : MethodName := ⟨RX9, "mode", "(I)I"⟩
abbrev cX9_sums : ByteArray := prog_1_method_27_code
def yX9_sums : MethodName := ⟨RX9, "sums", "(I)I"⟩
abbrev cX9_mean : ByteArray := prog_1_method_28_code
def yX9_mean : MethodName := ⟨RX9, "mean", "(II)J"⟩
abbrev cX9_bestSet : ByteArray := prog_1_method_29_code
def yX9_bestSet : MethodName := ⟨RX9, "bestSet", "(II)I"⟩
abbrev cX9_unlike : ByteArray := prog_1_method_30_code
def yX9_unlike : MethodName := ⟨RX9, "unlike", "(I)J"⟩
abbrev cX9_run : ByteArray := prog_1_method_31_code
def yX9_run : MethodName := ⟨RX9, "run", "(I)J"⟩
abbrev cX9_cannot : ByteArray := prog_1_method_32_code
def yX9_cannot : MethodName := ⟨RX9, "cannot", "(I)I"⟩
abbrev cX9_once : ByteArray := prog_1_method_33_code
def yX9_once : MethodName := ⟨RX9, "once", "(III)J"⟩
abbrev cX9_allFaces : ByteArray := prog_1_method_34_code
def yX9_allFaces : MethodName := ⟨RX9, "allFaces", "(II)J"⟩
abbrev cX9_coins : ByteArray := prog_1_method_35_code
def yX9_coins : MethodName := ⟨RX9, "coins", "(IIII)J"⟩
abbrev cX9_beats : ByteArray := prog_1_method_36_code
def yX9_beats : MethodName := ⟨RX9, "beats", "(II)I"⟩
abbrev cX9_ties : ByteArray := prog_1_method_37_code
def yX9_ties : MethodName := ⟨RX9, "ties", "(II)I"⟩
abbrev cX9_strongest : ByteArray := prog_1_method_38_code
def yX9_strongest : MethodName := ⟨RX9, "strongest", "()I"⟩
abbrev cX9_ring : ByteArray := prog_1_method_39_code
def yX9_ring : MethodName := ⟨RX9, "ring", "(I)I"⟩
abbrev cX9_series : ByteArray := prog_1_method_40_code
def yX9_series : MethodName := ⟨RX9, "series", "(III)J"⟩
abbrev cX9_more : ByteArray := prog_1_method_41_code
def yX9_more : MethodName := ⟨RX9, "more", "(III)J"⟩
abbrev cX9_evenest : ByteArray := prog_1_method_42_code
def yX9_evenest : MethodName := ⟨RX9, "evenest", "()I"⟩
abbrev cX9_stopping : ByteArray := prog_1_method_43_code
def yX9_stopping : MethodName := ⟨RX9, "stopping", "(III)J"⟩
abbrev cX9_likelier : ByteArray := prog_1_method_44_code
def yX9_likelier : MethodName := ⟨RX9, "likelier", "(I)I"⟩
abbrev cX9_fits : ByteArray := prog_1_method_45_code
def yX9_fits : MethodName := ⟨RX9, "fits", "(I)I"⟩
abbrev cX9_worn : ByteArray := prog_1_method_46_code
def yX9_worn : MethodName := ⟨RX9, "worn", "(IIII)I"⟩
abbrev cX9_tally : ByteArray := prog_1_method_47_code
def yX9_tally : MethodName := ⟨RX9, "tally", "(II)I"⟩
abbrev cX9_streak : ByteArray := prog_1_method_48_code
def yX9_streak : MethodName := ⟨RX9, "streak", "(I)I"⟩
abbrev cX9_off : ByteArray := prog_1_method_49_code
def yX9_off : MethodName := ⟨RX9, "off", "(I)I"⟩
abbrev cX9_loaded : ByteArray := prog_1_method_50_code
def yX9_loaded : MethodName := ⟨RX9, "loaded", "()I"⟩
abbrev cX9_tray : ByteArray := prog_1_method_51_code
def yX9_tray : MethodName := ⟨RX9, "tray", "(III)V"⟩
abbrev cX9_write : ByteArray := prog_1_method_52_code
def yX9_write : MethodName := ⟨RX9, "write", "(IIJ)J"⟩
abbrev cX9_pour : ByteArray := prog_1_method_53_code
def yX9_pour : MethodName := ⟨RX9, "pour", "(I)I"⟩
abbrev cX9_image : ByteArray := prog_1_method_54_code
def yX9_image : MethodName := ⟨RX9, "image", "(I)V"⟩
abbrev cX9_restore : ByteArray := prog_1_method_55_code
def yX9_restore : MethodName := ⟨RX9, "restore", "(I)V"⟩
abbrev cX9_count : ByteArray := prog_1_method_56_code
def yX9_count : MethodName := ⟨RX9, "count", "(I)I"⟩
abbrev cX9_needDie : ByteArray := prog_1_method_57_code
def yX9_needDie : MethodName := ⟨RX9, "needDie", "(I)V"⟩
abbrev cX9_needHand : ByteArray := prog_1_method_58_code
def yX9_needHand : MethodName := ⟨RX9, "needHand", "(I)V"⟩
abbrev cX9_needNotGone : ByteArray := prog_1_method_59_code
def yX9_needNotGone : MethodName := ⟨RX9, "needNotGone", "(I)V"⟩
abbrev cX9_needTwoDice : ByteArray := prog_1_method_60_code
def yX9_needTwoDice : MethodName := ⟨RX9, "needTwoDice", "(II)V"⟩
abbrev cX9_needRoomForThrow : ByteArray := prog_1_method_61_code
def yX9_needRoomForThrow : MethodName := ⟨RX9, "needRoomForThrow", "()V"⟩
abbrev cX9_needFace : ByteArray := prog_1_method_62_code
def yX9_needFace : MethodName := ⟨RX9, "needFace", "(I)V"⟩
abbrev cX9_needWhat : ByteArray := prog_1_method_63_code
def yX9_needWhat : MethodName := ⟨RX9, "needWhat", "(III)V"⟩
abbrev cX9_needMinutes : ByteArray := prog_1_method_64_code
def yX9_needMinutes : MethodName := ⟨RX9, "needMinutes", "(II)V"⟩
abbrev cX9_needThrowsUpToEight : ByteArray := prog_1_method_65_code
def yX9_needThrowsUpToEight : MethodName := ⟨RX9, "needThrowsUpToEight", "(II)V"⟩
abbrev cX9_needOneToThree : ByteArray := prog_1_method_66_code
def yX9_needOneToThree : MethodName := ⟨RX9, "needOneToThree", "(I)V"⟩
abbrev cX9_needSet : ByteArray := prog_1_method_67_code
def yX9_needSet : MethodName := ⟨RX9, "needSet", "(I)V"⟩
abbrev cX9_needNoneGone : ByteArray := prog_1_method_68_code
def yX9_needNoneGone : MethodName := ⟨RX9, "needNoneGone", "(I)V"⟩
abbrev cX9_needSetNotGone : ByteArray := prog_1_method_69_code
def yX9_needSetNotGone : MethodName := ⟨RX9, "needSetNotGone", "(I)V"⟩
abbrev cX9_needFaces : ByteArray := prog_1_method_70_code
def yX9_needFaces : MethodName := ⟨RX9, "needFaces", "(LSugarDice$Tray;)V"⟩
abbrev cX9_needImagePlace : ByteArray := prog_1_method_71_code
def yX9_needImagePlace : MethodName := ⟨RX9, "needImagePlace", "(I)V"⟩
abbrev cX9_anyTray : ByteArray := prog_1_method_72_code
def yX9_anyTray : MethodName := ⟨RX9, "anyTray", "(I)LSugarDice$Tray;"⟩
abbrev cX9_neededTray : ByteArray := prog_1_method_73_code
def yX9_neededTray : MethodName := ⟨RX9, "neededTray", "(I)LSugarDice$Tray;"⟩
abbrev cX9_throwTold : ByteArray := prog_1_method_74_code
def yX9_throwTold : MethodName := ⟨RX9, "throwTold", "(LSugarDice$Tray;)I"⟩
abbrev cX9_isFace : ByteArray := prog_1_method_75_code
def yX9_isFace : MethodName := ⟨RX9, "isFace", "(J)Z"⟩
abbrev cX9_power : ByteArray := prog_1_method_76_code
def yX9_power : MethodName := ⟨RX9, "power", "(JI)J"⟩
abbrev cX9_waysToGoal : ByteArray := prog_1_method_77_code
def yX9_waysToGoal : MethodName := ⟨RX9, "waysToGoal", "(IIIII)J"⟩
abbrev cX9_waysToLead : ByteArray := prog_1_method_78_code
def yX9_waysToLead : MethodName := ⟨RX9, "waysToLead", "(JJJII)J"⟩
def RX10 : String := "SugarDiceModel"
def TX10 : u_T := fun k => match k with
  | 0 => ("SugarDiceModel", "known", "[I", true)
  | 1 => ("SugarDiceModel", "fresh", "[I", true)
  | 2 => ("SugarDiceModel", "kept", "[I", true)
  | 3 => ("SugarDiceModel", "images", "[I", true)
  | 4 => ("SugarDiceModel", "isImage", "[Z", true)
  | 5 => ("SugarDiceModel", "thrown", "I", false)
  | 6 => ("SugarDiceModel", "tape", "[I", true)
  | 7 => ("SugarDiceModel", "taped", "I", false)
  | 8 => ("SugarDiceModel", "length", "I", false)
  | 9 => ("SugarDiceModel", "at", "I", false)
  | 10 => ("SugarDiceModel", "begin", "I", false)
  | 11 => ("SugarDiceModel", "token", "I", false)
  | 12 => ("SugarDiceModel", "value", "I", false)
  | 13 => ("SugarDiceModel", "bad", "I", false)
  | 14 => ("SugarDiceModel", "badPlace", "I", false)
  | 15 => ("SugarDiceModel", "faultKind", "I", false)
  | 16 => ("SugarDiceModel", "faultPlace", "I", false)
  | 17 => ("SugarDiceModel", "state", "I", false)
  | 18 => ("SugarDiceModel", "row", "[I", true)
  | 19 => ("SugarDiceModel", "ways", "[J", true)
  | 20 => ("SugarDiceModel", "byFaces", "[J", true)
  | 21 => ("SugarDiceModel", "coinWays", "[J", true)
  | 22 => ("SugarDiceModel", "coinLater", "[J", true)
  | 23 => ("SugarDiceModel", "heats", "[I", true)
  | 24 => ("SugarDiceModel", "tSort", "[I", true)
  | 25 => ("SugarDiceModel", "tMany", "[I", true)
  | _ => ("SugarDiceModel", "numbers", "[J", true)
def tyX10 : Nat → FieldType := fun k => match k with
  | 0 => .array .int
  | 1 => .array .int
  | 2 => .array .int
  | 3 => .array .int
  | 4 => .array .boolean
  | 5 => .int
  | 6 => .array .int
  | 7 => .int
  | 8 => .int
  | 9 => .int
  | 10 => .int
  | 11 => .int
  | 12 => .int
  | 13 => .int
  | 14 => .int
  | 15 => .int
  | 16 => .int
  | 17 => .int
  | 18 => .array .int
  | 19 => .array .long
  | 20 => .array .long
  | 21 => .array .long
  | 22 => .array .long
  | 23 => .array .int
  | 24 => .array .int
  | 25 => .array .int
  | _ => .array .long
abbrev wsX100 : List Cond := u_ws RX10 TX10 27
theorem nmX10 : ∀ a, a < 27 → ∀ b, b < 27 → a ≠ b → (TX10 a).2.1 ≠ (TX10 b).2.1 := by decide +kernel
theorem tyX10_ok : ∀ k, k < 27 → parseFieldDescriptor (TX10 k).2.2.1 = some (tyX10 k) := by decide +kernel
abbrev cX10_init : ByteArray := prog_12_method_1_code
def yX10_init : MethodName := ⟨RX10, "<init>", "()V"⟩
abbrev cX10_thrown : ByteArray := prog_12_method_2_code
def yX10_thrown : MethodName := ⟨RX10, "thrown", "()I"⟩
abbrev cX10_fails : ByteArray := prog_12_method_3_code
def yX10_fails : MethodName := ⟨RX10, "fails", "(I)I"⟩
abbrev cX10_within : ByteArray := prog_12_method_4_code
def yX10_within : MethodName := ⟨RX10, "within", "(JJJ)Z"⟩
abbrev cX10_begins : ByteArray := prog_12_method_5_code
def yX10_begins : MethodName := ⟨RX10, "begins", "([I)V"⟩
abbrev cX10_copies : ByteArray := prog_12_method_6_code
def yX10_copies : MethodName := ⟨RX10, "copies", "([I[I)V"⟩
abbrev cX10_feed : ByteArray := prog_12_method_7_code
def yX10_feed : MethodName := ⟨RX10, "feed", "(IIIII)I"⟩
abbrev cX10_see : ByteArray := prog_12_method_8_code
def yX10_see : MethodName := ⟨RX10, "see", "(I)I"⟩
abbrev cX10_isLetter : ByteArray := prog_12_method_9_code
def yX10_isLetter : MethodName := ⟨RX10, "isLetter", "(I)Z"⟩
abbrev cX10_isDigit : ByteArray := prog_12_method_10_code
def yX10_isDigit : MethodName := ⟨RX10, "isDigit", "(I)Z"⟩
abbrev cX10_reads : ByteArray := prog_12_method_11_code
def yX10_reads : MethodName := ⟨RX10, "reads", "()V"⟩
abbrev cX10_blames : ByteArray := prog_12_method_12_code
def yX10_blames : MethodName := ⟨RX10, "blames", "(I)V"⟩
abbrev cX10_isWord : ByteArray := prog_12_method_13_code
def yX10_isWord : MethodName := ⟨RX10, "isWord", "(Ljava/lang/String;)Z"⟩
abbrev cX10_took : ByteArray := prog_12_method_14_code
def yX10_took : MethodName := ⟨RX10, "took", "(Ljava/lang/String;)Z"⟩
abbrev cX10_number : ByteArray := prog_12_method_15_code
def yX10_number : MethodName := ⟨RX10, "number", "(II)I"⟩
abbrev cX10_readDie : ByteArray := prog_12_method_16_code
def yX10_readDie : MethodName := ⟨RX10, "readDie", "()V"⟩
abbrev cX10_readHand : ByteArray := prog_12_method_17_code
def yX10_readHand : MethodName := ⟨RX10, "readHand", "()V"⟩
abbrev cX10_readLine : ByteArray := prog_12_method_18_code
def yX10_readLine : MethodName := ⟨RX10, "readLine", "()V"⟩
abbrev cX10_table : ByteArray := prog_12_method_19_code
def yX10_table : MethodName := ⟨RX10, "table", "(I)I"⟩
abbrev cX10_fault : ByteArray := prog_12_method_20_code
def yX10_fault : MethodName := ⟨RX10, "fault", "(I)I"⟩
abbrev cX10_dice : ByteArray := prog_12_method_21_code
def yX10_dice : MethodName := ⟨RX10, "dice", "()I"⟩
abbrev cX10_hands : ByteArray := prog_12_method_22_code
def yX10_hands : MethodName := ⟨RX10, "hands", "()I"⟩
abbrev cX10_isDie : ByteArray := prog_12_method_23_code
def yX10_isDie : MethodName := ⟨RX10, "isDie", "(J)Z"⟩
abbrev cX10_isHand : ByteArray := prog_12_method_24_code
def yX10_isHand : MethodName := ⟨RX10, "isHand", "(J)Z"⟩
abbrev cX10_isFace : ByteArray := prog_12_method_25_code
def yX10_isFace : MethodName := ⟨RX10, "isFace", "(J)Z"⟩
abbrev cX10_weight : ByteArray := prog_12_method_26_code
def yX10_weight : MethodName := ⟨RX10, "weight", "(II)I"⟩
abbrev cX10_isSalt : ByteArray := prog_12_method_27_code
def yX10_isSalt : MethodName := ⟨RX10, "isSalt", "(I)Z"⟩
abbrev cX10_total : ByteArray := prog_12_method_28_code
def yX10_total : MethodName := ⟨RX10, "total", "(I)I"⟩
abbrev cX10_isGone : ByteArray := prog_12_method_29_code
def yX10_isGone : MethodName := ⟨RX10, "isGone", "(I)Z"⟩
abbrev cX10_throwsNow : ByteArray := prog_12_method_30_code
def yX10_throwsNow : MethodName := ⟨RX10, "throwsNow", "()I"⟩
abbrev cX10_pastOf : ByteArray := prog_12_method_31_code
def yX10_pastOf : MethodName := ⟨RX10, "pastOf", "(II)I"⟩
abbrev cX10_times : ByteArray := prog_12_method_32_code
def yX10_times : MethodName := ⟨RX10, "times", "(II)I"⟩
abbrev cX10_die : ByteArray := prog_12_method_33_code
def yX10_die : MethodName := ⟨RX10, "die", "(II)I"⟩
abbrev cX10_hand : ByteArray := prog_12_method_34_code
def yX10_hand : MethodName := ⟨RX10, "hand", "(II)I"⟩
abbrev cX10_salts : ByteArray := prog_12_method_35_code
def yX10_salts : MethodName := ⟨RX10, "salts", "(I)Z"⟩
abbrev cX10_draw : ByteArray := prog_12_method_36_code
def yX10_draw : MethodName := ⟨RX10, "draw", "(I)I"⟩
abbrev cX10_faceBy : ByteArray := prog_12_method_37_code
def yX10_faceBy : MethodName := ⟨RX10, "faceBy", "(II)I"⟩
abbrev cX10_goes : ByteArray := prog_12_method_38_code
def yX10_goes : MethodName := ⟨RX10, "goes", "(III)V"⟩
abbrev cX10_cast : ByteArray := prog_12_method_39_code
def yX10_cast : MethodName := ⟨RX10, "cast", "(III)I"⟩
abbrev cX10_shows : ByteArray := prog_12_method_40_code
def yX10_shows : MethodName := ⟨RX10, "shows", "(III)I"⟩
abbrev cX10_back : ByteArray := prog_12_method_41_code
def yX10_back : MethodName := ⟨RX10, "back", "(I)I"⟩
abbrev cX10_past : ByteArray := prog_12_method_42_code
def yX10_past : MethodName := ⟨RX10, "past", "(II)I"⟩
abbrev cX10_evening : ByteArray := prog_12_method_43_code
def yX10_evening : MethodName := ⟨RX10, "evening", "(II)I"⟩
abbrev cX10_trayFault : ByteArray := prog_12_method_44_code
def yX10_trayFault : MethodName := ⟨RX10, "trayFault", "(I)I"⟩
abbrev cX10_whyTold : ByteArray := prog_12_method_45_code
def yX10_whyTold : MethodName := ⟨RX10, "whyTold", "(J)I"⟩
abbrev cX10_goesBy : ByteArray := prog_12_method_46_code
def yX10_goesBy : MethodName := ⟨RX10, "goesBy", "(I)I"⟩
abbrev cX10_totals : ByteArray := prog_12_method_47_code
def yX10_totals : MethodName := ⟨RX10, "totals", "()I"⟩
abbrev cX10_judge : ByteArray := prog_12_method_48_code
def yX10_judge : MethodName := ⟨RX10, "judge", "(II)I"⟩
abbrev cX10_perform : ByteArray := prog_12_method_49_code
def yX10_perform : MethodName := ⟨RX10, "perform", "(I)I"⟩
abbrev cX10_eatenNext : ByteArray := prog_12_method_50_code
def yX10_eatenNext : MethodName := ⟨RX10, "eatenNext", "(I)I"⟩
abbrev cX10_eats : ByteArray := prog_12_method_51_code
def yX10_eats : MethodName := ⟨RX10, "eats", "(I)I"⟩
abbrev cX10_ants : ByteArray := prog_12_method_52_code
def yX10_ants : MethodName := ⟨RX10, "ants", "(I)I"⟩
abbrev cX10_laysRow : ByteArray := prog_12_method_53_code
def yX10_laysRow : MethodName := ⟨RX10, "laysRow", "(I)V"⟩
abbrev cX10_putsRow : ByteArray := prog_12_method_54_code
def yX10_putsRow : MethodName := ⟨RX10, "putsRow", "(I)V"⟩
abbrev cX10_eaten : ByteArray := prog_12_method_55_code
def yX10_eaten : MethodName := ⟨RX10, "eaten", "(III)I"⟩
abbrev cX10_lasts : ByteArray := prog_12_method_56_code
def yX10_lasts : MethodName := ⟨RX10, "lasts", "(I)I"⟩
abbrev cX10_lastFace : ByteArray := prog_12_method_57_code
def yX10_lastFace : MethodName := ⟨RX10, "lastFace", "(I)I"⟩
abbrev cX10_rain : ByteArray := prog_12_method_58_code
def yX10_rain : MethodName := ⟨RX10, "rain", "(I)I"⟩
abbrev cX10_fan : ByteArray := prog_12_method_59_code
def yX10_fan : MethodName := ⟨RX10, "fan", "(I)I"⟩
abbrev cX10_lot : ByteArray := prog_12_method_60_code
def yX10_lot : MethodName := ⟨RX10, "lot", "(I)I"⟩
abbrev cX10_has : ByteArray := prog_12_method_61_code
def yX10_has : MethodName := ⟨RX10, "has", "(II)Z"⟩
abbrev cX10_setFault : ByteArray := prog_12_method_62_code
def yX10_setFault : MethodName := ⟨RX10, "setFault", "(I)I"⟩
abbrev cX10_laysWays : ByteArray := prog_12_method_63_code
def yX10_laysWays : MethodName := ⟨RX10, "laysWays", "(I)V"⟩
abbrev cX10_all : ByteArray := prog_12_method_64_code
def yX10_all : MethodName := ⟨RX10, "all", "(I)J"⟩
abbrev cX10_atLeast : ByteArray := prog_12_method_65_code
def yX10_atLeast : MethodName := ⟨RX10, "atLeast", "(II)J"⟩
abbrev cX10_whole : ByteArray := prog_12_method_66_code
def yX10_whole : MethodName := ⟨RX10, "whole", "(I)J"⟩
abbrev cX10_sum : ByteArray := prog_12_method_67_code
def yX10_sum : MethodName := ⟨RX10, "sum", "(II)J"⟩
abbrev cX10_least : ByteArray := prog_12_method_68_code
def yX10_least : MethodName := ⟨RX10, "least", "(II)J"⟩
abbrev cX10_alike : ByteArray := prog_12_method_69_code
def yX10_alike : MethodName := ⟨RX10, "alike", "(I)J"⟩
abbrev cX10_mode : ByteArray := prog_12_method_70_code
def yX10_mode : MethodName := ⟨RX10, "mode", "(I)I"⟩
abbrev cX10_sums : ByteArray := prog_12_method_71_code
def yX10_sums : MethodName := ⟨RX10, "sums", "(I)I"⟩
abbrev cX10_mean : ByteArray := prog_12_method_72_code
def yX10_mean : MethodName := ⟨RX10, "mean", "(II)J"⟩
abbrev cX10_laysUnlike : ByteArray := prog_12_method_73_code
def yX10_laysUnlike : MethodName := ⟨RX10, "laysUnlike", "(I)V"⟩
abbrev cX10_isRow : ByteArray := prog_12_method_74_code
def yX10_isRow : MethodName := ⟨RX10, "isRow", "(I)Z"⟩
abbrev cX10_unlikeOf : ByteArray := prog_12_method_75_code
def yX10_unlikeOf : MethodName := ⟨RX10, "unlikeOf", "(IZ)J"⟩
abbrev cX10_unlike : ByteArray := prog_12_method_76_code
def yX10_unlike : MethodName := ⟨RX10, "unlike", "(I)J"⟩
abbrev cX10_run : ByteArray := prog_12_method_77_code
def yX10_run : MethodName := ⟨RX10, "run", "(I)J"⟩
abbrev cX10_cannot : ByteArray := prog_12_method_78_code
def yX10_cannot : MethodName := ⟨RX10, "cannot", "(I)I"⟩
abbrev cX10_power : ByteArray := prog_12_method_79_code
def yX10_power : MethodName := ⟨RX10, "power", "(JI)J"⟩
abbrev cX10_once : ByteArray := prog_12_method_80_code
def yX10_once : MethodName := ⟨RX10, "once", "(III)J"⟩
abbrev cX10_allFaces : ByteArray := prog_12_method_81_code
def yX10_allFaces : MethodName := ⟨RX10, "allFaces", "(II)J"⟩
abbrev cX10_coins : ByteArray := prog_12_method_82_code
def yX10_coins : MethodName := ⟨RX10, "coins", "(IIII)J"⟩
abbrev cX10_size : ByteArray := prog_12_method_83_code
def yX10_size : MethodName := ⟨RX10, "size", "(I)I"⟩
abbrev cX10_bestSet : ByteArray := prog_12_method_84_code
def yX10_bestSet : MethodName := ⟨RX10, "bestSet", "(II)I"⟩
abbrev cX10_beatsOf : ByteArray := prog_12_method_85_code
def yX10_beatsOf : MethodName := ⟨RX10, "beatsOf", "(II)I"⟩
abbrev cX10_tiesOf : ByteArray := prog_12_method_86_code
def yX10_tiesOf : MethodName := ⟨RX10, "tiesOf", "(II)I"⟩
abbrev cX10_twoFault : ByteArray := prog_12_method_87_code
def yX10_twoFault : MethodName := ⟨RX10, "twoFault", "(II)I"⟩
abbrev cX10_beats : ByteArray := prog_12_method_88_code
def yX10_beats : MethodName := ⟨RX10, "beats", "(II)I"⟩
abbrev cX10_ties : ByteArray := prog_12_method_89_code
def yX10_ties : MethodName := ⟨RX10, "ties", "(II)I"⟩
abbrev cX10_isBetter : ByteArray := prog_12_method_90_code
def yX10_isBetter : MethodName := ⟨RX10, "isBetter", "(II)Z"⟩
abbrev cX10_strongest : ByteArray := prog_12_method_91_code
def yX10_strongest : MethodName := ⟨RX10, "strongest", "()I"⟩
abbrev cX10_isRing : ByteArray := prog_12_method_92_code
def yX10_isRing : MethodName := ⟨RX10, "isRing", "(III)Z"⟩
abbrev cX10_ring : ByteArray := prog_12_method_93_code
def yX10_ring : MethodName := ⟨RX10, "ring", "(I)I"⟩
abbrev cX10_games : ByteArray := prog_12_method_94_code
def yX10_games : MethodName := ⟨RX10, "games", "(IIJJJ)J"⟩
abbrev cX10_series : ByteArray := prog_12_method_95_code
def yX10_series : MethodName := ⟨RX10, "series", "(III)J"⟩
abbrev cX10_moreOf : ByteArray := prog_12_method_96_code
def yX10_moreOf : MethodName := ⟨RX10, "moreOf", "(IIII)J"⟩
abbrev cX10_more : ByteArray := prog_12_method_97_code
def yX10_more : MethodName := ⟨RX10, "more", "(III)J"⟩
abbrev cX10_evenest : ByteArray := prog_12_method_98_code
def yX10_evenest : MethodName := ⟨RX10, "evenest", "()I"⟩
abbrev cX10_stopping : ByteArray := prog_12_method_99_code
def yX10_stopping : MethodName := ⟨RX10, "stopping", "(III)J"⟩
abbrev cX10_facesFault : ByteArray := prog_12_method_100_code
def yX10_facesFault : MethodName := ⟨RX10, "facesFault", "(I)I"⟩
abbrev cX10_faceTold : ByteArray := prog_12_method_101_code
def yX10_faceTold : MethodName := ⟨RX10, "faceTold", "(II)I"⟩
abbrev cX10_likelier : ByteArray := prog_12_method_102_code
def yX10_likelier : MethodName := ⟨RX10, "likelier", "(I)I"⟩
abbrev cX10_fits : ByteArray := prog_12_method_103_code
def yX10_fits : MethodName := ⟨RX10, "fits", "(I)I"⟩
abbrev cX10_wears : ByteArray := prog_12_method_104_code
def yX10_wears : MethodName := ⟨RX10, "wears", "(IIII)Z"⟩
abbrev cX10_worn : ByteArray := prog_12_method_105_code
def yX10_worn : MethodName := ⟨RX10, "worn", "(IIII)I"⟩
abbrev cX10_tally : ByteArray := prog_12_method_106_code
def yX10_tally : MethodName := ⟨RX10, "tally", "(II)I"⟩
abbrev cX10_streak : ByteArray := prog_12_method_107_code
def yX10_streak : MethodName := ⟨RX10, "streak", "(I)I"⟩
abbrev cX10_offOf : ByteArray := prog_12_method_108_code
def yX10_offOf : MethodName := ⟨RX10, "offOf", "(I)I"⟩
abbrev cX10_off : ByteArray := prog_12_method_109_code
def yX10_off : MethodName := ⟨RX10, "off", "(I)I"⟩
abbrev cX10_loaded : ByteArray := prog_12_method_110_code
def yX10_loaded : MethodName := ⟨RX10, "loaded", "()I"⟩
abbrev cX10_isTray : ByteArray := prog_12_method_111_code
def yX10_isTray : MethodName := ⟨RX10, "isTray", "(I)Z"⟩
abbrev cX10_tray : ByteArray := prog_12_method_112_code
def yX10_tray : MethodName := ⟨RX10, "tray", "(III)V"⟩
abbrev cX10_cut : ByteArray := prog_12_method_113_code
def yX10_cut : MethodName := ⟨RX10, "cut", "(IIJ)J"⟩
abbrev cX10_write : ByteArray := prog_12_method_114_code
def yX10_write : MethodName := ⟨RX10, "write", "(IIJ)J"⟩
abbrev cX10_pour : ByteArray := prog_12_method_115_code
def yX10_pour : MethodName := ⟨RX10, "pour", "(I)I"⟩
abbrev cX10_image : ByteArray := prog_12_method_116_code
def yX10_image : MethodName := ⟨RX10, "image", "(I)V"⟩
abbrev cX10_restore : ByteArray := prog_12_method_117_code
def yX10_restore : MethodName := ⟨RX10, "restore", "(I)V"⟩
abbrev cX10_count : ByteArray := prog_12_method_118_code
def yX10_count : MethodName := ⟨RX10, "count", "(I)I"⟩
def RJ6 : String := "java/lang/Integer"
def TJ6 : u_T := fun k => match k with
  | _ => ("", "", "", false)
def tyJ6 : Nat → FieldType := fun k => match k with
  | _ => .int
abbrev wsJ60 : List Cond := u_ws RJ6 TJ6 0
theorem nmJ6 : ∀ a, a < 0 → ∀ b, b < 0 → a ≠ b → (TJ6 a).2.1 ≠ (TJ6 b).2.1 := by decide +kernel
theorem tyJ6_ok : ∀ k, k < 0 → parseFieldDescriptor (TJ6 k).2.2.1 = some (tyJ6 k) := by decide +kernel
abbrev cJ6_bitCount_0f7a4 : ByteArray := prog_20_method_49_code
def yJ6_bitCount_0f7a4 : MethodName := ⟨RJ6, "bitCount", "(I)I"⟩
def RJ9 : String := "java/lang/Math"
def TJ9 : u_T := fun k => match k with
  | _ => ("", "", "", false)
def tyJ9 : Nat → FieldType := fun k => match k with
  | _ => .int
abbrev wsJ90 : List Cond := u_ws RJ9 TJ9 0
theorem nmJ9 : ∀ a, a < 0 → ∀ b, b < 0 → a ≠ b → (TJ9 a).2.1 ≠ (TJ9 b).2.1 := by decide +kernel
theorem tyJ9_ok : ∀ k, k < 0 → parseFieldDescriptor (TJ9 k).2.2.1 = some (tyJ9 k) := by decide +kernel
abbrev cJ9_abs_0f7a4 : ByteArray := prog_21_method_59_code
def yJ9_abs_0f7a4 : MethodName := ⟨RJ9, "abs", "(I)I"⟩
abbrev cJ9_max_7cf53 : ByteArray := prog_21_method_65_code
def yJ9_max_7cf53 : MethodName := ⟨RJ9, "max", "(II)I"⟩
abbrev cJ9_max_f86c9 : ByteArray := prog_21_method_66_code
def yJ9_max_f86c9 : MethodName := ⟨RJ9, "max", "(JJ)J"⟩
abbrev cJ9_min_7cf53 : ByteArray := prog_21_method_69_code
def yJ9_min_7cf53 : MethodName := ⟨RJ9, "min", "(II)I"⟩
def RJ0 : String := "java/lang/String"
def TJ0 : u_T := fun k => match k with
  | _ => ("", "", "", false)
def tyJ0 : Nat → FieldType := fun k => match k with
  | _ => .int
abbrev wsJ00 : List Cond := u_ws RJ0 TJ0 0
theorem nmJ0 : ∀ a, a < 0 → ∀ b, b < 0 → a ≠ b → (TJ0 a).2.1 ≠ (TJ0 b).2.1 := by decide +kernel
theorem tyJ0_ok : ∀ k, k < 0 → parseFieldDescriptor (TJ0 k).2.2.1 = some (tyJ0 k) := by decide +kernel
abbrev cJ0_length_8abf5 : ByteArray := prog_23_method_54_code
def yJ0_length_8abf5 : MethodName := ⟨RJ0, "length", "()I"⟩
abbrev cJ0_charAt_5068e : ByteArray := prog_23_method_56_code
def yJ0_charAt_5068e : MethodName := ⟨RJ0, "charAt", "(I)C"⟩
abbrev cJ0_coder_7d493 : ByteArray := prog_23_method_152_code
def yJ0_coder_7d493 : MethodName := ⟨RJ0, "coder", "()B"⟩
abbrev cJ0_isLatin1_aae02 : ByteArray := prog_23_method_154_code
def yJ0_isLatin1_aae02 : MethodName := ⟨RJ0, "isLatin1", "()Z"⟩
abbrev cJ0_checkIndex_df160 : ByteArray := prog_23_method_155_code
def yJ0_checkIndex_df160 : MethodName := ⟨RJ0, "checkIndex", "(II)V"⟩
def RJ1 : String := "java/lang/StringLatin1"
def TJ1 : u_T := fun k => match k with
  | _ => ("", "", "", false)
def tyJ1 : Nat → FieldType := fun k => match k with
  | _ => .int
abbrev wsJ10 : List Cond := u_ws RJ1 TJ1 0
theorem nmJ1 : ∀ a, a < 0 → ∀ b, b < 0 → a ≠ b → (TJ1 a).2.1 ≠ (TJ1 b).2.1 := by decide +kernel
theorem tyJ1_ok : ∀ k, k < 0 → parseFieldDescriptor (TJ1 k).2.2.1 = some (tyJ1 k) := by decide +kernel
abbrev cJ1_charAt_3b067 : ByteArray := prog_24_method_2_code
def yJ1_charAt_3b067 : MethodName := ⟨RJ1, "charAt", "([BI)C"⟩
def RJ2 : String := "java/lang/StringUTF16"
def TJ2 : u_T := fun k => match k with
  | _ => ("", "", "", false)
def tyJ2 : Nat → FieldType := fun k => match k with
  | _ => .int
abbrev wsJ20 : List Cond := u_ws RJ2 TJ2 0
theorem nmJ2 : ∀ a, a < 0 → ∀ b, b < 0 → a ≠ b → (TJ2 a).2.1 ≠ (TJ2 b).2.1 := by decide +kernel
theorem tyJ2_ok : ∀ k, k < 0 → parseFieldDescriptor (TJ2 k).2.2.1 = some (tyJ2 k) := by decide +kernel
abbrev cJ2_getChar_3b067 : ByteArray := prog_25_method_5_code
def yJ2_getChar_3b067 : MethodName := ⟨RJ2, "getChar", "([BI)C"⟩
abbrev cJ2_length_9d52b : ByteArray := prog_25_method_6_code
def yJ2_length_9d52b : MethodName := ⟨RJ2, "length", "([B)I"⟩
abbrev cJ2_charAt_3b067 : ByteArray := prog_25_method_83_code
def yJ2_charAt_3b067 : MethodName := ⟨RJ2, "charAt", "([BI)C"⟩
abbrev cJ2_checkIndex_2214a : ByteArray := prog_25_method_91_code
def yJ2_checkIndex_2214a : MethodName := ⟨RJ2, "checkIndex", "(I[B)V"⟩
def RJ10 : String := "java/lang/System"
def TJ10 : u_T := fun k => match k with
  | _ => ("", "", "", false)
def tyJ10 : Nat → FieldType := fun k => match k with
  | _ => .int
abbrev wsJ100 : List Cond := u_ws RJ10 TJ10 0
theorem nmJ10 : ∀ a, a < 0 → ∀ b, b < 0 → a ≠ b → (TJ10 a).2.1 ≠ (TJ10 b).2.1 := by decide +kernel
theorem tyJ10_ok : ∀ k, k < 0 → parseFieldDescriptor (TJ10 k).2.2.1 = some (tyJ10 k) := by decide +kernel
def RJ3 : String := "jdk/internal/util/Preconditions"
def TJ3 : u_T := fun k => match k with
  | _ => ("", "", "", false)
def tyJ3 : Nat → FieldType := fun k => match k with
  | _ => .int
abbrev wsJ30 : List Cond := u_ws RJ3 TJ3 0
theorem nmJ3 : ∀ a, a < 0 → ∀ b, b < 0 → a ≠ b → (TJ3 a).2.1 ≠ (TJ3 b).2.1 := by decide +kernel
theorem tyJ3_ok : ∀ k, k < 0 → parseFieldDescriptor (TJ3 k).2.2.1 = some (tyJ3 k) := by decide +kernel
abbrev cJ3_checkIndex_8e157 : ByteArray := prog_31_method_11_code
def yJ3_checkIndex_8e157 : MethodName := ⟨RJ3, "checkIndex", "(IILjava/util/function/BiFunction;)I"⟩
def RL : String := "SugarDiceLaw"
abbrev cL_table : ByteArray := method_3_code
def yL_table : MethodName := ⟨RL, "table", "(LSugarDice;I[J)I"⟩
abbrev cL_die : ByteArray := method_4_code
def yL_die : MethodName := ⟨RL, "die", "(LSugarDice;II[J)I"⟩
abbrev cL_hand : ByteArray := method_5_code
def yL_hand : MethodName := ⟨RL, "hand", "(LSugarDice;II[J)I"⟩
abbrev cL_salts : ByteArray := method_6_code
def yL_salts : MethodName := ⟨RL, "salts", "(LSugarDice;I[J)I"⟩
abbrev cL_cast : ByteArray := method_7_code
def yL_cast : MethodName := ⟨RL, "cast", "(LSugarDice;III[J)I"⟩
abbrev cL_shows : ByteArray := method_8_code
def yL_shows : MethodName := ⟨RL, "shows", "(LSugarDice;III[J)I"⟩
abbrev cL_back : ByteArray := method_9_code
def yL_back : MethodName := ⟨RL, "back", "(LSugarDice;I[J)I"⟩
abbrev cL_past : ByteArray := method_10_code
def yL_past : MethodName := ⟨RL, "past", "(LSugarDice;II[J)I"⟩
abbrev cL_evening : ByteArray := method_11_code
def yL_evening : MethodName := ⟨RL, "evening", "(LSugarDice;II[J)I"⟩
abbrev cL_judge : ByteArray := method_12_code
def yL_judge : MethodName := ⟨RL, "judge", "(LSugarDice;II[J)I"⟩
abbrev cL_perform : ByteArray := method_13_code
def yL_perform : MethodName := ⟨RL, "perform", "(LSugarDice;I[J)I"⟩
abbrev cL_ants : ByteArray := method_14_code
def yL_ants : MethodName := ⟨RL, "ants", "(LSugarDice;I[J)I"⟩
abbrev cL_eaten : ByteArray := method_15_code
def yL_eaten : MethodName := ⟨RL, "eaten", "(LSugarDice;III[J)I"⟩
abbrev cL_lasts : ByteArray := method_16_code
def yL_lasts : MethodName := ⟨RL, "lasts", "(LSugarDice;I[J)I"⟩
abbrev cL_lastFace : ByteArray := method_17_code
def yL_lastFace : MethodName := ⟨RL, "lastFace", "(LSugarDice;I[J)I"⟩
abbrev cL_rain : ByteArray := method_18_code
def yL_rain : MethodName := ⟨RL, "rain", "(LSugarDice;I[J)I"⟩
abbrev cL_fan : ByteArray := method_19_code
def yL_fan : MethodName := ⟨RL, "fan", "(LSugarDice;I[J)I"⟩
abbrev cL_whole : ByteArray := method_20_code
def yL_whole : MethodName := ⟨RL, "whole", "(LSugarDice;I[J)I"⟩
abbrev cL_sum : ByteArray := method_21_code
def yL_sum : MethodName := ⟨RL, "sum", "(LSugarDice;II[J)I"⟩
abbrev cL_least : ByteArray := method_22_code
def yL_least : MethodName := ⟨RL, "least", "(LSugarDice;II[J)I"⟩
abbrev cL_alike : ByteArray := method_23_code
def yL_alike : MethodName := ⟨RL, "alike", "(LSugarDice;I[J)I"⟩
abbrev cL_mode : ByteArray := method_24_code
def yL_mode : MethodName := ⟨RL, "mode", "(LSugarDice;I[J)I"⟩
abbrev cL_sums : ByteArray := method_25_code
def yL_sums : MethodName := ⟨RL, "sums", "(LSugarDice;I[J)I"⟩
abbrev cL_mean : ByteArray := method_26_code
def yL_mean : MethodName := ⟨RL, "mean", "(LSugarDice;II[J)I"⟩
abbrev cL_bestSet : ByteArray := method_27_code
def yL_bestSet : MethodName := ⟨RL, "bestSet", "(LSugarDice;II[J)I"⟩
abbrev cL_unlike : ByteArray := method_28_code
def yL_unlike : MethodName := ⟨RL, "unlike", "(LSugarDice;I[J)I"⟩
abbrev cL_run : ByteArray := method_29_code
def yL_run : MethodName := ⟨RL, "run", "(LSugarDice;I[J)I"⟩
abbrev cL_cannot : ByteArray := method_30_code
def yL_cannot : MethodName := ⟨RL, "cannot", "(LSugarDice;I[J)I"⟩
abbrev cL_once : ByteArray := method_31_code
def yL_once : MethodName := ⟨RL, "once", "(LSugarDice;III[J)I"⟩
abbrev cL_allFaces : ByteArray := method_32_code
def yL_allFaces : MethodName := ⟨RL, "allFaces", "(LSugarDice;II[J)I"⟩
abbrev cL_coins : ByteArray := method_33_code
def yL_coins : MethodName := ⟨RL, "coins", "(LSugarDice;IIII[J)I"⟩
abbrev cL_beats : ByteArray := method_34_code
def yL_beats : MethodName := ⟨RL, "beats", "(LSugarDice;II[J)I"⟩
abbrev cL_ties : ByteArray := method_35_code
def yL_ties : MethodName := ⟨RL, "ties", "(LSugarDice;II[J)I"⟩
abbrev cL_series : ByteArray := method_36_code
def yL_series : MethodName := ⟨RL, "series", "(LSugarDice;III[J)I"⟩
abbrev cL_more : ByteArray := method_37_code
def yL_more : MethodName := ⟨RL, "more", "(LSugarDice;III[J)I"⟩
abbrev cL_stopping : ByteArray := method_38_code
def yL_stopping : MethodName := ⟨RL, "stopping", "(LSugarDice;III[J)I"⟩
abbrev cL_likelier : ByteArray := method_39_code
def yL_likelier : MethodName := ⟨RL, "likelier", "(LSugarDice;I[J)I"⟩
abbrev cL_fits : ByteArray := method_40_code
def yL_fits : MethodName := ⟨RL, "fits", "(LSugarDice;I[J)I"⟩
abbrev cL_worn : ByteArray := method_41_code
def yL_worn : MethodName := ⟨RL, "worn", "(LSugarDice;IIII[J)I"⟩
abbrev cL_tally : ByteArray := method_42_code
def yL_tally : MethodName := ⟨RL, "tally", "(LSugarDice;II[J)I"⟩
abbrev cL_streak : ByteArray := method_43_code
def yL_streak : MethodName := ⟨RL, "streak", "(LSugarDice;I[J)I"⟩
abbrev cL_off : ByteArray := method_44_code
def yL_off : MethodName := ⟨RL, "off", "(LSugarDice;I[J)I"⟩
abbrev cL_tray : ByteArray := method_45_code
def yL_tray : MethodName := ⟨RL, "tray", "(LSugarDice;III)I"⟩
abbrev cL_write : ByteArray := method_46_code
def yL_write : MethodName := ⟨RL, "write", "(LSugarDice;IIJ[J)I"⟩
abbrev cL_pour : ByteArray := method_47_code
def yL_pour : MethodName := ⟨RL, "pour", "(LSugarDice;I[J)I"⟩
abbrev cL_image : ByteArray := method_48_code
def yL_image : MethodName := ⟨RL, "image", "(LSugarDice;I)I"⟩
abbrev cL_restore : ByteArray := method_49_code
def yL_restore : MethodName := ⟨RL, "restore", "(LSugarDice;I)I"⟩
abbrev cL_law : ByteArray := code
def yL_law : MethodName := ⟨RL, "law", "([I)Z"⟩
abbrev vwCl : List vw_C := [(RX0, TX0, 1), (RX1, TX1, 1), (RX2, TX2, 8), (RX3, TX3, 1), (RX4, TX4, 4), (RX5, TX5, 13), (RX6, TX6, 2), (RX7, TX7, 4), (RX8, TX8, 3), (RX9, TX9, 10), (RX10, TX10, 27)]
end
section
/-! A small machine of its own: cells by numbers, values with cell numbers for addresses; what it says of a method holds of the machine. -/
abbrev mE : Type := (Nat × vp_A) ⊕ (Nat × List Value)
abbrev mH : Type := List mE
/-- an outcome: what is answered, or which exception, by its number -/
abbrev mO : Type := Option Value ⊕ Nat
def mEx (n : Nat) : String := match n with
  | 0 => "java/lang/IllegalArgumentException"
  | 1 => "java/util/NoSuchElementException"
  | 2 => "java/lang/IllegalStateException"
  | _ => "java/lang/IndexOutOfBoundsException"
/-- the launch, the classes' numbers, the array classes, the first cell that is ours, places of what was there, the script's length and ints -/
abbrev mX : Type := Launch × va_G × (Nat → ClassId) × Nat × (Nat → Nat) × Nat × (Nat → Int32)
/-- a method: its name, code, locals, answer's type, handlers, class number, cells, slots -/
abbrev mM : Type := MethodName × ByteArray × Nat × Option FieldType × List (Nat × Nat × Nat × Nat) × Nat × Nat × Nat
def mSB : Nat := 1000000
def mV (ad : Nat → Nat) (v : Value) : Value := match v with
  | .ref k => .ref (ad k)
  | v => v
def mQ (ad : Nat → Nat) (r : (Nat → Int32) ⊕ (Nat → Int64) ⊕ (Nat → UInt32) ⊕ (Nat → UInt64) ⊕ (Nat → Option Nat)) : (Nat → Int32) ⊕ (Nat → Int64) ⊕ (Nat → UInt32) ⊕ (Nat → UInt64) ⊕ (Nat → Option Nat) := match r with
  | .inr (.inr (.inr (.inr f))) => .inr (.inr (.inr (.inr (fun i => (f i).map ad))))
  | r => r
def mC (ad : Nat → Nat) (dA : Nat → ClassId) (e : mE) : va_E := match e with
  | .inl a => .inl (dA a.1, a.2.1, mQ ad a.2.2)
  | .inr o => .inr (o.1, o.2.map (mV ad))
def mW (ad : Nat → Nat) (dA : Nat → ClassId) (h : mH) : va_W := h.mapIdx (fun k e => (ad k, mC ad dA e))
def mB (X : mX) : Nat → Prop := fun q => X.2.2.2.1 ≤ q
def mT (dA : Nat → ClassId) : List (ClassId × FieldType) := [(dA 0, .int), (dA 1, .long), (dA 2, .byte), (dA 3, .boolean), (dA 4, .object "SugarDice$Tray"), (dA 5, .object "SugarDice$Game")]
def mWd (X : mX) (ad : Nat → Nat) (h : mH) (H : Heap) : Prop := va_P X.2.1 vwCl (mW ad X.2.2.1 h) H ∧ va_D (mB X) (mW ad X.2.2.1 h) ∧ ∀ i, ad (mSB + i) = X.2.2.2.2.1 i
def mStrs : List (String × Nat × String × Nat) := [("SugarDice", 94, "the tape has not so many bytes", 200), ("SugarDice$TableText", 101, "die", 0), ("SugarDice$TableText", 107, "salt", 1), ("SugarDice$TableText", 109, "hand", 2), ("SugarDice$TableText", 111, "ants", 3), ("SugarDice", 424, "no such die", 201), ("SugarDice", 441, "another what", 202), ("SugarDice", 429, "no such hand", 203), ("SugarDice", 431, "the die is gone", 204), ("SugarDice", 433, "there are 60 throws", 205), ("SugarDice", 439, "no face", 206), ("SugarDice", 182, "it can't be thrown so", 207), ("SugarDice", 188, "there are not so many throws", 208), ("SugarDice", 195, "no such throw", 209), ("SugarDice", 207, "times aren't 1 to 40", 210), ("SugarDice", 215, "no dice or no hands", 211), ("SugarDice", 460, "no such tray", 212), ("SugarDice", 466, "the tray is missing", 213), ("SugarDice", 443, "not so many minutes", 214), ("SugarDice", 255, "rain isn't 1 to 20", 215), ("SugarDice", 449, "a set with others than the dice", 216), ("SugarDice", 451, "a die of the set is gone", 217), ("SugarDice", 447, "it isn't 1 to 3", 218), ("SugarDice", 445, "not so many throws", 219), ("SugarDice", 320, "not such coins, not such a goal", 220), ("SugarDice", 352, "throws aren't 1 to 5", 221), ("SugarDice", 456, "not 1 to 5 numbers, or one is no face", 222), ("SugarDice", 389, "no such sort, or not so many", 223), ("SugarDice", 396, "the tray has no such place", 224), ("SugarDice", 458, "no such image", 225), ("SugarDice", 413, "no image was made", 226), ("SugarDiceModel", 136, "die", 0), ("SugarDiceModel", 131, "salt", 1), ("SugarDiceModel", 141, "hand", 2), ("SugarDiceModel", 146, "ants", 3)]
def mNcs : List (String × String) := [("java/lang/IllegalArgumentException", "java/lang/IllegalStateException"), ("java/lang/IllegalArgumentException", "java/lang/IndexOutOfBoundsException"), ("java/lang/IllegalArgumentException", "java/util/NoSuchElementException"), ("java/lang/IllegalStateException", "java/lang/IllegalArgumentException"), ("java/lang/IllegalStateException", "java/lang/IndexOutOfBoundsException"), ("java/lang/IllegalStateException", "java/util/NoSuchElementException"), ("java/lang/IndexOutOfBoundsException", "java/lang/IllegalArgumentException"), ("java/lang/IndexOutOfBoundsException", "java/lang/IllegalStateException"), ("java/lang/IndexOutOfBoundsException", "java/util/NoSuchElementException"), ("java/util/NoSuchElementException", "java/lang/IllegalArgumentException"), ("java/util/NoSuchElementException", "java/lang/IllegalStateException"), ("java/util/NoSuchElementException", "java/lang/IndexOutOfBoundsException")]
/-- the words that hold at every later state too -/
def mOk (w : Cond) : Bool := goodWord w || match w with
  | .privateMethod _ => true
  | .declares _ => true
  | .castable .. => true
  | .methodLinkNest .. => true
  | .fieldLinkNest .. => true
  | _ => false
def mStr : List (String × Nat × String × Nat) := mStrs
/-- the words die, salt, hand, ants: their bytes -/
def mByt : List (List Int32) := [[100, 105, 101], [115, 97, 108, 116], [104, 97, 110, 100], [97, 110, 116, 115]]
def mTx (X : mX) (i : Nat) (U : State) (H : Heap) : Prop := va_O "java/lang/String" (X.2.2.2.2.1 i) (mB X) U H ∧ va_OF "java/lang/String" "coder" "B" (.int 0) (X.2.2.2.2.1 i) (mB X) U H ∧ va_OF "java/lang/String" "value" "[B" (.ref (X.2.2.2.2.1 (100 + i))) (X.2.2.2.2.1 i) (mB X) U H ∧ va_T .byte (X.2.2.2.2.1 (100 + i)) (mByt.getD i []).length (fun j => .int ((mByt.getD i []).getD j 0)) (mB X) U H
def mNc : List (String × String) := mNcs
def mEnv (X : mX) (U : State) (H : Heap) : Prop :=
  (∀ w ∈ lw_tbl, mOk w = true → w.before #[] U = true) ∧ va_K X.2.1 vwCl (mT X.2.2.1) U ∧ vx_Zq Bundle.tN "UNASSIGNED_STACK" Bundle.steD (mB X) U H ∧ vx_Zq Bundle.tN "SUPPRESSED_SENTINEL" Bundle.listD (mB X) U H ∧
  (∀ q ∈ mStr, vk_R q.1 q.2.1 q.2.2.1 (X.2.2.2.2.1 q.2.2.2) U) ∧ (∀ i, i < 4 → mTx X i U H) ∧ va_Z "java/lang/String" "COMPACT_STRINGS" "Z" (.int 1) (mB X) U H ∧ (∀ q ∈ mNc, va_Nc q.1 q.2 U) ∧ va_AO "SugarDice$Tray" U ∧ va_AO "SugarDice$Game" U ∧ X.2.2.2.1 ≤ H.size ∧ X.1.stackTraces = false ∧ va_X (X.2.2.2.2.1 500) X.2.2.2.2.2.1 X.2.2.2.2.2.2 U H ∧ X.2.2.2.2.1 500 < X.2.2.2.1 ∧ X.2.2.2.2.2.1 < 2 ^ 31
theorem mOk_keep {w : Cond} {a a' : Array Value} {s U : State} (hW : s.WarmedH U.vm) (hk : mOk w = true) (h : w.before a s = true) : w.before a' U = true := by
  simp only [mOk, Bool.or_eq_true] at hk
  rcases hk with hk | hk
  · exact word_at hW (good_of_word hk) h
  · cases w with
    | privateMethod x => exact va_tabs rfl (rfl : (s.setVm U.vm).vm = U.vm) (by rw [Cond.privateMethod_setVm hW.alike]; exact h)
    | declares x => exact va_Nw.use rfl (va_Nw.warmD hW (va_Nw.of rfl h))
    | castable x y => exact va_Nw.use rfl (va_Nw.warmC hW (va_Nw.of rfl h))
    | methodLinkNest x y z u => exact va_Nw.use rfl (va_Nw.warmM hW (va_Nw.of rfl h))
    | fieldLinkNest x y z u v t => exact va_Nw.use rfl (va_Nw.warmF hW (va_Nw.of rfl h))
    | _ => cases hk
theorem mTx.moved {X : mX} {i : Nat} {u U : State} {H : Heap} (hvm : u.vm.Alike U.vm) (h : mTx X i u H) : mTx X i U H := ⟨va_O.moved hvm h.1, va_OF.moved hvm h.2.1, va_OF.moved hvm h.2.2.1, va_T.moved hvm h.2.2.2⟩
theorem mTx.kept {X : mX} {i : Nat} {U : State} {H H1 : Heap} (h : mTx X i U H) (hq : ∀ a : Nat, a < H.size → ¬ mB X a → H1[a]? = H[a]?) : mTx X i U H1 := ⟨h.1.kept hq, h.2.1.kept hq, h.2.2.1.kept hq, h.2.2.2.kept hq⟩
theorem mEnv.moved {X : mX} {u U : State} {H : Heap} (hW : u.WarmedH U.vm) (h : mEnv X u H) : mEnv X U H := by
  obtain ⟨h1, h2, h3, h4, h5, h6, h7, h8, h9, h10, h11, h12, h13, h14, h15⟩ := h
  exact ⟨fun w hw hk => mOk_keep hW hk (h1 w hw hk), h2.moved hW.alike, h3.moved hW.alike, h4.moved hW.alike, fun q hq => (h5 q hq).warm hW, fun i hi => (h6 i hi).moved hW.alike, h7.moved hW.alike, fun q hq => (h8 q hq).moved hW.alike, h9.moved hW.alike, h10.moved hW.alike, h11, h12, h13.moved hW.alike, h14, h15⟩
theorem mEnv.kept {X : mX} {U : State} {H H1 : Heap} (h : mEnv X U H) (hz : H.size ≤ H1.size) (hq : ∀ a : Nat, a < H.size → ¬ mB X a → H1[a]? = H[a]?) : mEnv X U H1 := by
  obtain ⟨h1, h2, h3, h4, h5, h6, h7, h8, h9, h10, h11, h12, h13, h14, h15⟩ := h
  exact ⟨h1, h2, h3.kept hq, h4.kept hq, h5, fun i hi => (h6 i hi).kept hq, h7.kept hq, h8, h9, h10, Nat.le_trans h11 hz, h12, h13.kept (hq _ (Nat.lt_of_lt_of_le h14 h11) (Nat.not_le.mpr h14)), h14, h15⟩
theorem mEnv.word {X : mX} {U : State} {H : Heap} (h : mEnv X U H) {w : Cond} {a : Array Value} (hw : w ∈ lw_tbl) (hk : mOk w = true) : w.before a U = true := mOk_keep (State.WarmedH.refl U) hk (h.1 w hw hk)
theorem mW_get (ad : Nat → Nat) (dA : Nat → ClassId) (h : mH) (k : Nat) : (mW ad dA h)[k]? = (h[k]?).map (fun e => (ad k, mC ad dA e)) := by
  simp [mW, List.getElem?_mapIdx]
theorem mW_at {ad : Nat → Nat} {dA : Nat → ClassId} {h : mH} {k : Nat} {e : mE} (hk : h[k]? = some e) : (mW ad dA h)[k]? = some (ad k, mC ad dA e) := by
  rw [mW_get, hk]; rfl
theorem mW_set (ad : Nat → Nat) (dA : Nat → ClassId) (h : mH) (k : Nat) (e : mE) : (mW ad dA h).set k (ad k, mC ad dA e) = mW ad dA (h.set k e) := by
  apply List.ext_getElem?
  intro j
  rw [mW_get, List.getElem?_set, List.getElem?_set]
  by_cases hj : k = j
  · subst hj
    simp only [if_true]
    by_cases hl : k < h.length
    · simp [mW, hl]
    · simp [mW, hl]
  · simp only [hj, if_false]
    rw [mW_get]
end
section
/-- what a method's end says -/
def mQc (X : mX) (a0 : Nat → Nat) (n0 : Nat) (Q : mO → mH → Prop) : Array Value → State → Outcome → State → Prop := fun _ st o t => ∃ (r : Option Value) (ad : Nat → Nat) (h : mH), o = .returned (r.map (mV ad)) ∧ Q (.inl r) h ∧ mWd X ad h t.heap ∧ (∀ k, k < n0 → ad k = a0 k) ∧ n0 ≤ h.length ∧ va_F (mB X) st t
def mXC (X : mX) (a0 : Nat → Nat) (n0 : Nat) (Q : mO → mH → Prop) : String → State → State → Prop := fun E st t => ∃ (n : Nat) (ad : Nat → Nat) (h : mH), E = mEx n ∧ Q (.inr n) h ∧ mWd X ad h t.heap ∧ (∀ k, k < n0 → ad k = a0 k) ∧ n0 ≤ h.length ∧ va_F (mB X) st t
def mPc (X : mX) (a0 : Nat → Nat) (as : List Value) (h : mH) : Array Value → State → Prop := fun v U => v = (as.map (mV a0)).toArray ∧ mEnv X U U.heap ∧ mWd X a0 h U.heap
def mCode (M : mM) : Cond := match M.2.2.2.2.1 with
  | [] => .code M.1 M.2.1 M.2.2.1 M.2.2.2.1
  | hh => .codeWith M.1 M.2.1 M.2.2.1 M.2.2.2.1 hh
def mRm (d : Nat) (M : mM) : Room := { frames := 8 + d, cells := M.2.2.2.2.2.2.1, slots := M.2.2.2.2.2.2.2, locals := 200 + 48 * d }
/-- a call of M with these arguments, over these cells, ends as Q says -/
def mEv (X : mX) (d : Nat) (M : mM) (as : List Value) (h : mH) (Q : mO → mH → Prop) : Prop := ∀ a0 : Nat → Nat, vx_Met X.1 M.1 [mCode M] (mRm d M) (mPc X a0 as h) (mQc X a0 h.length Q) (mXC X a0 h.length Q) M.2.2.2.2.2.2.1 M.2.2.2.2.2.2.2 (mB X)
def mLs (ad : Nat → Nat) (L : List (Option Value)) (nL : Nat) (ls : Array Slot) : Prop := ls.size = nL ∧ lv_wf ls ∧ ∀ (k : Nat) (v : Value), L[k]? = some (some v) → ls[k]? = some (.val (mV ad v))
/-- what stays while a method runs -/
def mF (X : mX) (M : mM) (d : Nat) (p : Program) (R : Room) (s : State) (m : MethodId) (meth : Method) (c : Code) : Prop := p.tables.exec = Jvm.exec ∧ c.code = M.2.1 ∧ c.maxLocals = M.2.2.1 ∧ s.vm.findClass M.1.cls = some m.cls ∧ meth.sig.returnType = M.2.2.2.1 ∧ meth.locks = false ∧ c.exceptionTable.toList = tableOf M.2.2.2.2.1 ∧ meth.name = M.1.name ∧ mEnv X s s.heap ∧ 8 + d ≤ R.frames ∧ 200 + 48 * d ≤ R.locals
/-- what changes -/
def mG (X : mX) (h : mH) (bc bs : Nat) (R : Room) (s : State) (H : Heap) (locs : List Loc) (cells slots : Nat) (ad a0 : Nat → Nat) (n0 : Nat) : Prop := mWd X ad h H ∧ va_S (mB X) s.heap H locs ∧ (∀ k, k < n0 → ad k = a0 k) ∧ n0 ≤ h.length ∧ cells + bc ≤ R.cells ∧ slots + bs ≤ R.slots
def mWP (X : mX) (M : mM) (d : Nat) (Q : mO → mH → Prop) (pc : Nat) (L : List (Option Value)) (st : List Value) (h : mH) (bc bs : Nat) : Prop :=
  ∀ (p : Program) (e : Env) (R : Room) (s : State) (m : MethodId) (args : Array Value) (below : List Frame) (meth : Method) (c : Code) (H : Heap) (locs : List Loc) (cells slots : Nat) (ad a0 : Nat → Nat) (n0 : Nat) (ls : Array Slot),
    mF X M d p R s m meth c → mG X h bc bs R s H locs cells slots ad a0 n0 → mLs ad L M.2.2.1 ls → W p X.1 e R s m args below meth c H locs cells slots (vx_MQ below (mQc X a0 n0 Q) (mXC X a0 n0 Q) args s R.cells R.slots (mB X)) (F0 m pc ls (st.map (mV ad)))
def mPr (ad : Nat → Nat) (L : List (Option Value)) : List (Nat × Value) := (List.range L.length).filterMap (fun k => match L[k]? with
  | some (some v) => some (k, mV ad v)
  | _ => none)
theorem mPr_mem {ad : Nat → Nat} {L : List (Option Value)} {q : Nat × Value} : q ∈ mPr ad L ↔ ∃ v, L[q.1]? = some (some v) ∧ q.2 = mV ad v := by
  obtain ⟨k, w⟩ := q
  simp only [mPr, List.mem_filterMap, List.mem_range]
  constructor
  · rintro ⟨j, -, hj⟩
    split at hj
    · rename_i v hv
      cases hj
      exact ⟨v, hv, rfl⟩
    · cases hj
  · rintro ⟨v, hv, rfl⟩
    refine ⟨k, (List.getElem?_eq_some_iff.mp hv).1, ?_⟩
    simp only [hv]
theorem mLs.has {ad : Nat → Nat} {L : List (Option Value)} {nL : Nat} {ls : Array Slot} (h : mLs ad L nL ls) : lv_has ls nL (mPr ad L) := ⟨h.1, h.2.1, fun q hq => by
  obtain ⟨v, h1, h2⟩ := mPr_mem.mp hq
  rw [h2]
  exact h.2.2 _ _ h1⟩
theorem mV_cat (ad : Nat → Nat) (v : Value) : (mV ad v).category = v.category := by cases v <;> rfl
def mKill (L : List (Option Value)) (i : Nat) : List (Option Value) := match i with
  | 0 => L
  | j + 1 => match L[j]? with
    | some (some (.long _)) => L.set j none
    | some (some (.double _)) => L.set j none
    | _ => L
def mSt1 (L : List (Option Value)) (i : Nat) (v : Value) : List (Option Value) := (mKill L i).set i (some v)
def mSt2 (L : List (Option Value)) (i : Nat) (v : Value) : List (Option Value) := ((mKill L i).set i (some v)).set (i + 1) none
theorem mKill_at {L : List (Option Value)} {i k : Nat} {v : Value} (h : (mKill L i)[k]? = some (some v)) : L[k]? = some (some v) ∧ ¬ (k + 1 = i ∧ v.category = 2) := by
  cases i with
  | zero => exact ⟨h, fun q => by omega⟩
  | succ j =>
    simp only [mKill] at h
    split at h
    · rename_i x hx
      rw [List.getElem?_set] at h
      by_cases hj : j = k
      · subst hj
        simp at h
      · simp only [hj, if_false] at h
        exact ⟨h, fun q => by omega⟩
    · rename_i x hx
      rw [List.getElem?_set] at h
      by_cases hj : j = k
      · subst hj
        simp at h
      · simp only [hj, if_false] at h
        exact ⟨h, fun q => by omega⟩
    · rename_i h1 h2
      refine ⟨h, fun q => ?_⟩
      have hk : k = j := by omega
      subst hk
      cases v with
      | long x => exact h1 x h
      | double x => exact h2 x h
      | _ => simp [Value.category] at q
theorem mLs.st1 {ad : Nat → Nat} {L : List (Option Value)} {nL i : Nat} {v : Value} {ls : Array Slot} (h : lv_has ls nL ((i, mV ad v) :: (mPr ad L).filter (fun q => !(q.1 == i) && !(q.1 + 1 == i && q.2.category == 2)))) : mLs ad (mSt1 L i v) nL ls := by
  obtain ⟨h1, h2, h3⟩ := h
  refine ⟨h1, h2, fun k w hk => ?_⟩
  simp only [mSt1, List.getElem?_set] at hk
  by_cases hi : i = k
  · subst hi
    simp only [if_true] at hk
    split at hk
    · cases hk
      exact h3 _ List.mem_cons_self
    · cases hk
  · simp only [hi, if_false] at hk
    obtain ⟨g1, g2⟩ := mKill_at hk
    refine h3 (k, mV ad w) (List.mem_cons_of_mem _ (List.mem_filter.mpr ⟨mPr_mem.mpr ⟨w, g1, rfl⟩, ?_⟩))
    simp only [Bool.and_eq_true, Bool.not_eq_true', beq_eq_false_iff_ne, mV_cat]
    refine ⟨fun q => hi q.symm, ?_⟩
    by_cases q : k + 1 = i
    · have g3 : ¬ w.category = 2 := fun z => g2 ⟨q, z⟩
      simp [g3]
    · simp [q]
theorem mLs.st2 {ad : Nat → Nat} {L : List (Option Value)} {nL i : Nat} {v : Value} {ls : Array Slot} (h : lv_has ls nL ((i, mV ad v) :: (mPr ad L).filter (fun q => !(q.1 == i) && (!(q.1 == i + 1) && !(q.1 + 1 == i && q.2.category == 2))))) : mLs ad (mSt2 L i v) nL ls := by
  obtain ⟨h1, h2, h3⟩ := h
  refine ⟨h1, h2, fun k w hk => ?_⟩
  simp only [mSt2, List.getElem?_set] at hk
  by_cases hi1 : i + 1 = k
  · subst hi1
    simp at hk
  · simp only [hi1, if_false] at hk
    by_cases hi : i = k
    · subst hi
      simp only [if_true] at hk
      split at hk
      · cases hk
        exact h3 _ List.mem_cons_self
      · cases hk
    · simp only [hi, if_false] at hk
      obtain ⟨g1, g2⟩ := mKill_at hk
      refine h3 (k, mV ad w) (List.mem_cons_of_mem _ (List.mem_filter.mpr ⟨mPr_mem.mpr ⟨w, g1, rfl⟩, ?_⟩))
      simp only [Bool.and_eq_true, Bool.not_eq_true', beq_eq_false_iff_ne, mV_cat]
      refine ⟨fun q => hi q.symm, fun q => hi1 q.symm, ?_⟩
      by_cases q : k + 1 = i
      · have g3 : ¬ w.category = 2 := fun z => g2 ⟨q, z⟩
        simp [g3]
      · simp [q]
section mWPs
variable {X : mX} {M : mM} {d : Nat} {Q : mO → mH → Prop} {pc : Nat} {L : List (Option Value)} {st : List Value} {h : mH} {bc bs : Nat}
theorem wp_iadd {x y : Int32} (hd : decode M.2.1 pc = .ok (.iadd, 1))  (k : mWP X M d Q (pc + 1) L (.int (x + y) :: st) h bc bs) : mWP X M d Q pc L (.int y :: .int x :: st) h bc bs := by
  intro p e R s m args below meth c H locs cells slots ad a0 n0 ls F G hl
  exact lv_iadd F.1 F.2.1 hd (k p e R s m args below meth c H locs cells slots ad a0 n0 ls F G hl)
theorem wp_isub {x y : Int32} (hd : decode M.2.1 pc = .ok (.isub, 1))  (k : mWP X M d Q (pc + 1) L (.int (x - y) :: st) h bc bs) : mWP X M d Q pc L (.int y :: .int x :: st) h bc bs := by
  intro p e R s m args below meth c H locs cells slots ad a0 n0 ls F G hl
  exact lv_isub F.1 F.2.1 hd (k p e R s m args below meth c H locs cells slots ad a0 n0 ls F G hl)
theorem wp_imul {x y : Int32} (hd : decode M.2.1 pc = .ok (.imul, 1))  (k : mWP X M d Q (pc + 1) L (.int (x * y) :: st) h bc bs) : mWP X M d Q pc L (.int y :: .int x :: st) h bc bs := by
  intro p e R s m args below meth c H locs cells slots ad a0 n0 ls F G hl
  exact lv_imul F.1 F.2.1 hd (k p e R s m args below meth c H locs cells slots ad a0 n0 ls F G hl)
theorem wp_iand {x y : Int32} (hd : decode M.2.1 pc = .ok (.iand, 1))  (k : mWP X M d Q (pc + 1) L (.int (x &&& y) :: st) h bc bs) : mWP X M d Q pc L (.int y :: .int x :: st) h bc bs := by
  intro p e R s m args below meth c H locs cells slots ad a0 n0 ls F G hl
  exact lv_iand F.1 F.2.1 hd (k p e R s m args below meth c H locs cells slots ad a0 n0 ls F G hl)
theorem wp_ior {x y : Int32} (hd : decode M.2.1 pc = .ok (.ior, 1))  (k : mWP X M d Q (pc + 1) L (.int (x ||| y) :: st) h bc bs) : mWP X M d Q pc L (.int y :: .int x :: st) h bc bs := by
  intro p e R s m args below meth c H locs cells slots ad a0 n0 ls F G hl
  exact lv_ior F.1 F.2.1 hd (k p e R s m args below meth c H locs cells slots ad a0 n0 ls F G hl)
theorem wp_ixor {x y : Int32} (hd : decode M.2.1 pc = .ok (.ixor, 1))  (k : mWP X M d Q (pc + 1) L (.int (x ^^^ y) :: st) h bc bs) : mWP X M d Q pc L (.int y :: .int x :: st) h bc bs := by
  intro p e R s m args below meth c H locs cells slots ad a0 n0 ls F G hl
  exact lv_ixor F.1 F.2.1 hd (k p e R s m args below meth c H locs cells slots ad a0 n0 ls F G hl)
theorem wp_ishl {x y : Int32} (hd : decode M.2.1 pc = .ok (.ishl, 1))  (k : mWP X M d Q (pc + 1) L (.int (x <<< (y &&& 31)) :: st) h bc bs) : mWP X M d Q pc L (.int y :: .int x :: st) h bc bs := by
  intro p e R s m args below meth c H locs cells slots ad a0 n0 ls F G hl
  exact lv_ishl F.1 F.2.1 hd (k p e R s m args below meth c H locs cells slots ad a0 n0 ls F G hl)
theorem wp_ishr {x y : Int32} (hd : decode M.2.1 pc = .ok (.ishr, 1))  (k : mWP X M d Q (pc + 1) L (.int (x >>> (y &&& 31)) :: st) h bc bs) : mWP X M d Q pc L (.int y :: .int x :: st) h bc bs := by
  intro p e R s m args below meth c H locs cells slots ad a0 n0 ls F G hl
  exact lv_ishr F.1 F.2.1 hd (k p e R s m args below meth c H locs cells slots ad a0 n0 ls F G hl)
theorem wp_ladd {x y : Int64} (hd : decode M.2.1 pc = .ok (.ladd, 1))  (k : mWP X M d Q (pc + 1) L (.long (x + y) :: st) h bc bs) : mWP X M d Q pc L (.long y :: .long x :: st) h bc bs := by
  intro p e R s m args below meth c H locs cells slots ad a0 n0 ls F G hl
  exact lv_ladd F.1 F.2.1 hd (k p e R s m args below meth c H locs cells slots ad a0 n0 ls F G hl)
theorem wp_lsub {x y : Int64} (hd : decode M.2.1 pc = .ok (.lsub, 1))  (k : mWP X M d Q (pc + 1) L (.long (x - y) :: st) h bc bs) : mWP X M d Q pc L (.long y :: .long x :: st) h bc bs := by
  intro p e R s m args below meth c H locs cells slots ad a0 n0 ls F G hl
  exact lv_lsub F.1 F.2.1 hd (k p e R s m args below meth c H locs cells slots ad a0 n0 ls F G hl)
theorem wp_lmul {x y : Int64} (hd : decode M.2.1 pc = .ok (.lmul, 1))  (k : mWP X M d Q (pc + 1) L (.long (x * y) :: st) h bc bs) : mWP X M d Q pc L (.long y :: .long x :: st) h bc bs := by
  intro p e R s m args below meth c H locs cells slots ad a0 n0 ls F G hl
  exact lv_lmul F.1 F.2.1 hd (k p e R s m args below meth c H locs cells slots ad a0 n0 ls F G hl)
theorem wp_land {x y : Int64} (hd : decode M.2.1 pc = .ok (.land, 1))  (k : mWP X M d Q (pc + 1) L (.long (x &&& y) :: st) h bc bs) : mWP X M d Q pc L (.long y :: .long x :: st) h bc bs := by
  intro p e R s m args below meth c H locs cells slots ad a0 n0 ls F G hl
  exact lv_land F.1 F.2.1 hd (k p e R s m args below meth c H locs cells slots ad a0 n0 ls F G hl)
theorem wp_lor {x y : Int64} (hd : decode M.2.1 pc = .ok (.lor, 1))  (k : mWP X M d Q (pc + 1) L (.long (x ||| y) :: st) h bc bs) : mWP X M d Q pc L (.long y :: .long x :: st) h bc bs := by
  intro p e R s m args below meth c H locs cells slots ad a0 n0 ls F G hl
  exact lv_lor F.1 F.2.1 hd (k p e R s m args below meth c H locs cells slots ad a0 n0 ls F G hl)
theorem wp_idiv {x y : Int32} (hd : decode M.2.1 pc = .ok (.idiv, 1)) (hne : ¬ y = 0) (k : mWP X M d Q (pc + 1) L (.int (x / y) :: st) h bc bs) : mWP X M d Q pc L (.int y :: .int x :: st) h bc bs := by
  intro p e R s m args below meth c H locs cells slots ad a0 n0 ls F G hl
  exact lv_idiv F.1 F.2.1 hd hne (k p e R s m args below meth c H locs cells slots ad a0 n0 ls F G hl)
theorem wp_irem {x y : Int32} (hd : decode M.2.1 pc = .ok (.irem, 1)) (hne : ¬ y = 0) (k : mWP X M d Q (pc + 1) L (.int (x - x / y * y) :: st) h bc bs) : mWP X M d Q pc L (.int y :: .int x :: st) h bc bs := by
  intro p e R s m args below meth c H locs cells slots ad a0 n0 ls F G hl
  exact lv_irem F.1 F.2.1 hd hne (k p e R s m args below meth c H locs cells slots ad a0 n0 ls F G hl)
theorem wp_ldiv {x y : Int64} (hd : decode M.2.1 pc = .ok (.ldiv, 1)) (hne : ¬ y = 0) (k : mWP X M d Q (pc + 1) L (.long (x / y) :: st) h bc bs) : mWP X M d Q pc L (.long y :: .long x :: st) h bc bs := by
  intro p e R s m args below meth c H locs cells slots ad a0 n0 ls F G hl
  exact lv_ldiv F.1 F.2.1 hd hne (k p e R s m args below meth c H locs cells slots ad a0 n0 ls F G hl)
theorem wp_lrem {x y : Int64} (hd : decode M.2.1 pc = .ok (.lrem, 1)) (hne : ¬ y = 0) (k : mWP X M d Q (pc + 1) L (.long (x - x / y * y) :: st) h bc bs) : mWP X M d Q pc L (.long y :: .long x :: st) h bc bs := by
  intro p e R s m args below meth c H locs cells slots ad a0 n0 ls F G hl
  exact lv_lrem F.1 F.2.1 hd hne (k p e R s m args below meth c H locs cells slots ad a0 n0 ls F G hl)
theorem wp_ineg {x : Int32} (hd : decode M.2.1 pc = .ok (.ineg, 1))  (k : mWP X M d Q (pc + 1) L (.int (-x) :: st) h bc bs) : mWP X M d Q pc L (.int x :: st) h bc bs := by
  intro p e R s m args below meth c H locs cells slots ad a0 n0 ls F G hl
  exact lv_ineg F.1 F.2.1 hd (k p e R s m args below meth c H locs cells slots ad a0 n0 ls F G hl)
theorem wp_i2l {x : Int32} (hd : decode M.2.1 pc = .ok (.i2l, 1))  (k : mWP X M d Q (pc + 1) L (.long x.toInt64 :: st) h bc bs) : mWP X M d Q pc L (.int x :: st) h bc bs := by
  intro p e R s m args below meth c H locs cells slots ad a0 n0 ls F G hl
  exact lv_i2l F.1 F.2.1 hd rfl (k p e R s m args below meth c H locs cells slots ad a0 n0 ls F G hl)
theorem wp_l2i {x : Int64} (hd : decode M.2.1 pc = .ok (.l2i, 1))  (k : mWP X M d Q (pc + 1) L (.int x.toInt32 :: st) h bc bs) : mWP X M d Q pc L (.long x :: st) h bc bs := by
  intro p e R s m args below meth c H locs cells slots ad a0 n0 ls F G hl
  exact lv_l2i F.1 F.2.1 hd rfl (k p e R s m args below meth c H locs cells slots ad a0 n0 ls F G hl)
theorem wp_i2b {x : Int32} (hd : decode M.2.1 pc = .ok (.i2b, 1))  (k : mWP X M d Q (pc + 1) L (.int x.toInt8.toInt32 :: st) h bc bs) : mWP X M d Q pc L (.int x :: st) h bc bs := by
  intro p e R s m args below meth c H locs cells slots ad a0 n0 ls F G hl
  exact lv_i2b F.1 F.2.1 hd rfl (k p e R s m args below meth c H locs cells slots ad a0 n0 ls F G hl)
theorem wp_i2s {x : Int32} (hd : decode M.2.1 pc = .ok (.i2s, 1))  (k : mWP X M d Q (pc + 1) L (.int x.toInt16.toInt32 :: st) h bc bs) : mWP X M d Q pc L (.int x :: st) h bc bs := by
  intro p e R s m args below meth c H locs cells slots ad a0 n0 ls F G hl
  exact lv_i2s F.1 F.2.1 hd rfl (k p e R s m args below meth c H locs cells slots ad a0 n0 ls F G hl)
theorem wp_iushr {x y : Int32} (hd : decode M.2.1 pc = .ok (.iushr, 1))  (k : mWP X M d Q (pc + 1) L (.int (x.toUInt32 >>> (y.toUInt32 &&& Int32.toUInt32 31)).toInt32 :: st) h bc bs) : mWP X M d Q pc L (.int y :: .int x :: st) h bc bs := by
  intro p e R s m args below meth c H locs cells slots ad a0 n0 ls F G hl
  exact lv_iushr F.1 F.2.1 hd rfl (k p e R s m args below meth c H locs cells slots ad a0 n0 ls F G hl)
theorem wp_lshl {x : Int64} {y : Int32} (hd : decode M.2.1 pc = .ok (.lshl, 1))  (k : mWP X M d Q (pc + 1) L (.long (x <<< (y.toInt64 &&& 63)) :: st) h bc bs) : mWP X M d Q pc L (.int y :: .long x :: st) h bc bs := by
  intro p e R s m args below meth c H locs cells slots ad a0 n0 ls F G hl
  exact lv_lshl F.1 F.2.1 hd rfl (k p e R s m args below meth c H locs cells slots ad a0 n0 ls F G hl)
theorem wp_lshr {x : Int64} {y : Int32} (hd : decode M.2.1 pc = .ok (.lshr, 1))  (k : mWP X M d Q (pc + 1) L (.long (x >>> (y.toInt64 &&& 63)) :: st) h bc bs) : mWP X M d Q pc L (.int y :: .long x :: st) h bc bs := by
  intro p e R s m args below meth c H locs cells slots ad a0 n0 ls F G hl
  exact lv_lshr F.1 F.2.1 hd rfl (k p e R s m args below meth c H locs cells slots ad a0 n0 ls F G hl)
theorem wp_lcmp {x y : Int64} (hd : decode M.2.1 pc = .ok (.lcmp, 1))  (k : mWP X M d Q (pc + 1) L (.int (lg_cmp x y) :: st) h bc bs) : mWP X M d Q pc L (.long y :: .long x :: st) h bc bs := by
  intro p e R s m args below meth c H locs cells slots ad a0 n0 ls F G hl
  exact W.lcmp F.1 F.2.1 hd (k p e R s m args below meth c H locs cells slots ad a0 n0 ls F G hl)
theorem wp_dup {v : Value} (hd : decode M.2.1 pc = .ok (.dup, 1)) (hc : v.category = 1) (k : mWP X M d Q (pc + 1) L (v :: v :: st) h bc bs) : mWP X M d Q pc L (v :: st) h bc bs := by
  intro p e R s m args below meth c H locs cells slots ad a0 n0 ls F G hl
  exact lv_dup F.1 F.2.1 hd (by rw [mV_cat]; exact hc) (k p e R s m args below meth c H locs cells slots ad a0 n0 ls F G hl)
theorem wp_pop {v : Value} (hd : decode M.2.1 pc = .ok (.pop, 1)) (hc : v.category = 1) (k : mWP X M d Q (pc + 1) L (st) h bc bs) : mWP X M d Q pc L (v :: st) h bc bs := by
  intro p e R s m args below meth c H locs cells slots ad a0 n0 ls F G hl
  exact lv_pop F.1 F.2.1 hd (by rw [mV_cat]; exact hc) (k p e R s m args below meth c H locs cells slots ad a0 n0 ls F G hl)
theorem wp_dup2_11 {v w : Value} (hd : decode M.2.1 pc = .ok (.dup2, 1)) (hc : v.category = 1) (hc2 : w.category = 1) (k : mWP X M d Q (pc + 1) L (v :: w :: v :: w :: st) h bc bs) : mWP X M d Q pc L (v :: w :: st) h bc bs := by
  intro p e R s m args below meth c H locs cells slots ad a0 n0 ls F G hl
  exact lv_dup2_11 F.1 F.2.1 hd (by rw [mV_cat]; exact hc) (by rw [mV_cat]; exact hc2) (k p e R s m args below meth c H locs cells slots ad a0 n0 ls F G hl)
theorem wp_dup2_2 {v : Value} (hd : decode M.2.1 pc = .ok (.dup2, 1)) (hc : v.category = 2) (k : mWP X M d Q (pc + 1) L (v :: v :: st) h bc bs) : mWP X M d Q pc L (v :: st) h bc bs := by
  intro p e R s m args below meth c H locs cells slots ad a0 n0 ls F G hl
  exact lv_dup2_2 F.1 F.2.1 hd (by rw [mV_cat]; exact hc) (k p e R s m args below meth c H locs cells slots ad a0 n0 ls F G hl)
theorem wp_pop2_2 {v : Value} (hd : decode M.2.1 pc = .ok (.pop2, 1)) (hc : v.category = 2) (k : mWP X M d Q (pc + 1) L (st) h bc bs) : mWP X M d Q pc L (v :: st) h bc bs := by
  intro p e R s m args below meth c H locs cells slots ad a0 n0 ls F G hl
  exact lv_pop2_2 F.1 F.2.1 hd (by rw [mV_cat]; exact hc) (k p e R s m args below meth c H locs cells slots ad a0 n0 ls F G hl)
theorem wp_iconst {n : Int} {v : Int32} (hd : decode M.2.1 pc = .ok (.iconst n, 1)) (hv : Int32.ofInt n = v) (k : mWP X M d Q (pc + 1) L (.int v :: st) h bc bs) : mWP X M d Q pc L (st) h bc bs := by
  intro p e R s m args below meth c H locs cells slots ad a0 n0 ls F G hl
  exact lv_iconst F.1 F.2.1 hd hv (k p e R s m args below meth c H locs cells slots ad a0 n0 ls F G hl)
theorem wp_bipush {n : Int} {v : Int32} (hd : decode M.2.1 pc = .ok (.bipush n, 2)) (hv : (Int8.ofInt n).toInt32 = v) (k : mWP X M d Q (pc + 2) L (.int v :: st) h bc bs) : mWP X M d Q pc L (st) h bc bs := by
  intro p e R s m args below meth c H locs cells slots ad a0 n0 ls F G hl
  exact lv_bipush F.1 F.2.1 hd hv (k p e R s m args below meth c H locs cells slots ad a0 n0 ls F G hl)
theorem wp_sipush {n : Int} {v : Int32} (hd : decode M.2.1 pc = .ok (.sipush n, 3)) (hv : (Int16.ofInt n).toInt32 = v) (k : mWP X M d Q (pc + 3) L (.int v :: st) h bc bs) : mWP X M d Q pc L (st) h bc bs := by
  intro p e R s m args below meth c H locs cells slots ad a0 n0 ls F G hl
  exact lv_sipush F.1 F.2.1 hd hv (k p e R s m args below meth c H locs cells slots ad a0 n0 ls F G hl)
theorem wp_lconst {n : Fin 2} {v : Int64} (hd : decode M.2.1 pc = .ok (.lconst n, 1)) (hv : Int64.ofNat (n : Nat) = v) (k : mWP X M d Q (pc + 1) L (.long v :: st) h bc bs) : mWP X M d Q pc L (st) h bc bs := by
  intro p e R s m args below meth c H locs cells slots ad a0 n0 ls F G hl
  exact lv_lconst F.1 F.2.1 hd hv (k p e R s m args below meth c H locs cells slots ad a0 n0 ls F G hl)
theorem wp_iload_n {j : Fin 4} {x : Int32} (hd : decode M.2.1 pc = .ok (.iload_n j, 1)) (hL : L[(j : Nat)]? = some (some (.int x))) (k : mWP X M d Q (pc + 1) L (.int x :: st) h bc bs) : mWP X M d Q pc L (st) h bc bs := by
  intro p e R s m args below meth c H locs cells slots ad a0 n0 ls F G hl
  exact lv_iload_n F.1 F.2.1 hd rfl (hl.2.2 _ _ hL) (k p e R s m args below meth c H locs cells slots ad a0 n0 ls F G hl)
theorem wp_iload {j : Nat} {x : Int32} (hd : decode M.2.1 pc = .ok (.iload j, 2)) (hL : L[j]? = some (some (.int x))) (k : mWP X M d Q (pc + 2) L (.int x :: st) h bc bs) : mWP X M d Q pc L (st) h bc bs := by
  intro p e R s m args below meth c H locs cells slots ad a0 n0 ls F G hl
  exact lv_iload F.1 F.2.1 hd (hl.2.2 _ _ hL) (k p e R s m args below meth c H locs cells slots ad a0 n0 ls F G hl)
theorem wp_lload_n {j : Fin 4} {x : Int64} (hd : decode M.2.1 pc = .ok (.lload_n j, 1)) (hL : L[(j : Nat)]? = some (some (.long x))) (k : mWP X M d Q (pc + 1) L (.long x :: st) h bc bs) : mWP X M d Q pc L (st) h bc bs := by
  intro p e R s m args below meth c H locs cells slots ad a0 n0 ls F G hl
  exact lv_lload_n F.1 F.2.1 hd rfl (hl.2.2 _ _ hL) (k p e R s m args below meth c H locs cells slots ad a0 n0 ls F G hl)
theorem wp_lload {j : Nat} {x : Int64} (hd : decode M.2.1 pc = .ok (.lload j, 2)) (hL : L[j]? = some (some (.long x))) (k : mWP X M d Q (pc + 2) L (.long x :: st) h bc bs) : mWP X M d Q pc L (st) h bc bs := by
  intro p e R s m args below meth c H locs cells slots ad a0 n0 ls F G hl
  exact lv_lload F.1 F.2.1 hd (hl.2.2 _ _ hL) (k p e R s m args below meth c H locs cells slots ad a0 n0 ls F G hl)
theorem wp_aload_n {j : Fin 4} {x : Nat} (hd : decode M.2.1 pc = .ok (.aload_n j, 1)) (hL : L[(j : Nat)]? = some (some (.ref x))) (k : mWP X M d Q (pc + 1) L (.ref x :: st) h bc bs) : mWP X M d Q pc L (st) h bc bs := by
  intro p e R s m args below meth c H locs cells slots ad a0 n0 ls F G hl
  exact lv_aload_n F.1 F.2.1 hd rfl (hl.2.2 _ _ hL) (k p e R s m args below meth c H locs cells slots ad a0 n0 ls F G hl)
theorem wp_aload {j : Nat} {x : Nat} (hd : decode M.2.1 pc = .ok (.aload j, 2)) (hL : L[j]? = some (some (.ref x))) (k : mWP X M d Q (pc + 2) L (.ref x :: st) h bc bs) : mWP X M d Q pc L (st) h bc bs := by
  intro p e R s m args below meth c H locs cells slots ad a0 n0 ls F G hl
  exact lv_aload F.1 F.2.1 hd (hl.2.2 _ _ hL) (k p e R s m args below meth c H locs cells slots ad a0 n0 ls F G hl)
theorem wp_aload_nN {j : Fin 4} (hd : decode M.2.1 pc = .ok (.aload_n j, 1)) (hL : L[(j : Nat)]? = some (some .null)) (k : mWP X M d Q (pc + 1) L (.null :: st) h bc bs) : mWP X M d Q pc L (st) h bc bs := by
  intro p e R s m args below meth c H locs cells slots ad a0 n0 ls F G hl
  exact lv_aload_nN F.1 F.2.1 hd rfl (hl.2.2 _ _ hL) (k p e R s m args below meth c H locs cells slots ad a0 n0 ls F G hl)
theorem wp_aloadN {j : Nat} (hd : decode M.2.1 pc = .ok (.aload j, 2)) (hL : L[j]? = some (some .null)) (k : mWP X M d Q (pc + 2) L (.null :: st) h bc bs) : mWP X M d Q pc L (st) h bc bs := by
  intro p e R s m args below meth c H locs cells slots ad a0 n0 ls F G hl
  exact lv_aloadN F.1 F.2.1 hd (hl.2.2 _ _ hL) (k p e R s m args below meth c H locs cells slots ad a0 n0 ls F G hl)
theorem wp_istore {j : Nat} {x : Int32} (hd : decode M.2.1 pc = .ok (.istore j, 2)) (hj : j < M.2.2.1) (k : mWP X M d Q (pc + 2) (mSt1 L j (.int x)) st h bc bs) : mWP X M d Q pc L (.int x :: st) h bc bs := by
  intro p e R s m args below meth c H locs cells slots ad a0 n0 ls F G hl
  exact lv_istore F.1 F.2.1 hd hl.has hj rfl (fun ls1 h1 => k p e R s m args below meth c H locs cells slots ad a0 n0 ls1 F G (mLs.st1 (v := .int x) h1))
theorem wp_istore_n {i : Fin 4} {j : Nat} {x : Int32} (hd : decode M.2.1 pc = .ok (.istore_n i, 1)) (hi : (i : Nat) = j) (hj : j < M.2.2.1) (k : mWP X M d Q (pc + 1) (mSt1 L j (.int x)) st h bc bs) : mWP X M d Q pc L (.int x :: st) h bc bs := by
  intro p e R s m args below meth c H locs cells slots ad a0 n0 ls F G hl
  exact lv_istore_n F.1 F.2.1 hd hi hl.has hj rfl (fun ls1 h1 => k p e R s m args below meth c H locs cells slots ad a0 n0 ls1 F G (mLs.st1 (v := .int x) h1))
theorem wp_lstore {j : Nat} {x : Int64} (hd : decode M.2.1 pc = .ok (.lstore j, 2)) (hj : j + 1 < M.2.2.1) (k : mWP X M d Q (pc + 2) (mSt2 L j (.long x)) st h bc bs) : mWP X M d Q pc L (.long x :: st) h bc bs := by
  intro p e R s m args below meth c H locs cells slots ad a0 n0 ls F G hl
  exact lv_lstore F.1 F.2.1 hd hl.has hj rfl (fun ls1 h1 => k p e R s m args below meth c H locs cells slots ad a0 n0 ls1 F G (mLs.st2 (v := .long x) h1))
theorem wp_lstore_n {i : Fin 4} {j : Nat} {x : Int64} (hd : decode M.2.1 pc = .ok (.lstore_n i, 1)) (hi : (i : Nat) = j) (hj : j + 1 < M.2.2.1) (k : mWP X M d Q (pc + 1) (mSt2 L j (.long x)) st h bc bs) : mWP X M d Q pc L (.long x :: st) h bc bs := by
  intro p e R s m args below meth c H locs cells slots ad a0 n0 ls F G hl
  exact lv_lstore_n F.1 F.2.1 hd hi hl.has hj rfl (fun ls1 h1 => k p e R s m args below meth c H locs cells slots ad a0 n0 ls1 F G (mLs.st2 (v := .long x) h1))
theorem wp_astore {j : Nat} {x : Nat} (hd : decode M.2.1 pc = .ok (.astore j, 2)) (hj : j < M.2.2.1) (k : mWP X M d Q (pc + 2) (mSt1 L j (.ref x)) st h bc bs) : mWP X M d Q pc L (.ref x :: st) h bc bs := by
  intro p e R s m args below meth c H locs cells slots ad a0 n0 ls F G hl
  exact lv_astore F.1 F.2.1 hd hl.has hj rfl (fun ls1 h1 => k p e R s m args below meth c H locs cells slots ad a0 n0 ls1 F G (mLs.st1 (v := .ref x) h1))
theorem wp_astore_n {i : Fin 4} {j : Nat} {x : Nat} (hd : decode M.2.1 pc = .ok (.astore_n i, 1)) (hi : (i : Nat) = j) (hj : j < M.2.2.1) (k : mWP X M d Q (pc + 1) (mSt1 L j (.ref x)) st h bc bs) : mWP X M d Q pc L (.ref x :: st) h bc bs := by
  intro p e R s m args below meth c H locs cells slots ad a0 n0 ls F G hl
  exact lv_astore_n F.1 F.2.1 hd hi hl.has hj rfl (fun ls1 h1 => k p e R s m args below meth c H locs cells slots ad a0 n0 ls1 F G (mLs.st1 (v := .ref x) h1))
theorem wp_iinc {j : Nat} {n : Int} {x v : Int32} (hd : decode M.2.1 pc = .ok (.iinc j n, 3)) (hL : L[j]? = some (some (.int x))) (hv : x + Int32.ofInt n = v) (hj : j < M.2.2.1) (k : mWP X M d Q (pc + 3) (mSt1 L j (.int v)) st h bc bs) : mWP X M d Q pc L st h bc bs := by
  intro p e R s m args below meth c H locs cells slots ad a0 n0 ls F G hl
  obtain ⟨q, hq⟩ := List.getElem?_of_mem (mPr_mem.mpr ⟨_, hL, rfl⟩ : (j, mV ad (.int x)) ∈ mPr ad L)
  exact lv_iinc F.1 F.2.1 hd hl.has hq hv hj rfl (fun ls1 h1 => k p e R s m args below meth c H locs cells slots ad a0 n0 ls1 F G (mLs.st1 (v := .int v) h1))
theorem wp_if_eq {x : Int32} {off : Int} {tgt : Nat} (hd : decode M.2.1 pc = .ok (.ifCond .eq off, 3)) (hg : (pc : Int) + off = (tgt : Int)) (ht : x = 0 → mWP X M d Q tgt L st h bc bs) (hf : ¬ (x = 0) → mWP X M d Q (pc + 3) L st h bc bs) : mWP X M d Q pc L (.int x :: st) h bc bs := by
  intro p e R s m args below meth c H locs cells slots ad a0 n0 ls F G hl
  exact lv_if_eq F.1 F.2.1 hd hg (fun q => ht q p e R s m args below meth c H locs cells slots ad a0 n0 ls F G hl) (fun q => hf q p e R s m args below meth c H locs cells slots ad a0 n0 ls F G hl)
theorem wp_icmp_eq {x y : Int32} {off : Int} {tgt : Nat} (hd : decode M.2.1 pc = .ok (.if_icmp .eq off, 3)) (hg : (pc : Int) + off = (tgt : Int)) (ht : x = y → mWP X M d Q tgt L st h bc bs) (hf : ¬ (x = y) → mWP X M d Q (pc + 3) L st h bc bs) : mWP X M d Q pc L (.int y :: .int x :: st) h bc bs := by
  intro p e R s m args below meth c H locs cells slots ad a0 n0 ls F G hl
  exact lv_icmp_eq F.1 F.2.1 hd hg (fun q => ht q p e R s m args below meth c H locs cells slots ad a0 n0 ls F G hl) (fun q => hf q p e R s m args below meth c H locs cells slots ad a0 n0 ls F G hl)
theorem wp_if_ne {x : Int32} {off : Int} {tgt : Nat} (hd : decode M.2.1 pc = .ok (.ifCond .ne off, 3)) (hg : (pc : Int) + off = (tgt : Int)) (hf : ¬ (x = 0) → mWP X M d Q tgt L st h bc bs) (ht : x = 0 → mWP X M d Q (pc + 3) L st h bc bs) : mWP X M d Q pc L (.int x :: st) h bc bs := by
  intro p e R s m args below meth c H locs cells slots ad a0 n0 ls F G hl
  exact lv_if_ne F.1 F.2.1 hd hg (fun q => hf q p e R s m args below meth c H locs cells slots ad a0 n0 ls F G hl) (fun q => ht q p e R s m args below meth c H locs cells slots ad a0 n0 ls F G hl)
theorem wp_icmp_ne {x y : Int32} {off : Int} {tgt : Nat} (hd : decode M.2.1 pc = .ok (.if_icmp .ne off, 3)) (hg : (pc : Int) + off = (tgt : Int)) (hf : ¬ (x = y) → mWP X M d Q tgt L st h bc bs) (ht : x = y → mWP X M d Q (pc + 3) L st h bc bs) : mWP X M d Q pc L (.int y :: .int x :: st) h bc bs := by
  intro p e R s m args below meth c H locs cells slots ad a0 n0 ls F G hl
  exact lv_icmp_ne F.1 F.2.1 hd hg (fun q => hf q p e R s m args below meth c H locs cells slots ad a0 n0 ls F G hl) (fun q => ht q p e R s m args below meth c H locs cells slots ad a0 n0 ls F G hl)
theorem wp_if_lt {x : Int32} {off : Int} {tgt : Nat} (hd : decode M.2.1 pc = .ok (.ifCond .lt off, 3)) (hg : (pc : Int) + off = (tgt : Int)) (ht : x < 0 → mWP X M d Q tgt L st h bc bs) (hf : ¬ (x < 0) → mWP X M d Q (pc + 3) L st h bc bs) : mWP X M d Q pc L (.int x :: st) h bc bs := by
  intro p e R s m args below meth c H locs cells slots ad a0 n0 ls F G hl
  exact lv_if_lt F.1 F.2.1 hd hg (fun q => ht q p e R s m args below meth c H locs cells slots ad a0 n0 ls F G hl) (fun q => hf q p e R s m args below meth c H locs cells slots ad a0 n0 ls F G hl)
theorem wp_icmp_lt {x y : Int32} {off : Int} {tgt : Nat} (hd : decode M.2.1 pc = .ok (.if_icmp .lt off, 3)) (hg : (pc : Int) + off = (tgt : Int)) (ht : x < y → mWP X M d Q tgt L st h bc bs) (hf : ¬ (x < y) → mWP X M d Q (pc + 3) L st h bc bs) : mWP X M d Q pc L (.int y :: .int x :: st) h bc bs := by
  intro p e R s m args below meth c H locs cells slots ad a0 n0 ls F G hl
  exact lv_icmp_lt F.1 F.2.1 hd hg (fun q => ht q p e R s m args below meth c H locs cells slots ad a0 n0 ls F G hl) (fun q => hf q p e R s m args below meth c H locs cells slots ad a0 n0 ls F G hl)
theorem wp_if_ge {x : Int32} {off : Int} {tgt : Nat} (hd : decode M.2.1 pc = .ok (.ifCond .ge off, 3)) (hg : (pc : Int) + off = (tgt : Int)) (ht : 0 ≤ x → mWP X M d Q tgt L st h bc bs) (hf : ¬ (0 ≤ x) → mWP X M d Q (pc + 3) L st h bc bs) : mWP X M d Q pc L (.int x :: st) h bc bs := by
  intro p e R s m args below meth c H locs cells slots ad a0 n0 ls F G hl
  exact lv_if_ge F.1 F.2.1 hd hg (fun q => ht q p e R s m args below meth c H locs cells slots ad a0 n0 ls F G hl) (fun q => hf q p e R s m args below meth c H locs cells slots ad a0 n0 ls F G hl)
theorem wp_icmp_ge {x y : Int32} {off : Int} {tgt : Nat} (hd : decode M.2.1 pc = .ok (.if_icmp .ge off, 3)) (hg : (pc : Int) + off = (tgt : Int)) (ht : y ≤ x → mWP X M d Q tgt L st h bc bs) (hf : ¬ (y ≤ x) → mWP X M d Q (pc + 3) L st h bc bs) : mWP X M d Q pc L (.int y :: .int x :: st) h bc bs := by
  intro p e R s m args below meth c H locs cells slots ad a0 n0 ls F G hl
  exact lv_icmp_ge F.1 F.2.1 hd hg (fun q => ht q p e R s m args below meth c H locs cells slots ad a0 n0 ls F G hl) (fun q => hf q p e R s m args below meth c H locs cells slots ad a0 n0 ls F G hl)
theorem wp_if_gt {x : Int32} {off : Int} {tgt : Nat} (hd : decode M.2.1 pc = .ok (.ifCond .gt off, 3)) (hg : (pc : Int) + off = (tgt : Int)) (ht : 0 < x → mWP X M d Q tgt L st h bc bs) (hf : ¬ (0 < x) → mWP X M d Q (pc + 3) L st h bc bs) : mWP X M d Q pc L (.int x :: st) h bc bs := by
  intro p e R s m args below meth c H locs cells slots ad a0 n0 ls F G hl
  exact lv_if_gt F.1 F.2.1 hd hg (fun q => ht q p e R s m args below meth c H locs cells slots ad a0 n0 ls F G hl) (fun q => hf q p e R s m args below meth c H locs cells slots ad a0 n0 ls F G hl)
theorem wp_icmp_gt {x y : Int32} {off : Int} {tgt : Nat} (hd : decode M.2.1 pc = .ok (.if_icmp .gt off, 3)) (hg : (pc : Int) + off = (tgt : Int)) (ht : y < x → mWP X M d Q tgt L st h bc bs) (hf : ¬ (y < x) → mWP X M d Q (pc + 3) L st h bc bs) : mWP X M d Q pc L (.int y :: .int x :: st) h bc bs := by
  intro p e R s m args below meth c H locs cells slots ad a0 n0 ls F G hl
  exact lv_icmp_gt F.1 F.2.1 hd hg (fun q => ht q p e R s m args below meth c H locs cells slots ad a0 n0 ls F G hl) (fun q => hf q p e R s m args below meth c H locs cells slots ad a0 n0 ls F G hl)
theorem wp_if_le {x : Int32} {off : Int} {tgt : Nat} (hd : decode M.2.1 pc = .ok (.ifCond .le off, 3)) (hg : (pc : Int) + off = (tgt : Int)) (ht : x ≤ 0 → mWP X M d Q tgt L st h bc bs) (hf : ¬ (x ≤ 0) → mWP X M d Q (pc + 3) L st h bc bs) : mWP X M d Q pc L (.int x :: st) h bc bs := by
  intro p e R s m args below meth c H locs cells slots ad a0 n0 ls F G hl
  exact lv_if_le F.1 F.2.1 hd hg (fun q => ht q p e R s m args below meth c H locs cells slots ad a0 n0 ls F G hl) (fun q => hf q p e R s m args below meth c H locs cells slots ad a0 n0 ls F G hl)
theorem wp_icmp_le {x y : Int32} {off : Int} {tgt : Nat} (hd : decode M.2.1 pc = .ok (.if_icmp .le off, 3)) (hg : (pc : Int) + off = (tgt : Int)) (ht : x ≤ y → mWP X M d Q tgt L st h bc bs) (hf : ¬ (x ≤ y) → mWP X M d Q (pc + 3) L st h bc bs) : mWP X M d Q pc L (.int y :: .int x :: st) h bc bs := by
  intro p e R s m args below meth c H locs cells slots ad a0 n0 ls F G hl
  exact lv_icmp_le F.1 F.2.1 hd hg (fun q => ht q p e R s m args below meth c H locs cells slots ad a0 n0 ls F G hl) (fun q => hf q p e R s m args below meth c H locs cells slots ad a0 n0 ls F G hl)
theorem wp_goto {off : Int} {tgt : Nat} (hd : decode M.2.1 pc = .ok (.goto off, 3)) (hg : (pc : Int) + off = (tgt : Int)) (k : mWP X M d Q tgt L st h bc bs) : mWP X M d Q pc L st h bc bs := by
  intro p e R s m args below meth c H locs cells slots ad a0 n0 ls F G hl
  exact lv_goto F.1 F.2.1 hd hg (k p e R s m args below meth c H locs cells slots ad a0 n0 ls F G hl)
theorem wp_ifnonnull {x : Nat} {off : Int} {tgt : Nat} (hd : decode M.2.1 pc = .ok (.ifnonnull off, 3)) (hg : (pc : Int) + off = (tgt : Int)) (k : mWP X M d Q tgt L st h bc bs) : mWP X M d Q pc L (.ref x :: st) h bc bs := by
  intro p e R s m args below meth c H locs cells slots ad a0 n0 ls F G hl
  exact lv_ifnonnull F.1 F.2.1 hd hg (k p e R s m args below meth c H locs cells slots ad a0 n0 ls F G hl)
theorem wp_ifnonnullN {off : Int} (hd : decode M.2.1 pc = .ok (.ifnonnull off, 3)) (k : mWP X M d Q (pc + 3) L st h bc bs) : mWP X M d Q pc L (.null :: st) h bc bs := by
  intro p e R s m args below meth c H locs cells slots ad a0 n0 ls F G hl
  exact lv_ifnonnullN F.1 F.2.1 hd (k p e R s m args below meth c H locs cells slots ad a0 n0 ls F G hl)
theorem wp_tableOut {dflt lo hi : Int} {offs : Array Int} {len : Nat} {x : Int32} {tgt : Nat} (hd : decode M.2.1 pc = .ok (.tableswitch dflt lo hi offs, len)) (hx : x.toInt < lo ∨ hi < x.toInt) (hg : (pc : Int) + dflt = (tgt : Int)) (k : mWP X M d Q tgt L st h bc bs) : mWP X M d Q pc L (.int x :: st) h bc bs := by
  intro p e R s m args below meth c H locs cells slots ad a0 n0 ls F G hl
  exact lv_tableOut F.1 F.2.1 hd hx hg (k p e R s m args below meth c H locs cells slots ad a0 n0 ls F G hl)
theorem wp_tableIn {dflt lo hi : Int} {offs : Array Int} {len : Nat} {x : Int32} {off : Int} {tgt : Nat} (hd : decode M.2.1 pc = .ok (.tableswitch dflt lo hi offs, len)) (h1 : ¬ x.toInt < lo) (h2 : ¬ hi < x.toInt) (ho : offs[(x.toInt - lo).toNat]? = some off) (hg : (pc : Int) + off = (tgt : Int)) (k : mWP X M d Q tgt L st h bc bs) : mWP X M d Q pc L (.int x :: st) h bc bs := by
  intro p e R s m args below meth c H locs cells slots ad a0 n0 ls F G hl
  exact lv_tableIn F.1 F.2.1 hd h1 h2 ho hg (k p e R s m args below meth c H locs cells slots ad a0 n0 ls F G hl)
theorem wp_lookup {dflt : Int} {ps : Array (Int × Int)} {len : Nat} {x : Int32} {off : Int} {tgt : Nat} (hd : decode M.2.1 pc = .ok (.lookupswitch dflt ps, len)) (hp : (ps.toList.zip (ps.toList.drop 1)).all (fun (a, next) => a.1 < next.1) = true) (ho : Op.lookupswitch.offset ps.toList dflt x.toInt = off) (hg : (pc : Int) + off = (tgt : Int)) (k : mWP X M d Q tgt L st h bc bs) : mWP X M d Q pc L (.int x :: st) h bc bs := by
  intro p e R s m args below meth c H locs cells slots ad a0 n0 ls F G hl
  exact lv_lookup F.1 F.2.1 hd hp ho hg (k p e R s m args below meth c H locs cells slots ad a0 n0 ls F G hl)
theorem wp_iret {x : Int32} (hd : decode M.2.1 pc = .ok (.ireturn, 1)) (hr : M.2.2.2.1 = some .int) (hQ : Q (.inl (some (.int x))) h) : mWP X M d Q pc L [.int x] h bc bs := by
  intro p e R s m args below meth c H locs cells slots ad a0 n0 ls F G hl
  have hG := G
  obtain ⟨hWd, hS, hag, hn, hc, hs⟩ := hG
  refine W.widen (Nat.le_trans (Nat.le_add_right _ _) hc) (Nat.le_trans (Nat.le_add_right _ _) hs) ?_
  refine vx_ret ?_
  exact W.iret F.1 F.2.1 (by rw [F.2.2.2.2.1, hr]) (fun t ht hW => ⟨some (.int x), ad, h, rfl, hQ, by rw [ht]; exact hWd, hag, hn, hS.F ht⟩) hS.2.2 hd (hlocks := F.2.2.2.2.2.1)
theorem wp_zret {x : Int32} {ty : FieldType} (hz : narrow ty (.int x) = .int x) (hd : decode M.2.1 pc = .ok (.ireturn, 1)) (hr : M.2.2.2.1 = some ty) (hQ : Q (.inl (some (.int x))) h) : mWP X M d Q pc L [.int x] h bc bs := by
  intro p e R s m args below meth c H locs cells slots ad a0 n0 ls F G hl
  have hG := G
  obtain ⟨hWd, hS, hag, hn, hc, hs⟩ := hG
  refine W.widen (Nat.le_trans (Nat.le_add_right _ _) hc) (Nat.le_trans (Nat.le_add_right _ _) hs) ?_
  refine vx_ret ?_
  exact W.zret F.1 F.2.1 (by rw [F.2.2.2.2.1, hr]) hz (fun t ht hW => ⟨some (.int x), ad, h, rfl, hQ, by rw [ht]; exact hWd, hag, hn, hS.F ht⟩) hS.2.2 hd (hlocks := F.2.2.2.2.2.1)
theorem wp_lret {x : Int64} (hd : decode M.2.1 pc = .ok (.lreturn, 1)) (hr : M.2.2.2.1 = some .long) (hQ : Q (.inl (some (.long x))) h) : mWP X M d Q pc L [.long x] h bc bs := by
  intro p e R s m args below meth c H locs cells slots ad a0 n0 ls F G hl
  have hG := G
  obtain ⟨hWd, hS, hag, hn, hc, hs⟩ := hG
  refine W.widen (Nat.le_trans (Nat.le_add_right _ _) hc) (Nat.le_trans (Nat.le_add_right _ _) hs) ?_
  refine vx_ret ?_
  exact W.lret F.1 F.2.1 (by rw [F.2.2.2.2.1, hr]) (fun t ht hW => ⟨some (.long x), ad, h, rfl, hQ, by rw [ht]; exact hWd, hag, hn, hS.F ht⟩) hS.2.2 hd (hlocks := F.2.2.2.2.2.1)
theorem wp_aret {x : Nat} {C : String} (hd : decode M.2.1 pc = .ok (.areturn, 1)) (hr : M.2.2.2.1 = some (.object C)) (hQ : Q (.inl (some (.ref x))) h) : mWP X M d Q pc L [.ref x] h bc bs := by
  intro p e R s m args below meth c H locs cells slots ad a0 n0 ls F G hl
  have hG := G
  obtain ⟨hWd, hS, hag, hn, hc, hs⟩ := hG
  refine W.widen (Nat.le_trans (Nat.le_add_right _ _) hc) (Nat.le_trans (Nat.le_add_right _ _) hs) ?_
  refine vx_ret ?_
  exact W.aret F.1 F.2.1 (by rw [F.2.2.2.2.1, hr]) (Or.inl ⟨_, rfl⟩) (Or.inr ⟨_, rfl⟩) (fun t ht hW => ⟨some (.ref x), ad, h, rfl, hQ, by rw [ht]; exact hWd, hag, hn, hS.F ht⟩) hS.2.2 hd (hlocks := F.2.2.2.2.2.1)
theorem wp_vret  (hd : decode M.2.1 pc = .ok (.return_, 1)) (hr : M.2.2.2.1 = none) (hQ : Q (.inl (none)) h) : mWP X M d Q pc L [] h bc bs := by
  intro p e R s m args below meth c H locs cells slots ad a0 n0 ls F G hl
  have hG := G
  obtain ⟨hWd, hS, hag, hn, hc, hs⟩ := hG
  refine W.widen (Nat.le_trans (Nat.le_add_right _ _) hc) (Nat.le_trans (Nat.le_add_right _ _) hs) ?_
  refine vx_ret ?_
  exact W.vret F.1 F.2.1 (by rw [F.2.2.2.2.1, hr]) (fun t ht hW => ⟨none, ad, h, rfl, hQ, by rw [ht]; exact hWd, hag, hn, hS.F ht⟩) hS.2.2 hd (hlocks := F.2.2.2.2.2.1)
end mWPs
end
section
/-! methods, and the links of each class by the index in its pool -/
def mX0_init : mM := (yX0_init, cX0_init, 2, none, [], 0, 0, 0)
def mX0_waysToBeat : mM := (yX0_waysToBeat, cX0_waysToBeat, 6, (some .int), [], 0, 0, 0)
def mX0_waysToTie : mM := (yX0_waysToTie, cX0_waysToTie, 5, (some .int), [], 0, 0, 0)
def mX0_isBetter : mM := (yX0_isBetter, cX0_isBetter, 3, (some .boolean), [], 0, 0, 0)
def mX0_strongestDie : mM := (yX0_strongestDie, cX0_strongestDie, 5, (some .int), [], 0, 0, 0)
def mX0_weakerOnes : mM := (yX0_weakerOnes, cX0_weakerOnes, 4, (some .int), [], 0, 0, 0)
def mX0_ringAt : mM := (yX0_ringAt, cX0_ringAt, 6, (some .int), [], 0, 0, 0)
def mX0_evenestTwo : mM := (yX0_evenestTwo, cX0_evenestTwo, 12, (some .int), [], 0, 0, 0)
def mX1_init : mM := (yX1_init, cX1_init, 1, none, [], 1, 0, 0)
def mX1_begin : mM := (yX1_begin, cX1_begin, 2, none, [], 1, 0, 0)
def mX1_draw : mM := (yX1_draw, cX1_draw, 1, (some .int), [], 1, 0, 0)
def mX2_init : mM := (yX2_init, cX2_init, 1, none, [], 2, 3, 2439)
def mX2_begin : mM := (yX2_begin, cX2_begin, 2, none, [], 2, 0, 0)
def mX2_copyFrom : mM := (yX2_copyFrom, cX2_copyFrom, 2, none, [], 2, 0, 0)
def mX2_hasDie : mM := (yX2_hasDie, cX2_hasDie, 2, (some .boolean), [], 2, 0, 0)
def mX2_hasHand : mM := (yX2_hasHand, cX2_hasHand, 2, (some .boolean), [], 2, 0, 0)
def mX2_weight : mM := (yX2_weight, cX2_weight, 4, (some .int), [], 2, 0, 0)
def mX2_total : mM := (yX2_total, cX2_total, 4, (some .int), [], 2, 0, 0)
def mX2_allTotals : mM := (yX2_allTotals, cX2_allTotals, 3, (some .int), [], 2, 0, 0)
def mX2_isGone : mM := (yX2_isGone, cX2_isGone, 2, (some .boolean), [], 2, 0, 0)
def mX2_goneDice : mM := (yX2_goneDice, cX2_goneDice, 3, (some .int), [], 2, 0, 0)
def mX2_isSalt : mM := (yX2_isSalt, cX2_isSalt, 2, (some .boolean), [], 2, 0, 0)
def mX2_makeSalt : mM := (yX2_makeSalt, cX2_makeSalt, 2, none, [], 2, 0, 0)
def mX2_heat : mM := (yX2_heat, cX2_heat, 2, (some .int), [], 2, 0, 0)
def mX2_cool : mM := (yX2_cool, cX2_cool, 2, none, [], 2, 0, 0)
def mX2_dieByLot : mM := (yX2_dieByLot, cX2_dieByLot, 2, (some .int), [], 2, 0, 0)
def mX2_wear : mM := (yX2_wear, cX2_wear, 5, (some .int), [], 2, 0, 0)
def mX2_hasRoomForThrow : mM := (yX2_hasRoomForThrow, cX2_hasRoomForThrow, 1, (some .boolean), [], 2, 0, 0)
def mX2_whyNot : mM := (yX2_whyNot, cX2_whyNot, 4, (some .int), [], 2, 0, 0)
def mX2_whyNotTold : mM := (yX2_whyNotTold, cX2_whyNotTold, 4, (some .int), [], 2, 0, 0)
def mX2_throwToldOne : mM := (yX2_throwToldOne, cX2_throwToldOne, 2, none, [], 2, 0, 0)
def mX2_faceByDraw : mM := (yX2_faceByDraw, cX2_faceByDraw, 6, (some .int), [], 2, 0, 0)
def mX2_throwFace : mM := (yX2_throwFace, cX2_throwFace, 4, none, [], 2, 0, 0)
def mX2_undo : mM := (yX2_undo, cX2_undo, 2, none, [], 2, 0, 0)
def mX2_toldThrow : mM := (yX2_toldThrow, cX2_toldThrow, 2, (some .int), [], 2, 0, 0)
def mX2_dieOfThrow : mM := (yX2_dieOfThrow, cX2_dieOfThrow, 2, (some .int), [], 2, 0, 0)
def mX2_handOfThrow : mM := (yX2_handOfThrow, cX2_handOfThrow, 2, (some .int), [], 2, 0, 0)
def mX2_faceOfThrow : mM := (yX2_faceOfThrow, cX2_faceOfThrow, 2, (some .int), [], 2, 0, 0)
def mX2_faceForAnts : mM := (yX2_faceForAnts, cX2_faceForAnts, 2, (some .int), [], 2, 0, 0)
def mX2_feedAnts : mM := (yX2_feedAnts, cX2_feedAnts, 5, (some .int), [], 2, 0, 0)
def mX2_weightAfterAnts : mM := (yX2_weightAfterAnts, cX2_weightAfterAnts, 6, (some .int), [], 2, 0, 0)
def mX2_lastFaceForAnts : mM := (yX2_lastFaceForAnts, cX2_lastFaceForAnts, 4, (some .int), [], 2, 0, 0)
def mX2_drawLots : mM := (yX2_drawLots, cX2_drawLots, 7, (some .int), [], 2, 0, 0)
def mX2_dieLeft : mM := (yX2_dieLeft, cX2_dieLeft, 5, (some .int), [], 2, 0, 0)
def mX3_init : mM := (yX3_init, cX3_init, 2, none, [], 3, 0, 0)
def mX3_throwsOfDie : mM := (yX3_throwsOfDie, cX3_throwsOfDie, 4, (some .int), [], 3, 0, 0)
def mX3_throwsOfHand : mM := (yX3_throwsOfHand, cX3_throwsOfHand, 4, (some .int), [], 3, 0, 0)
def mX3_timesShown : mM := (yX3_timesShown, cX3_timesShown, 5, (some .int), [], 3, 0, 0)
def mX3_longestRow : mM := (yX3_longestRow, cX3_longestRow, 5, (some .int), [], 3, 0, 0)
def mX3_howFarOff : mM := (yX3_howFarOff, cX3_howFarOff, 5, (some .int), [], 3, 0, 0)
def mX3_farthestOff : mM := (yX3_farthestOff, cX3_farthestOff, 5, (some .int), [], 3, 0, 0)
def mX4_init : mM := (yX4_init, cX4_init, 2, none, [], 4, 3, 126)
def mX4_wholeOf : mM := (yX4_wholeOf, cX4_wholeOf, 5, (some .long), [], 4, 0, 0)
def mX4_waysOfSum : mM := (yX4_waysOfSum, cX4_waysOfSum, 3, (some .long), [], 4, 0, 0)
def mX4_waysOfSumOrMore : mM := (yX4_waysOfSumOrMore, cX4_waysOfSumOrMore, 6, (some .long), [], 4, 0, 0)
def mX4_waysOfOneFace : mM := (yX4_waysOfOneFace, cX4_waysOfOneFace, 8, (some .long), [], 4, 0, 0)
def mX4_likeliestSum : mM := (yX4_likeliestSum, cX4_likeliestSum, 4, (some .int), [], 4, 0, 0)
def mX4_possibleSums : mM := (yX4_possibleSums, cX4_possibleSums, 4, (some .int), [], 4, 0, 0)
def mX4_allSumsWeighed : mM := (yX4_allSumsWeighed, cX4_allSumsWeighed, 5, (some .long), [], 4, 0, 0)
def mX4_bestSetFor : mM := (yX4_bestSetFor, cX4_bestSetFor, 13, (some .int), [], 4, 0, 0)
def mX4_waysOfUnlikeFaces : mM := (yX4_waysOfUnlikeFaces, cX4_waysOfUnlikeFaces, 6, (some .long), [], 4, 0, 0)
def mX4_waysOfEveryFace : mM := (yX4_waysOfEveryFace, cX4_waysOfEveryFace, 5, (some .long), [], 4, 0, 0)
def mX4_waysOfMore : mM := (yX4_waysOfMore, cX4_waysOfMore, 9, (some .long), [], 4, 0, 0)
def mX4_bestByStopping : mM := (yX4_bestByStopping, cX4_bestByStopping, 11, (some .long), [], 4, 0, 0)
def mX4_leastFaceToStop : mM := (yX4_leastFaceToStop, cX4_leastFaceToStop, 8, (some .int), [], 4, 0, 0)
def mX4_countSums : mM := (yX4_countSums, cX4_countSums, 3, none, [], 4, 0, 0)
def mX4_countThrows : mM := (yX4_countThrows, cX4_countThrows, 5, none, [], 4, 0, 0)
def mX4_addToSums : mM := (yX4_addToSums, cX4_addToSums, 7, none, [], 4, 0, 0)
def mX4_addToFaceSets : mM := (yX4_addToFaceSets, cX4_addToFaceSets, 10, none, [], 4, 0, 0)
def mX4_begin : mM := (yX4_begin, cX4_begin, 2, none, [], 4, 0, 0)
def mX4_isIn : mM := (yX4_isIn, cX4_isIn, 2, (some .boolean), [], 4, 0, 0)
def mX4_isWithoutGap : mM := (yX4_isWithoutGap, cX4_isWithoutGap, 1, (some .boolean), [], 4, 0, 0)
def mX5_init : mM := (yX5_init, cX5_init, 2, none, [], 5, 1, 39)
def mX5_read : mM := (yX5_read, cX5_read, 3, none, [], 5, 0, 0)
def mX5_clear : mM := (yX5_clear, cX5_clear, 2, none, [], 5, 0, 0)
def mX5_readsLine : mM := (yX5_readsLine, cX5_readsLine, 2, (some .boolean), [], 5, 0, 0)
def mX5_readsDie : mM := (yX5_readsDie, cX5_readsDie, 4, (some .boolean), [], 5, 0, 0)
def mX5_readsHand : mM := (yX5_readsHand, cX5_readsHand, 1, (some .boolean), [], 5, 0, 0)
def mX5_readsAnts : mM := (yX5_readsAnts, cX5_readsAnts, 1, (some .boolean), [], 5, 0, 0)
def mX5_readsNumber : mM := (yX5_readsNumber, cX5_readsNumber, 3, (some .boolean), [], 5, 0, 0)
def mX5_isFaulty : mM := (yX5_isFaulty, cX5_isFaulty, 2, (some .boolean), [], 5, 0, 0)
def mX5_nextToken : mM := (yX5_nextToken, cX5_nextToken, 2, none, [], 5, 0, 0)
def mX5_nextNumber : mM := (yX5_nextNumber, cX5_nextNumber, 1, none, [], 5, 0, 0)
def mX5_nextWord : mM := (yX5_nextWord, cX5_nextWord, 1, none, [], 5, 0, 0)
def mX5_isWord : mM := (yX5_isWord, cX5_isWord, 3, (some .boolean), [], 5, 0, 0)
def mX5_isBlank : mM := (yX5_isBlank, cX5_isBlank, 1, (some .boolean), [], 5, 0, 0)
def mX5_isDigit : mM := (yX5_isDigit, cX5_isDigit, 1, (some .boolean), [], 5, 0, 0)
def mX5_isLetter : mM := (yX5_isLetter, cX5_isLetter, 1, (some .boolean), [], 5, 0, 0)
def mX6_init : mM := (yX6_init, cX6_init, 1, none, [], 6, 1, 600)
def mX6_hasRoomForFeed : mM := (yX6_hasRoomForFeed, cX6_hasRoomForFeed, 1, (some .boolean), [], 6, 0, 0)
def mX6_put : mM := (yX6_put, cX6_put, 3, none, [], 6, 0, 0)
def mX6_byteAt : mM := (yX6_byteAt, cX6_byteAt, 2, (some .int), [], 6, 0, 0)
def mX7_init : mM := (yX7_init, cX7_init, 1, none, [], 7, 1, 30)
def mX7_lay : mM := (yX7_lay, cX7_lay, 4, none, [], 7, 0, 0)
def mX7_put : mM := (yX7_put, cX7_put, 4, none, [], 7, 0, 0)
def mX7_number : mM := (yX7_number, cX7_number, 2, (some .long), [], 7, 0, 0)
def mX7_cut : mM := (yX7_cut, cX7_cut, 3, (some .long), [], 7, 0, 0)
def mX7_holdsToldFaces : mM := (yX7_holdsToldFaces, cX7_holdsToldFaces, 3, (some .boolean), [], 7, 0, 0)
def mX7_face : mM := (yX7_face, cX7_face, 2, (some .int), [], 7, 0, 0)
def mX8_init : mM := (yX8_init, cX8_init, 2, none, [], 8, 2, 11)
def mX8_likeliestDie : mM := (yX8_likeliestDie, cX8_likeliestDie, 12, (some .int), [], 8, 0, 0)
def mX8_rowsOfDice : mM := (yX8_rowsOfDice, cX8_rowsOfDice, 6, (some .int), [], 8, 0, 0)
def mX8_rowOfHands : mM := (yX8_rowOfHands, cX8_rowOfHands, 8, (some .int), [], 8, 0, 0)
def mX8_totalBehind : mM := (yX8_totalBehind, cX8_totalBehind, 9, (some .int), [], 8, 0, 0)
def mX8_begin : mM := (yX8_begin, cX8_begin, 3, none, [], 8, 0, 0)
def mX9_init : mM := (yX9_init, cX9_init, 2, none, [], 9, 31, 3391)
def mX9_feed : mM := (yX9_feed, cX9_feed, 6, (some .int), [], 9, 0, 0)
def mX9_table : mM := (yX9_table, cX9_table, 2, (some .int), [], 9, 1, 6)
def mX9_fault : mM := (yX9_fault, cX9_fault, 2, (some .int), [], 9, 0, 0)
def mX9_die : mM := (yX9_die, cX9_die, 3, (some .int), [], 9, 2, 12)
def mX9_hand : mM := (yX9_hand, cX9_hand, 3, (some .int), [], 9, 2, 12)
def mX9_salts : mM := (yX9_salts, cX9_salts, 3, (some .boolean), [], 9, 1, 6)
def mX9_cast : mM := (yX9_cast, cX9_cast, 5, (some .int), [], 9, 4, 24)
def mX9_shows : mM := (yX9_shows, cX9_shows, 4, (some .int), [], 9, 4, 24)
def mX9_back : mM := (yX9_back, cX9_back, 2, (some .int), [], 9, 1, 6)
def mX9_past : mM := (yX9_past, cX9_past, 3, (some .int), [], 9, 2, 12)
def mX9_evening : mM := (yX9_evening, cX9_evening, 7, (some .int), [], 9, 2, 12)
def mX9_judge : mM := (yX9_judge, cX9_judge, 7, (some .int), [], 9, 3, 18)
def mX9_perform : mM := (yX9_perform, cX9_perform, 2, (some .int), [], 9, 2, 12)
def mX9_ants : mM := (yX9_ants, cX9_ants, 4, (some .int), [], 9, 1, 6)
def mX9_eaten : mM := (yX9_eaten, cX9_eaten, 4, (some .int), [], 9, 3, 18)
def mX9_lasts : mM := (yX9_lasts, cX9_lasts, 2, (some .int), [], 9, 1, 6)
def mX9_lastFace : mM := (yX9_lastFace, cX9_lastFace, 2, (some .int), [], 9, 1, 6)
def mX9_rain : mM := (yX9_rain, cX9_rain, 5, (some .int), [], 9, 1, 6)
def mX9_fan : mM := (yX9_fan, cX9_fan, 3, (some .int), [], 9, 1, 6)
def mX9_lot : mM := (yX9_lot, cX9_lot, 2, (some .int), [], 9, 0, 0)
def mX9_whole : mM := (yX9_whole, cX9_whole, 2, (some .long), [], 9, 2, 12)
def mX9_sum : mM := (yX9_sum, cX9_sum, 3, (some .long), [], 9, 2, 12)
def mX9_least : mM := (yX9_least, cX9_least, 3, (some .long), [], 9, 2, 12)
def mX9_alike : mM := (yX9_alike, cX9_alike, 2, (some .long), [], 9, 2, 12)
def mX9_mode : mM := (yX9_mode, cX9_mode, 2, (some .int), [], 9, 2, 12)
def mX9_sums : mM := (yX9_sums, cX9_sums, 2, (some .int), [], 9, 2, 12)
def mX9_mean : mM := (yX9_mean, cX9_mean, 7, (some .long), [], 9, 3, 18)
def mX9_bestSet : mM := (yX9_bestSet, cX9_bestSet, 3, (some .int), [], 9, 1, 6)
def mX9_unlike : mM := (yX9_unlike, cX9_unlike, 2, (some .long), [], 9, 2, 12)
def mX9_run : mM := (yX9_run, cX9_run, 2, (some .long), [], 9, 2, 12)
def mX9_cannot : mM := (yX9_cannot, cX9_cannot, 4, (some .int), [], 9, 1, 6)
def mX9_once : mM := (yX9_once, cX9_once, 5, (some .long), [], 9, 4, 24)
def mX9_allFaces : mM := (yX9_allFaces, cX9_allFaces, 3, (some .long), [], 9, 3, 18)
def mX9_coins : mM := (yX9_coins, cX9_coins, 6, (some .long), [], 9, 4, 24)
def mX9_beats : mM := (yX9_beats, cX9_beats, 3, (some .int), [], 9, 4, 24)
def mX9_ties : mM := (yX9_ties, cX9_ties, 3, (some .int), [], 9, 4, 24)
def mX9_strongest : mM := (yX9_strongest, cX9_strongest, 1, (some .int), [], 9, 0, 0)
def mX9_ring : mM := (yX9_ring, cX9_ring, 2, (some .int), [], 9, 0, 0)
def mX9_series : mM := (yX9_series, cX9_series, 4, (some .long), [], 9, 5, 30)
def mX9_more : mM := (yX9_more, cX9_more, 4, (some .long), [], 9, 5, 30)
def mX9_evenest : mM := (yX9_evenest, cX9_evenest, 1, (some .int), [], 9, 0, 0)
def mX9_stopping : mM := (yX9_stopping, cX9_stopping, 8, (some .long), [], 9, 4, 24)
def mX9_likelier : mM := (yX9_likelier, cX9_likelier, 3, (some .int), [], 9, 3, 18)
def mX9_fits : mM := (yX9_fits, cX9_fits, 3, (some .int), [], 9, 3, 18)
def mX9_worn : mM := (yX9_worn, cX9_worn, 6, (some .int), [], 9, 4, 24)
def mX9_tally : mM := (yX9_tally, cX9_tally, 3, (some .int), [], 9, 2, 12)
def mX9_streak : mM := (yX9_streak, cX9_streak, 2, (some .int), [], 9, 1, 6)
def mX9_off : mM := (yX9_off, cX9_off, 2, (some .int), [], 9, 1, 6)
def mX9_loaded : mM := (yX9_loaded, cX9_loaded, 1, (some .int), [], 9, 0, 0)
def mX9_tray : mM := (yX9_tray, cX9_tray, 5, none, [], 9, 2, 12)
def mX9_write : mM := (yX9_write, cX9_write, 6, (some .long), [], 9, 3, 18)
def mX9_pour : mM := (yX9_pour, cX9_pour, 5, (some .int), [], 9, 2, 12)
def mX9_image : mM := (yX9_image, cX9_image, 2, none, [], 9, 5, 2453)
def mX9_restore : mM := (yX9_restore, cX9_restore, 2, none, [], 9, 2, 12)
def mX9_count : mM := (yX9_count, cX9_count, 2, (some .int), [], 9, 0, 0)
def mX9_needDie : mM := (yX9_needDie, cX9_needDie, 2, none, [], 9, 1, 6)
def mX9_needHand : mM := (yX9_needHand, cX9_needHand, 2, none, [], 9, 1, 6)
def mX9_needNotGone : mM := (yX9_needNotGone, cX9_needNotGone, 2, none, [], 9, 1, 6)
def mX9_needTwoDice : mM := (yX9_needTwoDice, cX9_needTwoDice, 3, none, [], 9, 4, 24)
def mX9_needRoomForThrow : mM := (yX9_needRoomForThrow, cX9_needRoomForThrow, 1, none, [], 9, 1, 6)
def mX9_needFace : mM := (yX9_needFace, cX9_needFace, 2, none, [], 9, 1, 6)
def mX9_needWhat : mM := (yX9_needWhat, cX9_needWhat, 4, none, [], 9, 1, 6)
def mX9_needMinutes : mM := (yX9_needMinutes, cX9_needMinutes, 3, none, [], 9, 1, 6)
def mX9_needThrowsUpToEight : mM := (yX9_needThrowsUpToEight, cX9_needThrowsUpToEight, 3, none, [], 9, 1, 6)
def mX9_needOneToThree : mM := (yX9_needOneToThree, cX9_needOneToThree, 2, none, [], 9, 1, 6)
def mX9_needSet : mM := (yX9_needSet, cX9_needSet, 2, none, [], 9, 1, 6)
def mX9_needNoneGone : mM := (yX9_needNoneGone, cX9_needNoneGone, 2, none, [], 9, 1, 6)
def mX9_needSetNotGone : mM := (yX9_needSetNotGone, cX9_needSetNotGone, 2, none, [], 9, 2, 12)
def mX9_needFaces : mM := (yX9_needFaces, cX9_needFaces, 2, none, [], 9, 1, 6)
def mX9_needImagePlace : mM := (yX9_needImagePlace, cX9_needImagePlace, 2, none, [], 9, 1, 6)
def mX9_anyTray : mM := (yX9_anyTray, cX9_anyTray, 2, (some (.object "SugarDice$Tray")), [], 9, 1, 6)
def mX9_neededTray : mM := (yX9_neededTray, cX9_neededTray, 3, (some (.object "SugarDice$Tray")), [], 9, 2, 12)
def mX9_throwTold : mM := (yX9_throwTold, cX9_throwTold, 4, (some .int), [], 9, 0, 0)
def mX9_isFace : mM := (yX9_isFace, cX9_isFace, 2, (some .boolean), [], 9, 0, 0)
def mX9_power : mM := (yX9_power, cX9_power, 6, (some .long), [], 9, 0, 0)
def mX9_waysToGoal : mM := (yX9_waysToGoal, cX9_waysToGoal, 5, (some .long), [], 9, 0, 0)
def mX9_waysToLead : mM := (yX9_waysToLead, cX9_waysToLead, 8, (some .long), [], 9, 0, 0)
def mX10_init : mM := (yX10_init, cX10_init, 2, none, [], 10, 16, 16446)
def mX10_thrown : mM := (yX10_thrown, cX10_thrown, 1, (some .int), [], 10, 0, 0)
def mX10_fails : mM := (yX10_fails, cX10_fails, 2, (some .int), [], 10, 0, 0)
def mX10_within : mM := (yX10_within, cX10_within, 6, (some .boolean), [], 10, 0, 0)
def mX10_begins : mM := (yX10_begins, cX10_begins, 2, none, [], 10, 0, 0)
def mX10_copies : mM := (yX10_copies, cX10_copies, 3, none, [], 10, 0, 0)
def mX10_feed : mM := (yX10_feed, cX10_feed, 8, (some .int), [], 10, 0, 0)
def mX10_see : mM := (yX10_see, cX10_see, 2, (some .int), [], 10, 0, 0)
def mX10_isLetter : mM := (yX10_isLetter, cX10_isLetter, 1, (some .boolean), [], 10, 0, 0)
def mX10_isDigit : mM := (yX10_isDigit, cX10_isDigit, 1, (some .boolean), [], 10, 0, 0)
def mX10_reads : mM := (yX10_reads, cX10_reads, 2, none, [], 10, 0, 0)
def mX10_blames : mM := (yX10_blames, cX10_blames, 2, none, [], 10, 0, 0)
def mX10_isWord : mM := (yX10_isWord, cX10_isWord, 4, (some .boolean), [], 10, 0, 0)
def mX10_took : mM := (yX10_took, cX10_took, 3, (some .boolean), [], 10, 0, 0)
def mX10_number : mM := (yX10_number, cX10_number, 4, (some .int), [], 10, 0, 0)
def mX10_readDie : mM := (yX10_readDie, cX10_readDie, 5, none, [], 10, 0, 0)
def mX10_readHand : mM := (yX10_readHand, cX10_readHand, 2, none, [], 10, 0, 0)
def mX10_readLine : mM := (yX10_readLine, cX10_readLine, 1, none, [], 10, 0, 0)
def mX10_table : mM := (yX10_table, cX10_table, 3, (some .int), [], 10, 0, 0)
def mX10_fault : mM := (yX10_fault, cX10_fault, 2, (some .int), [], 10, 0, 0)
def mX10_dice : mM := (yX10_dice, cX10_dice, 1, (some .int), [], 10, 0, 0)
def mX10_hands : mM := (yX10_hands, cX10_hands, 1, (some .int), [], 10, 0, 0)
def mX10_isDie : mM := (yX10_isDie, cX10_isDie, 3, (some .boolean), [], 10, 0, 0)
def mX10_isHand : mM := (yX10_isHand, cX10_isHand, 3, (some .boolean), [], 10, 0, 0)
def mX10_isFace : mM := (yX10_isFace, cX10_isFace, 2, (some .boolean), [], 10, 0, 0)
def mX10_weight : mM := (yX10_weight, cX10_weight, 3, (some .int), [], 10, 0, 0)
def mX10_isSalt : mM := (yX10_isSalt, cX10_isSalt, 2, (some .boolean), [], 10, 0, 0)
def mX10_total : mM := (yX10_total, cX10_total, 4, (some .int), [], 10, 0, 0)
def mX10_isGone : mM := (yX10_isGone, cX10_isGone, 2, (some .boolean), [], 10, 0, 0)
def mX10_throwsNow : mM := (yX10_throwsNow, cX10_throwsNow, 1, (some .int), [], 10, 0, 0)
def mX10_pastOf : mM := (yX10_pastOf, cX10_pastOf, 3, (some .int), [], 10, 0, 0)
def mX10_times : mM := (yX10_times, cX10_times, 5, (some .int), [], 10, 0, 0)
def mX10_die : mM := (yX10_die, cX10_die, 3, (some .int), [], 10, 0, 0)
def mX10_hand : mM := (yX10_hand, cX10_hand, 5, (some .int), [], 10, 0, 0)
def mX10_salts : mM := (yX10_salts, cX10_salts, 2, (some .boolean), [], 10, 0, 0)
def mX10_draw : mM := (yX10_draw, cX10_draw, 2, (some .int), [], 10, 0, 0)
def mX10_faceBy : mM := (yX10_faceBy, cX10_faceBy, 5, (some .int), [], 10, 0, 0)
def mX10_goes : mM := (yX10_goes, cX10_goes, 6, none, [], 10, 0, 0)
def mX10_cast : mM := (yX10_cast, cX10_cast, 5, (some .int), [], 10, 0, 0)
def mX10_shows : mM := (yX10_shows, cX10_shows, 4, (some .int), [], 10, 0, 0)
def mX10_back : mM := (yX10_back, cX10_back, 4, (some .int), [], 10, 0, 0)
def mX10_past : mM := (yX10_past, cX10_past, 3, (some .int), [], 10, 0, 0)
def mX10_evening : mM := (yX10_evening, cX10_evening, 7, (some .int), [], 10, 0, 0)
def mX10_trayFault : mM := (yX10_trayFault, cX10_trayFault, 2, (some .int), [], 10, 0, 0)
def mX10_whyTold : mM := (yX10_whyTold, cX10_whyTold, 4, (some .int), [], 10, 0, 0)
def mX10_goesBy : mM := (yX10_goesBy, cX10_goesBy, 4, (some .int), [], 10, 0, 0)
def mX10_totals : mM := (yX10_totals, cX10_totals, 3, (some .int), [], 10, 0, 0)
def mX10_judge : mM := (yX10_judge, cX10_judge, 6, (some .int), [], 10, 0, 0)
def mX10_perform : mM := (yX10_perform, cX10_perform, 2, (some .int), [], 10, 0, 0)
def mX10_eatenNext : mM := (yX10_eatenNext, cX10_eatenNext, 4, (some .int), [], 10, 0, 0)
def mX10_eats : mM := (yX10_eats, cX10_eats, 3, (some .int), [], 10, 0, 0)
def mX10_ants : mM := (yX10_ants, cX10_ants, 5, (some .int), [], 10, 0, 0)
def mX10_laysRow : mM := (yX10_laysRow, cX10_laysRow, 3, none, [], 10, 0, 0)
def mX10_putsRow : mM := (yX10_putsRow, cX10_putsRow, 3, none, [], 10, 0, 0)
def mX10_eaten : mM := (yX10_eaten, cX10_eaten, 5, (some .int), [], 10, 0, 0)
def mX10_lasts : mM := (yX10_lasts, cX10_lasts, 2, (some .int), [], 10, 0, 0)
def mX10_lastFace : mM := (yX10_lastFace, cX10_lastFace, 4, (some .int), [], 10, 0, 0)
def mX10_rain : mM := (yX10_rain, cX10_rain, 6, (some .int), [], 10, 0, 0)
def mX10_fan : mM := (yX10_fan, cX10_fan, 3, (some .int), [], 10, 0, 0)
def mX10_lot : mM := (yX10_lot, cX10_lot, 7, (some .int), [], 10, 0, 0)
def mX10_has : mM := (yX10_has, cX10_has, 2, (some .boolean), [], 10, 0, 0)
def mX10_setFault : mM := (yX10_setFault, cX10_setFault, 3, (some .int), [], 10, 0, 0)
def mX10_laysWays : mM := (yX10_laysWays, cX10_laysWays, 7, none, [], 10, 0, 0)
def mX10_all : mM := (yX10_all, cX10_all, 5, (some .long), [], 10, 0, 0)
def mX10_atLeast : mM := (yX10_atLeast, cX10_atLeast, 6, (some .long), [], 10, 0, 0)
def mX10_whole : mM := (yX10_whole, cX10_whole, 2, (some .long), [], 10, 0, 0)
def mX10_sum : mM := (yX10_sum, cX10_sum, 3, (some .long), [], 10, 0, 0)
def mX10_least : mM := (yX10_least, cX10_least, 3, (some .long), [], 10, 0, 0)
def mX10_alike : mM := (yX10_alike, cX10_alike, 8, (some .long), [], 10, 0, 0)
def mX10_mode : mM := (yX10_mode, cX10_mode, 4, (some .int), [], 10, 0, 0)
def mX10_sums : mM := (yX10_sums, cX10_sums, 4, (some .int), [], 10, 0, 0)
def mX10_mean : mM := (yX10_mean, cX10_mean, 6, (some .long), [], 10, 0, 0)
def mX10_laysUnlike : mM := (yX10_laysUnlike, cX10_laysUnlike, 7, none, [], 10, 0, 0)
def mX10_isRow : mM := (yX10_isRow, cX10_isRow, 2, (some .boolean), [], 10, 0, 0)
def mX10_unlikeOf : mM := (yX10_unlikeOf, cX10_unlikeOf, 6, (some .long), [], 10, 0, 0)
def mX10_unlike : mM := (yX10_unlike, cX10_unlike, 2, (some .long), [], 10, 0, 0)
def mX10_run : mM := (yX10_run, cX10_run, 2, (some .long), [], 10, 0, 0)
def mX10_cannot : mM := (yX10_cannot, cX10_cannot, 4, (some .int), [], 10, 0, 0)
def mX10_power : mM := (yX10_power, cX10_power, 6, (some .long), [], 10, 0, 0)
def mX10_once : mM := (yX10_once, cX10_once, 4, (some .long), [], 10, 0, 0)
def mX10_allFaces : mM := (yX10_allFaces, cX10_allFaces, 9, (some .long), [], 10, 0, 0)
def mX10_coins : mM := (yX10_coins, cX10_coins, 12, (some .long), [], 10, 0, 0)
def mX10_size : mM := (yX10_size, cX10_size, 3, (some .int), [], 10, 0, 0)
def mX10_bestSet : mM := (yX10_bestSet, cX10_bestSet, 11, (some .int), [], 10, 0, 0)
def mX10_beatsOf : mM := (yX10_beatsOf, cX10_beatsOf, 6, (some .int), [], 10, 0, 0)
def mX10_tiesOf : mM := (yX10_tiesOf, cX10_tiesOf, 5, (some .int), [], 10, 0, 0)
def mX10_twoFault : mM := (yX10_twoFault, cX10_twoFault, 3, (some .int), [], 10, 0, 0)
def mX10_beats : mM := (yX10_beats, cX10_beats, 3, (some .int), [], 10, 0, 0)
def mX10_ties : mM := (yX10_ties, cX10_ties, 3, (some .int), [], 10, 0, 0)
def mX10_isBetter : mM := (yX10_isBetter, cX10_isBetter, 3, (some .boolean), [], 10, 0, 0)
def mX10_strongest : mM := (yX10_strongest, cX10_strongest, 6, (some .int), [], 10, 0, 0)
def mX10_isRing : mM := (yX10_isRing, cX10_isRing, 4, (some .boolean), [], 10, 0, 0)
def mX10_ring : mM := (yX10_ring, cX10_ring, 6, (some .int), [], 10, 0, 0)
def mX10_games : mM := (yX10_games, cX10_games, 9, (some .long), [], 10, 0, 0)
def mX10_series : mM := (yX10_series, cX10_series, 4, (some .long), [], 10, 0, 0)
def mX10_moreOf : mM := (yX10_moreOf, cX10_moreOf, 9, (some .long), [], 10, 0, 0)
def mX10_more : mM := (yX10_more, cX10_more, 4, (some .long), [], 10, 0, 0)
def mX10_evenest : mM := (yX10_evenest, cX10_evenest, 12, (some .int), [], 10, 0, 0)
def mX10_stopping : mM := (yX10_stopping, cX10_stopping, 15, (some .long), [], 10, 0, 0)
def mX10_facesFault : mM := (yX10_facesFault, cX10_facesFault, 4, (some .int), [], 10, 0, 0)
def mX10_faceTold : mM := (yX10_faceTold, cX10_faceTold, 3, (some .int), [], 10, 0, 0)
def mX10_likelier : mM := (yX10_likelier, cX10_likelier, 13, (some .int), [], 10, 0, 0)
def mX10_fits : mM := (yX10_fits, cX10_fits, 6, (some .int), [], 10, 0, 0)
def mX10_wears : mM := (yX10_wears, cX10_wears, 8, (some .boolean), [], 10, 0, 0)
def mX10_worn : mM := (yX10_worn, cX10_worn, 8, (some .int), [], 10, 0, 0)
def mX10_tally : mM := (yX10_tally, cX10_tally, 3, (some .int), [], 10, 0, 0)
def mX10_streak : mM := (yX10_streak, cX10_streak, 5, (some .int), [], 10, 0, 0)
def mX10_offOf : mM := (yX10_offOf, cX10_offOf, 4, (some .int), [], 10, 0, 0)
def mX10_off : mM := (yX10_off, cX10_off, 2, (some .int), [], 10, 0, 0)
def mX10_loaded : mM := (yX10_loaded, cX10_loaded, 4, (some .int), [], 10, 0, 0)
def mX10_isTray : mM := (yX10_isTray, cX10_isTray, 1, (some .boolean), [], 10, 0, 0)
def mX10_tray : mM := (yX10_tray, cX10_tray, 5, none, [], 10, 0, 0)
def mX10_cut : mM := (yX10_cut, cX10_cut, 6, (some .long), [], 10, 0, 0)
def mX10_write : mM := (yX10_write, cX10_write, 5, (some .long), [], 10, 0, 0)
def mX10_pour : mM := (yX10_pour, cX10_pour, 4, (some .int), [], 10, 0, 0)
def mX10_image : mM := (yX10_image, cX10_image, 3, none, [], 10, 0, 0)
def mX10_restore : mM := (yX10_restore, cX10_restore, 3, none, [], 10, 0, 0)
def mX10_count : mM := (yX10_count, cX10_count, 4, (some .int), [], 10, 0, 0)
def mJ6_bitCount_0f7a4 : mM := (yJ6_bitCount_0f7a4, cJ6_bitCount_0f7a4, 1, (some .int), [], 12, 0, 0)
def mJ9_abs_0f7a4 : mM := (yJ9_abs_0f7a4, cJ9_abs_0f7a4, 1, (some .int), [], 13, 0, 0)
def mJ9_max_7cf53 : mM := (yJ9_max_7cf53, cJ9_max_7cf53, 2, (some .int), [], 13, 0, 0)
def mJ9_max_f86c9 : mM := (yJ9_max_f86c9, cJ9_max_f86c9, 4, (some .long), [], 13, 0, 0)
def mJ9_min_7cf53 : mM := (yJ9_min_7cf53, cJ9_min_7cf53, 2, (some .int), [], 13, 0, 0)
def mJ0_length_8abf5 : mM := (yJ0_length_8abf5, cJ0_length_8abf5, 1, (some .int), [], 14, 0, 0)
def mJ0_charAt_5068e : mM := (yJ0_charAt_5068e, cJ0_charAt_5068e, 2, (some .char), [], 14, 0, 0)
def mJ0_coder_7d493 : mM := (yJ0_coder_7d493, cJ0_coder_7d493, 1, (some .byte), [], 14, 0, 0)
def mJ0_isLatin1_aae02 : mM := (yJ0_isLatin1_aae02, cJ0_isLatin1_aae02, 1, (some .boolean), [], 14, 0, 0)
def mJ1_charAt_3b067 : mM := (yJ1_charAt_3b067, cJ1_charAt_3b067, 2, (some .char), [], 15, 0, 0)
def mJ2_length_9d52b : mM := (yJ2_length_9d52b, cJ2_length_9d52b, 1, (some .int), [], 16, 0, 0)
def mJ2_charAt_3b067 : mM := (yJ2_charAt_3b067, cJ2_charAt_3b067, 2, (some .char), [], 16, 0, 0)
def mL_table : mM := (yL_table, cL_table, 4, (some .int), [((0 : Nat), (9 : Nat), (12 : Nat), (13 : Nat))], 11, 1, 6)
def mL_die : mM := (yL_die, cL_die, 5, (some .int), [((0 : Nat), (10 : Nat), (13 : Nat), (19 : Nat)), ((0 : Nat), (10 : Nat), (17 : Nat), (13 : Nat))], 11, 2, 12)
def mL_hand : mM := (yL_hand, cL_hand, 5, (some .int), [((0 : Nat), (10 : Nat), (13 : Nat), (19 : Nat)), ((0 : Nat), (10 : Nat), (17 : Nat), (13 : Nat))], 11, 2, 12)
def mL_salts : mM := (yL_salts, cL_salts, 4, (some .int), [((0 : Nat), (16 : Nat), (19 : Nat), (19 : Nat))], 11, 1, 6)
def mL_cast : mM := (yL_cast, cL_cast, 6, (some .int), [((0 : Nat), (12 : Nat), (15 : Nat), (19 : Nat)), ((0 : Nat), (12 : Nat), (19 : Nat), (32 : Nat))], 11, 4, 24)
def mL_shows : mM := (yL_shows, cL_shows, 6, (some .int), [((0 : Nat), (12 : Nat), (15 : Nat), (19 : Nat)), ((0 : Nat), (12 : Nat), (19 : Nat), (13 : Nat)), ((0 : Nat), (12 : Nat), (23 : Nat), (32 : Nat))], 11, 4, 24)
def mL_back : mM := (yL_back, cL_back, 4, (some .int), [((0 : Nat), (9 : Nat), (12 : Nat), (13 : Nat))], 11, 1, 6)
def mL_past : mM := (yL_past, cL_past, 5, (some .int), [((0 : Nat), (10 : Nat), (13 : Nat), (19 : Nat)), ((0 : Nat), (10 : Nat), (17 : Nat), (13 : Nat))], 11, 2, 12)
def mL_evening : mM := (yL_evening, cL_evening, 5, (some .int), [((0 : Nat), (10 : Nat), (13 : Nat), (13 : Nat)), ((0 : Nat), (10 : Nat), (17 : Nat), (32 : Nat))], 11, 2, 12)
def mL_judge : mM := (yL_judge, cL_judge, 5, (some .int), [((0 : Nat), (10 : Nat), (13 : Nat), (19 : Nat)), ((0 : Nat), (10 : Nat), (17 : Nat), (32 : Nat)), ((0 : Nat), (10 : Nat), (21 : Nat), (13 : Nat))], 11, 3, 18)
def mL_perform : mM := (yL_perform, cL_perform, 4, (some .int), [((0 : Nat), (9 : Nat), (12 : Nat), (19 : Nat)), ((0 : Nat), (9 : Nat), (15 : Nat), (32 : Nat))], 11, 2, 12)
def mL_ants : mM := (yL_ants, cL_ants, 4, (some .int), [((0 : Nat), (9 : Nat), (12 : Nat), (13 : Nat))], 11, 1, 6)
def mL_eaten : mM := (yL_eaten, cL_eaten, 6, (some .int), [((0 : Nat), (12 : Nat), (15 : Nat), (19 : Nat)), ((0 : Nat), (12 : Nat), (19 : Nat), (13 : Nat))], 11, 3, 18)
def mL_lasts : mM := (yL_lasts, cL_lasts, 4, (some .int), [((0 : Nat), (9 : Nat), (12 : Nat), (19 : Nat))], 11, 1, 6)
def mL_lastFace : mM := (yL_lastFace, cL_lastFace, 4, (some .int), [((0 : Nat), (9 : Nat), (12 : Nat), (19 : Nat))], 11, 1, 6)
def mL_rain : mM := (yL_rain, cL_rain, 4, (some .int), [((0 : Nat), (9 : Nat), (12 : Nat), (13 : Nat))], 11, 1, 6)
def mL_fan : mM := (yL_fan, cL_fan, 4, (some .int), [((0 : Nat), (9 : Nat), (12 : Nat), (19 : Nat))], 11, 1, 6)
def mL_whole : mM := (yL_whole, cL_whole, 4, (some .int), [((0 : Nat), (8 : Nat), (11 : Nat), (13 : Nat)), ((0 : Nat), (8 : Nat), (14 : Nat), (32 : Nat))], 11, 2, 12)
def mL_sum : mM := (yL_sum, cL_sum, 5, (some .int), [((0 : Nat), (9 : Nat), (12 : Nat), (13 : Nat)), ((0 : Nat), (9 : Nat), (16 : Nat), (32 : Nat))], 11, 2, 12)
def mL_least : mM := (yL_least, cL_least, 5, (some .int), [((0 : Nat), (9 : Nat), (12 : Nat), (13 : Nat)), ((0 : Nat), (9 : Nat), (16 : Nat), (32 : Nat))], 11, 2, 12)
def mL_alike : mM := (yL_alike, cL_alike, 4, (some .int), [((0 : Nat), (8 : Nat), (11 : Nat), (13 : Nat)), ((0 : Nat), (8 : Nat), (14 : Nat), (32 : Nat))], 11, 2, 12)
def mL_mode : mM := (yL_mode, cL_mode, 4, (some .int), [((0 : Nat), (9 : Nat), (12 : Nat), (13 : Nat)), ((0 : Nat), (9 : Nat), (15 : Nat), (32 : Nat))], 11, 2, 12)
def mL_sums : mM := (yL_sums, cL_sums, 4, (some .int), [((0 : Nat), (9 : Nat), (12 : Nat), (13 : Nat)), ((0 : Nat), (9 : Nat), (15 : Nat), (32 : Nat))], 11, 2, 12)
def mL_mean : mM := (yL_mean, cL_mean, 5, (some .int), [((0 : Nat), (9 : Nat), (12 : Nat), (13 : Nat)), ((0 : Nat), (9 : Nat), (16 : Nat), (32 : Nat))], 11, 3, 18)
def mL_bestSet : mM := (yL_bestSet, cL_bestSet, 5, (some .int), [((0 : Nat), (10 : Nat), (13 : Nat), (13 : Nat))], 11, 1, 6)
def mL_unlike : mM := (yL_unlike, cL_unlike, 4, (some .int), [((0 : Nat), (8 : Nat), (11 : Nat), (13 : Nat)), ((0 : Nat), (8 : Nat), (14 : Nat), (32 : Nat))], 11, 2, 12)
def mL_run : mM := (yL_run, cL_run, 4, (some .int), [((0 : Nat), (8 : Nat), (11 : Nat), (13 : Nat)), ((0 : Nat), (8 : Nat), (14 : Nat), (32 : Nat))], 11, 2, 12)
def mL_cannot : mM := (yL_cannot, cL_cannot, 4, (some .int), [((0 : Nat), (9 : Nat), (12 : Nat), (13 : Nat))], 11, 1, 6)
def mL_once : mM := (yL_once, cL_once, 6, (some .int), [((0 : Nat), (11 : Nat), (14 : Nat), (19 : Nat)), ((0 : Nat), (11 : Nat), (18 : Nat), (13 : Nat)), ((0 : Nat), (11 : Nat), (22 : Nat), (32 : Nat))], 11, 4, 24)
def mL_allFaces : mM := (yL_allFaces, cL_allFaces, 5, (some .int), [((0 : Nat), (9 : Nat), (12 : Nat), (19 : Nat)), ((0 : Nat), (9 : Nat), (16 : Nat), (13 : Nat)), ((0 : Nat), (9 : Nat), (20 : Nat), (32 : Nat))], 11, 3, 18)
def mL_coins : mM := (yL_coins, cL_coins, 7, (some .int), [((0 : Nat), (13 : Nat), (16 : Nat), (19 : Nat)), ((0 : Nat), (13 : Nat), (20 : Nat), (13 : Nat)), ((0 : Nat), (13 : Nat), (24 : Nat), (32 : Nat))], 11, 4, 24)
def mL_beats : mM := (yL_beats, cL_beats, 5, (some .int), [((0 : Nat), (10 : Nat), (13 : Nat), (19 : Nat)), ((0 : Nat), (10 : Nat), (17 : Nat), (32 : Nat))], 11, 4, 24)
def mL_ties : mM := (yL_ties, cL_ties, 5, (some .int), [((0 : Nat), (10 : Nat), (13 : Nat), (19 : Nat)), ((0 : Nat), (10 : Nat), (17 : Nat), (32 : Nat))], 11, 4, 24)
def mL_series : mM := (yL_series, cL_series, 6, (some .int), [((0 : Nat), (11 : Nat), (14 : Nat), (19 : Nat)), ((0 : Nat), (11 : Nat), (18 : Nat), (32 : Nat)), ((0 : Nat), (11 : Nat), (22 : Nat), (13 : Nat))], 11, 5, 30)
def mL_more : mM := (yL_more, cL_more, 6, (some .int), [((0 : Nat), (11 : Nat), (14 : Nat), (19 : Nat)), ((0 : Nat), (11 : Nat), (18 : Nat), (32 : Nat)), ((0 : Nat), (11 : Nat), (22 : Nat), (13 : Nat))], 11, 5, 30)
def mL_stopping : mM := (yL_stopping, cL_stopping, 6, (some .int), [((0 : Nat), (11 : Nat), (14 : Nat), (19 : Nat)), ((0 : Nat), (11 : Nat), (18 : Nat), (32 : Nat)), ((0 : Nat), (11 : Nat), (22 : Nat), (13 : Nat))], 11, 4, 24)
def mL_likelier : mM := (yL_likelier, cL_likelier, 4, (some .int), [((0 : Nat), (9 : Nat), (12 : Nat), (19 : Nat)), ((0 : Nat), (9 : Nat), (15 : Nat), (32 : Nat)), ((0 : Nat), (9 : Nat), (18 : Nat), (13 : Nat))], 11, 3, 18)
def mL_fits : mM := (yL_fits, cL_fits, 4, (some .int), [((0 : Nat), (9 : Nat), (12 : Nat), (19 : Nat)), ((0 : Nat), (9 : Nat), (15 : Nat), (32 : Nat)), ((0 : Nat), (9 : Nat), (18 : Nat), (13 : Nat))], 11, 3, 18)
def mL_worn : mM := (yL_worn, cL_worn, 7, (some .int), [((0 : Nat), (14 : Nat), (17 : Nat), (19 : Nat)), ((0 : Nat), (14 : Nat), (21 : Nat), (32 : Nat)), ((0 : Nat), (14 : Nat), (25 : Nat), (13 : Nat))], 11, 4, 24)
def mL_tally : mM := (yL_tally, cL_tally, 5, (some .int), [((0 : Nat), (10 : Nat), (13 : Nat), (19 : Nat)), ((0 : Nat), (10 : Nat), (17 : Nat), (13 : Nat))], 11, 2, 12)
def mL_streak : mM := (yL_streak, cL_streak, 4, (some .int), [((0 : Nat), (9 : Nat), (12 : Nat), (13 : Nat))], 11, 1, 6)
def mL_off : mM := (yL_off, cL_off, 4, (some .int), [((0 : Nat), (9 : Nat), (12 : Nat), (19 : Nat))], 11, 1, 6)
def mL_tray : mM := (yL_tray, cL_tray, 5, (some .int), [((0 : Nat), (7 : Nat), (10 : Nat), (19 : Nat)), ((0 : Nat), (7 : Nat), (14 : Nat), (13 : Nat))], 11, 2, 12)
def mL_write : mM := (yL_write, cL_write, 7, (some .int), [((0 : Nat), (11 : Nat), (14 : Nat), (19 : Nat)), ((0 : Nat), (11 : Nat), (18 : Nat), (32 : Nat)), ((0 : Nat), (11 : Nat), (22 : Nat), (158 : Nat))], 11, 3, 18)
def mL_pour : mM := (yL_pour, cL_pour, 4, (some .int), [((0 : Nat), (9 : Nat), (12 : Nat), (19 : Nat)), ((0 : Nat), (9 : Nat), (15 : Nat), (32 : Nat))], 11, 2, 12)
def mL_image : mM := (yL_image, cL_image, 3, (some .int), [((0 : Nat), (5 : Nat), (8 : Nat), (19 : Nat))], 11, 5, 2453)
def mL_restore : mM := (yL_restore, cL_restore, 3, (some .int), [((0 : Nat), (5 : Nat), (8 : Nat), (19 : Nat)), ((0 : Nat), (5 : Nat), (11 : Nat), (32 : Nat))], 11, 2, 12)
def mL_law : mM := (yL_law, cL_law, 8, (some .boolean), [], 11, 601024, 7293034)
/-- a class by its number: its name -/
def mNm (k : Nat) : String := match k with
  | 0 => RX0
  | 1 => RX1
  | 2 => RX2
  | 3 => RX3
  | 4 => RX4
  | 5 => RX5
  | 6 => RX6
  | 7 => RX7
  | 8 => RX8
  | 9 => RX9
  | 10 => RX10
  | 11 => RL
  | 12 => RJ6
  | 13 => RJ9
  | 14 => RJ0
  | 15 => RJ1
  | _ => RJ2
def mFt0 : List (Nat × Nat × Nat × Bool) := [(9, 0, 0, false), (24, 2, 1, true)]
def mFt1 : List (Nat × Nat × Nat × Bool) := [(7, 1, 0, false)]
def mFt2 : List (Nat × Nat × Nat × Bool) := [(9, 2, 3, false), (15, 2, 5, false), (19, 2, 6, false), (22, 2, 7, false), (25, 5, 2, true), (30, 2, 0, false), (31, 5, 3, true), (34, 2, 1, false), (35, 5, 4, true), (38, 2, 2, false), (39, 5, 5, true), (40, 2, 4, false), (43, 5, 1, true)]
def mFt3 : List (Nat × Nat × Nat × Bool) := [(9, 3, 0, false), (15, 2, 4, true), (46, 2, 1, true)]
def mFt4 : List (Nat × Nat × Nat × Bool) := [(9, 4, 1, false), (15, 4, 2, false), (18, 4, 3, false), (21, 4, 0, false), (25, 2, 1, true)]
def mFt5 : List (Nat × Nat × Nat × Bool) := [(9, 5, 1, false), (15, 5, 7, false), (19, 5, 0, false), (26, 5, 8, false), (32, 5, 11, false), (35, 5, 6, false), (42, 5, 2, false), (45, 5, 3, false), (48, 5, 4, false), (51, 5, 5, false), (54, 5, 9, false), (74, 5, 12, false), (77, 5, 10, false)]
def mFt6 : List (Nat × Nat × Nat × Bool) := [(9, 6, 0, false), (15, 6, 1, false)]
def mFt7 : List (Nat × Nat × Nat × Bool) := [(9, 7, 0, false), (15, 7, 1, false), (19, 7, 2, false), (23, 7, 3, false)]
def mFt8 : List (Nat × Nat × Nat × Bool) := [(9, 8, 1, false), (15, 8, 2, false), (18, 8, 0, false), (22, 2, 1, true), (28, 7, 3, true)]
def mFt9 : List (Nat × Nat × Nat × Bool) := [(12, 9, 0, false), (21, 9, 1, false), (28, 9, 2, false), (35, 9, 3, false), (44, 9, 4, false), (51, 9, 5, false), (58, 9, 6, false), (65, 9, 7, false), (71, 9, 8, false), (76, 9, 9, false), (88, 6, 1, true), (102, 5, 6, true), (109, 2, 0, true), (112, 5, 7, true), (185, 2, 4, true), (209, 2, 1, true), (212, 2, 2, true), (228, 7, 3, true), (415, 2, 3, true), (462, 7, 1, true)]
def mFt10 : List (Nat × Nat × Nat × Bool) := [(9, 10, 0, false), (13, 10, 1, false), (16, 10, 2, false), (19, 10, 3, false), (22, 10, 4, false), (26, 10, 6, false), (29, 10, 16, false), (33, 10, 18, false), (36, 10, 19, false), (40, 10, 20, false), (43, 10, 21, false), (46, 10, 22, false), (49, 10, 23, false), (52, 10, 24, false), (55, 10, 25, false), (58, 10, 26, false), (65, 10, 5, false), (68, 10, 7, false), (71, 10, 8, false), (74, 10, 9, false), (77, 10, 10, false), (80, 10, 11, false), (94, 10, 12, false), (97, 10, 13, false), (100, 10, 14, false), (154, 10, 15, false), (198, 10, 17, false)]
def mFt11 : List (Nat × Nat × Nat × Bool) := []
/-- fields: index, the class, the place, whether a nest mate's -/
def mFt (k : Nat) : List (Nat × Nat × Nat × Bool) := match k with
  | 0 => mFt0
  | 1 => mFt1
  | 2 => mFt2
  | 3 => mFt3
  | 4 => mFt4
  | 5 => mFt5
  | 6 => mFt6
  | 7 => mFt7
  | 8 => mFt8
  | 9 => mFt9
  | 10 => mFt10
  | 11 => mFt11
  | _ => []
def mMt0 : List (Nat × Nat × Nat × mM) := [(15, 1, 2, mX2_weight), (21, 0, 2, mX0_waysToBeat), (28, 0, 1, mX0_weakerOnes), (32, 1, 1, mX2_isGone), (36, 0, 2, mX0_isBetter), (40, 1, 1, mX2_total), (43, 12, 1, mJ9_abs_0f7a4), (3, 6, 0, mX0_init)]
def mMt1 : List (Nat × Nat × Nat × mM) := [(1, 6, 0, mX0_init)]
def mMt2 : List (Nat × Nat × Nat × mM) := [(50, 0, 2, mX2_weight), (54, 0, 1, mX2_total), (58, 0, 1, mX2_isGone), (62, 0, 1, mX2_hasDie), (65, 0, 1, mX2_hasHand), (72, 0, 1, mX2_isSalt), (80, 0, 0, mX2_hasRoomForThrow), (86, 0, 3, mX2_whyNot), (90, 0, 3, mX2_throwFace), (94, 0, 1, mX2_heat), (97, 0, 3, mX2_wear), (100, 0, 1, mX2_toldThrow), (103, 0, 1, mX2_faceForAnts), (109, 1, 0, mX1_draw), (115, 0, 2, mX2_dieLeft), (44, 7, 5, mX0_init), (68, 3, 1, mX9_isFace), (75, 10, 2, mJ9_min_7cf53), (106, 11, 2, mJ9_max_7cf53), (3, 6, 0, mX0_init)]
def mMt3 : List (Nat × Nat × Nat × mM) := [(21, 1, 1, mX2_dieOfThrow), (25, 1, 1, mX2_handOfThrow), (28, 1, 1, mX2_faceOfThrow), (37, 0, 1, mX3_throwsOfDie), (40, 0, 2, mX3_timesShown), (49, 0, 1, mX3_howFarOff), (31, 11, 2, mJ9_max_7cf53), (43, 12, 1, mJ9_abs_0f7a4), (3, 6, 0, mX0_init)]
def mMt4 : List (Nat × Nat × Nat × mM) := [(35, 1, 1, mX2_total), (39, 0, 1, mX4_countSums), (49, 1, 2, mX2_weight), (52, 0, 1, mX4_wholeOf), (61, 0, 2, mX4_waysOfSumOrMore), (69, 0, 2, mX4_addToFaceSets), (77, 0, 3, mX4_countThrows), (84, 0, 2, mX4_bestByStopping), (91, 0, 2, mX4_addToSums), (31, 2, 2, mX4_isIn), (43, 11, 2, mJ9_max_7cf53), (56, 2, 1, mJ6_bitCount_0f7a4), (65, 2, 1, mX4_begin), (73, 2, 1, mX4_isWithoutGap), (81, 13, 2, mJ9_max_f86c9), (87, 3, 2, mX9_power), (3, 6, 0, mX0_init)]
def mMt5 : List (Nat × Nat × Nat × mM) := [(23, 0, 0, mX5_clear), (29, 0, 0, mX5_nextToken), (38, 0, 0, mX5_readsLine), (57, 0, 0, mX5_readsDie), (60, 0, 0, mX5_readsHand), (63, 0, 0, mX5_readsAnts), (66, 0, 1, mX5_isFaulty), (70, 0, 2, mX5_readsNumber), (80, 1, 1, mX6_byteAt), (92, 0, 0, mX5_nextNumber), (98, 0, 0, mX5_nextWord), (103, 0, 1, mX5_isWord), (113, 9, 0, mJ0_length_8abf5), (118, 9, 1, mJ0_charAt_5068e), (86, 2, 1, mX5_isBlank), (89, 2, 1, mX5_isDigit), (95, 2, 1, mX5_isLetter), (3, 6, 0, mX0_init)]
def mMt6 : List (Nat × Nat × Nat × mM) := [(3, 6, 0, mX0_init)]
def mMt7 : List (Nat × Nat × Nat × mM) := [(26, 0, 1, mX7_cut), (30, 0, 1, mX7_number), (34, 3, 1, mX9_isFace), (3, 6, 0, mX0_init)]
def mMt8 : List (Nat × Nat × Nat × mM) := [(33, 1, 1, mX7_face), (37, 1, 2, mX2_weight), (41, 1, 1, mX2_total), (48, 0, 3, mX8_totalBehind), (52, 0, 1, mX8_begin), (56, 1, 1, mX2_hasHand), (60, 1, 1, mX2_isSalt), (68, 1, 1, mX2_heat), (44, 3, 2, mX9_power), (63, 10, 2, mJ9_min_7cf53), (3, 6, 0, mX0_init)]
def mMt9 : List (Nat × Nat × Nat × mM) := [(80, 1, 0, mX6_hasRoomForFeed), (84, 1, 1, mX6_put), (99, 1, 1, mX5_read), (105, 1, 1, mX2_begin), (115, 0, 1, mX9_needDie), (118, 0, 3, mX9_needWhat), (122, 1, 1, mX2_total), (126, 1, 1, mX2_isSalt), (130, 1, 1, mX2_isGone), (133, 1, 1, mX3_throwsOfDie), (136, 1, 2, mX2_weight), (140, 0, 1, mX9_needHand), (143, 1, 1, mX2_heat), (146, 1, 1, mX2_dieByLot), (149, 1, 1, mX3_throwsOfHand), (152, 1, 1, mX2_makeSalt), (155, 0, 1, mX9_needNotGone), (158, 0, 0, mX9_needRoomForThrow), (161, 1, 1, mX1_begin), (163, 1, 0, mX1_draw), (167, 1, 2, mX2_faceByDraw), (170, 1, 3, mX2_throwFace), (173, 0, 1, mX9_needFace), (176, 1, 3, mX2_whyNot), (190, 1, 1, mX2_undo), (198, 1, 1, mX2_dieOfThrow), (201, 1, 1, mX2_handOfThrow), (204, 1, 1, mX2_faceOfThrow), (217, 1, 0, mX2_hasRoomForThrow), (220, 0, 1, mX9_neededTray), (224, 0, 1, mX9_throwTold), (231, 1, 1, mX7_number), (235, 1, 1, mX2_whyNotTold), (239, 1, 0, mX2_allTotals), (242, 0, 2, mX9_needMinutes), (246, 1, 2, mX2_feedAnts), (249, 1, 3, mX2_weightAfterAnts), (252, 1, 1, mX2_lastFaceForAnts), (257, 1, 3, mX2_wear), (260, 1, 1, mX2_cool), (263, 1, 1, mX2_drawLots), (267, 0, 1, mX9_needSetNotGone), (270, 1, 1, mX4_wholeOf), (273, 1, 2, mX4_waysOfSum), (277, 1, 2, mX4_waysOfSumOrMore), (280, 1, 1, mX4_waysOfOneFace), (283, 1, 1, mX4_likeliestSum), (286, 1, 1, mX4_possibleSums), (289, 0, 1, mX9_needSet), (292, 0, 1, mX9_needNoneGone), (297, 1, 1, mX4_allSumsWeighed), (300, 0, 1, mX9_needOneToThree), (303, 1, 2, mX4_bestSetFor), (306, 1, 2, mX4_waysOfUnlikeFaces), (310, 0, 2, mX9_needThrowsUpToEight), (317, 1, 2, mX4_waysOfEveryFace), (326, 0, 2, mX9_needTwoDice), (329, 1, 2, mX0_waysToBeat), (332, 1, 2, mX0_waysToTie), (335, 1, 0, mX0_strongestDie), (338, 1, 1, mX0_ringAt), (345, 1, 3, mX4_waysOfMore), (349, 1, 0, mX0_evenestTwo), (354, 1, 2, mX4_leastFaceToStop), (357, 1, 2, mX4_bestByStopping), (360, 0, 1, mX9_needFaces), (364, 1, 1, mX8_likeliestDie), (367, 1, 1, mX8_rowsOfDice), (370, 1, 4, mX8_rowOfHands), (374, 1, 2, mX3_timesShown), (377, 1, 1, mX3_longestRow), (380, 1, 1, mX3_howFarOff), (383, 1, 0, mX3_farthestOff), (386, 0, 1, mX9_anyTray), (391, 1, 2, mX7_lay), (399, 1, 2, mX7_put), (407, 0, 1, mX9_needImagePlace), (410, 1, 1, mX2_copyFrom), (418, 1, 0, mX2_goneDice), (421, 1, 1, mX2_hasDie), (426, 1, 1, mX2_hasHand), (453, 1, 0, mX7_holdsToldFaces), (468, 1, 1, mX2_throwToldOne), (313, 2, 2, mX9_power), (322, 2, 5, mX9_waysToGoal), (341, 2, 5, mX9_waysToLead), (402, 10, 2, mJ9_min_7cf53), (435, 2, 1, mX9_isFace), (3, 6, 0, mX0_init), (11, 5, 0, mX6_init), (18, 5, 1, mX5_init), (27, 5, 0, mX2_init), (34, 5, 0, mX1_init), (41, 5, 1, mX4_init), (50, 5, 1, mX0_init), (57, 5, 1, mX8_init), (64, 5, 1, mX3_init), (75, 5, 0, mX7_init)]
def mMt10 : List (Nat × Nat × Nat × mM) := [(87, 0, 1, mX10_see), (103, 9, 0, mJ0_length_8abf5), (108, 9, 1, mJ0_charAt_5068e), (112, 0, 1, mX10_isWord), (116, 0, 0, mX10_reads), (119, 0, 1, mX10_blames), (127, 0, 2, mX10_number), (133, 0, 1, mX10_took), (138, 0, 0, mX10_readDie), (143, 0, 0, mX10_readHand), (148, 0, 1, mX10_fails), (151, 0, 0, mX10_readLine), (157, 0, 0, mX10_dice), (160, 0, 0, mX10_hands), (165, 0, 2, mX10_weight), (168, 0, 1, mX10_total), (171, 0, 0, mX10_throwsNow), (174, 0, 2, mX10_pastOf), (177, 0, 1, mX10_isDie), (183, 0, 1, mX10_isSalt), (186, 0, 1, mX10_isGone), (189, 0, 2, mX10_times), (192, 0, 1, mX10_isHand), (209, 0, 1, mX10_draw), (212, 0, 2, mX10_faceBy), (215, 0, 3, mX10_goes), (229, 0, 1, mX10_whyTold), (233, 0, 1, mX10_trayFault), (240, 0, 1, mX10_goesBy), (243, 0, 0, mX10_totals), (246, 0, 1, mX10_eatenNext), (251, 0, 1, mX10_eats), (254, 0, 1, mX10_laysRow), (257, 0, 1, mX10_putsRow), (266, 0, 1, mX10_laysWays), (269, 0, 1, mX10_setFault), (272, 0, 1, mX10_all), (278, 0, 2, mX10_atLeast), (282, 0, 1, mX10_laysUnlike), (288, 0, 2, mX10_unlikeOf), (305, 0, 2, mX10_twoFault), (308, 0, 2, mX10_beatsOf), (311, 0, 2, mX10_tiesOf), (314, 0, 2, mX10_isBetter), (317, 0, 3, mX10_isRing), (321, 0, 5, mX10_games), (325, 0, 4, mX10_moreOf), (337, 0, 1, mX10_facesFault), (340, 0, 2, mX10_faceTold), (343, 0, 4, mX10_wears), (347, 0, 1, mX10_offOf), (350, 0, 3, mX10_cut), (61, 2, 1, mX10_begins), (83, 2, 1, mX10_isLetter), (91, 2, 1, mX10_isDigit), (123, 2, 3, mX10_within), (201, 11, 2, mJ9_max_7cf53), (206, 10, 2, mJ9_min_7cf53), (219, 2, 1, mX10_isFace), (224, 2, 1, mX10_isTray), (236, 2, 2, mX10_copies), (262, 2, 2, mX10_has), (285, 2, 1, mX10_isRow), (294, 2, 2, mX10_power), (302, 2, 1, mX10_size), (329, 12, 1, mJ9_abs_0f7a4), (334, 13, 2, mJ9_max_f86c9), (1, 6, 0, mX0_init)]
def mMt11 : List (Nat × Nat × Nat × mM) := [(7, 0, 1, mX9_table), (15, 0, 2, mX9_die), (21, 0, 2, mX9_hand), (24, 0, 1, mX9_salts), (28, 0, 3, mX9_cast), (34, 0, 3, mX9_shows), (37, 0, 1, mX9_back), (40, 0, 2, mX9_past), (43, 0, 2, mX9_evening), (46, 0, 2, mX9_judge), (49, 0, 1, mX9_perform), (52, 0, 1, mX9_ants), (55, 0, 3, mX9_eaten), (58, 0, 1, mX9_lasts), (61, 0, 1, mX9_lastFace), (64, 0, 1, mX9_rain), (67, 0, 1, mX9_fan), (70, 0, 1, mX9_whole), (74, 0, 2, mX9_sum), (78, 0, 2, mX9_least), (81, 0, 1, mX9_alike), (84, 0, 1, mX9_mode), (87, 0, 1, mX9_sums), (90, 0, 2, mX9_mean), (93, 0, 2, mX9_bestSet), (96, 0, 1, mX9_unlike), (99, 0, 1, mX9_run), (102, 0, 1, mX9_cannot), (105, 0, 3, mX9_once), (109, 0, 2, mX9_allFaces), (112, 0, 4, mX9_coins), (116, 0, 2, mX9_beats), (119, 0, 2, mX9_ties), (122, 0, 3, mX9_series), (125, 0, 3, mX9_more), (128, 0, 3, mX9_stopping), (131, 0, 1, mX9_likelier), (134, 0, 1, mX9_fits), (137, 0, 4, mX9_worn), (141, 0, 2, mX9_tally), (144, 0, 1, mX9_streak), (147, 0, 1, mX9_off), (150, 0, 3, mX9_tray), (154, 0, 3, mX9_write), (160, 0, 1, mX9_pour), (163, 0, 1, mX9_image), (167, 0, 1, mX9_restore), (174, 0, 5, mX9_feed), (178, 0, 5, mX10_feed), (184, 0, 1, mX10_table), (185, 0, 0, mX10_thrown), (189, 0, 1, mX9_fault), (192, 0, 1, mX10_fault), (196, 0, 2, mX10_die), (199, 0, 2, mX10_hand), (202, 0, 1, mX10_salts), (206, 0, 3, mX10_cast), (209, 0, 3, mX10_shows), (212, 0, 1, mX10_back), (215, 0, 2, mX10_past), (218, 0, 2, mX10_evening), (221, 0, 2, mX10_judge), (224, 0, 1, mX10_perform), (227, 0, 1, mX10_ants), (230, 0, 3, mX10_eaten), (233, 0, 1, mX10_lasts), (236, 0, 1, mX10_lastFace), (239, 0, 1, mX10_rain), (242, 0, 1, mX10_fan), (243, 0, 1, mX9_lot), (246, 0, 1, mX10_lot), (249, 0, 1, mX10_whole), (252, 0, 2, mX10_sum), (255, 0, 2, mX10_least), (258, 0, 1, mX10_alike), (261, 0, 1, mX10_mode), (264, 0, 1, mX10_sums), (267, 0, 2, mX10_mean), (270, 0, 2, mX10_bestSet), (273, 0, 1, mX10_unlike), (276, 0, 1, mX10_run), (279, 0, 1, mX10_cannot), (282, 0, 3, mX10_once), (285, 0, 2, mX10_allFaces), (289, 0, 4, mX10_coins), (292, 0, 2, mX10_beats), (295, 0, 2, mX10_ties), (296, 0, 0, mX9_strongest), (299, 0, 0, mX10_strongest), (300, 0, 1, mX9_ring), (303, 0, 1, mX10_ring), (306, 0, 3, mX10_series), (309, 0, 3, mX10_more), (310, 0, 0, mX9_evenest), (313, 0, 0, mX10_evenest), (316, 0, 3, mX10_stopping), (319, 0, 1, mX10_likelier), (322, 0, 1, mX10_fits), (325, 0, 4, mX10_worn), (328, 0, 2, mX10_tally), (331, 0, 1, mX10_streak), (334, 0, 1, mX10_off), (335, 0, 0, mX9_loaded), (338, 0, 0, mX10_loaded), (342, 0, 3, mX10_tray), (348, 0, 3, mX10_write), (351, 0, 1, mX10_pour), (355, 0, 1, mX10_image), (358, 0, 1, mX10_restore), (359, 0, 1, mX9_count), (362, 0, 1, mX10_count), (179, 8, 3, mL_table), (193, 8, 4, mL_die), (197, 8, 4, mL_hand), (200, 8, 3, mL_salts), (203, 8, 5, mL_cast), (207, 8, 5, mL_shows), (210, 8, 3, mL_back), (213, 8, 4, mL_past), (216, 8, 4, mL_evening), (219, 8, 4, mL_judge), (222, 8, 3, mL_perform), (225, 8, 3, mL_ants), (228, 8, 5, mL_eaten), (231, 8, 3, mL_lasts), (234, 8, 3, mL_lastFace), (237, 8, 3, mL_rain), (240, 8, 3, mL_fan), (247, 8, 3, mL_whole), (250, 8, 4, mL_sum), (253, 8, 4, mL_least), (256, 8, 3, mL_alike), (259, 8, 3, mL_mode), (262, 8, 3, mL_sums), (265, 8, 4, mL_mean), (268, 8, 4, mL_bestSet), (271, 8, 3, mL_unlike), (274, 8, 3, mL_run), (277, 8, 3, mL_cannot), (280, 8, 5, mL_once), (283, 8, 4, mL_allFaces), (286, 8, 6, mL_coins), (290, 8, 4, mL_beats), (293, 8, 4, mL_ties), (304, 8, 5, mL_series), (307, 8, 5, mL_more), (314, 8, 5, mL_stopping), (317, 8, 3, mL_likelier), (320, 8, 3, mL_fits), (323, 8, 6, mL_worn), (326, 8, 4, mL_tally), (329, 8, 3, mL_streak), (332, 8, 3, mL_off), (339, 8, 4, mL_tray), (345, 8, 5, mL_write), (349, 8, 3, mL_pour), (352, 8, 2, mL_image), (356, 8, 2, mL_restore), (170, 4, 0, mX9_init), (173, 4, 0, mX10_init)]
def mMt (k : Nat) : List (Nat × Nat × Nat × mM) := match k with
  | 0 => mMt0
  | 1 => mMt1
  | 2 => mMt2
  | 3 => mMt3
  | 4 => mMt4
  | 5 => mMt5
  | 6 => mMt6
  | 7 => mMt7
  | 8 => mMt8
  | 9 => mMt9
  | 10 => mMt10
  | 11 => mMt11
  | _ => []
def mCt0 : List (Nat × Nat) := []
def mXt0 : List (Nat × Nat × Nat) := []
def mCt1 : List (Nat × Nat) := []
def mXt1 : List (Nat × Nat × Nat) := []
def mCt2 : List (Nat × Nat) := []
def mXt2 : List (Nat × Nat × Nat) := []
def mCt3 : List (Nat × Nat) := []
def mXt3 : List (Nat × Nat × Nat) := []
def mCt4 : List (Nat × Nat) := []
def mXt4 : List (Nat × Nat × Nat) := []
def mCt5 : List (Nat × Nat) := []
def mXt5 : List (Nat × Nat × Nat) := []
def mCt6 : List (Nat × Nat) := []
def mXt6 : List (Nat × Nat × Nat) := []
def mCt7 : List (Nat × Nat) := []
def mXt7 : List (Nat × Nat × Nat) := []
def mCt8 : List (Nat × Nat) := []
def mXt8 : List (Nat × Nat × Nat) := []
def mCt9 : List (Nat × Nat) := [(9, 6), (16, 5), (25, 2), (32, 1), (39, 4), (48, 0), (55, 8), (62, 3), (69, 7)]
def mXt9 : List (Nat × Nat × Nat) := [(92, 0, 96), (180, 2, 184), (193, 1, 197), (394, 3, 398)]
def mCt10 : List (Nat × Nat) := []
def mXt10 : List (Nat × Nat × Nat) := []
def mCt11 : List (Nat × Nat) := [(8, 9), (171, 10)]
def mXt11 : List (Nat × Nat × Nat) := []
def mCt (k : Nat) : List (Nat × Nat) := match k with
  | 0 => mCt0
  | 1 => mCt1
  | 2 => mCt2
  | 3 => mCt3
  | 4 => mCt4
  | 5 => mCt5
  | 6 => mCt6
  | 7 => mCt7
  | 8 => mCt8
  | 9 => mCt9
  | 10 => mCt10
  | 11 => mCt11
  | _ => []
def mXt (k : Nat) : List (Nat × Nat × Nat) := match k with
  | 0 => mXt0
  | 1 => mXt1
  | 2 => mXt2
  | 3 => mXt3
  | 4 => mXt4
  | 5 => mXt5
  | 6 => mXt6
  | 7 => mXt7
  | 8 => mXt8
  | 9 => mXt9
  | 10 => mXt10
  | 11 => mXt11
  | _ => []
def mKi (k : Nat) : List (Nat × Int32) := match k with
  | 1 => [(13, 1103515245)]
  | 10 => [(197, 1103515245)]
  | 12 => [(265, 1431655765), (266, 858993459), (267, 252645135)]
  | _ => []
def mKl (k : Nat) : List (Nat × Int64) := match k with
  | 2 => [(84, lN 500)]
  | 9 => [(471, lN 6), (295, -1)]
  | 10 => [(181, lN 10), (195, lN 2), (163, lN 6), (222, lN 40), (300, lN 3), (227, lN 100), (249, lN 99), (260, lN 20), (276, lN 30), (292, lN 8), (298, lN 9), (332, lN 5)]
  | 11 => [(343, lN 4294967295)]
  | _ => []
def mSt (k : Nat) : List (Nat × String × Nat) := match k with
  | 5 => [(101, "die", 0), (107, "salt", 1), (109, "hand", 2), (111, "ants", 3)]
  | 9 => [(94, "the tape has not so many bytes", 200), (424, "no such die", 201), (441, "another what", 202), (429, "no such hand", 203), (431, "the die is gone", 204), (433, "there are 60 throws", 205), (439, "no face", 206), (182, "it can't be thrown so", 207), (188, "there are not so many throws", 208), (195, "no such throw", 209), (207, "times aren't 1 to 40", 210), (215, "no dice or no hands", 211), (460, "no such tray", 212), (466, "the tray is missing", 213), (443, "not so many minutes", 214), (255, "rain isn't 1 to 20", 215), (449, "a set with others than the dice", 216), (451, "a die of the set is gone", 217), (447, "it isn't 1 to 3", 218), (445, "not so many throws", 219), (320, "not such coins, not such a goal", 220), (352, "throws aren't 1 to 5", 221), (456, "not 1 to 5 numbers, or one is no face", 222), (389, "no such sort, or not so many", 223), (396, "the tray has no such place", 224), (458, "no such image", 225), (413, "no image was made", 226)]
  | 10 => [(136, "die", 0), (131, "salt", 1), (141, "hand", 2), (146, "ants", 3)]
  | _ => []
/-- the law's catch types -/
def mHt : List (Nat × Nat) := [(13, 0), (19, 1), (32, 2), (158, 3)]
end
section
/-! rows for fields and arrays -/
def mLk {α : Type} : List (Nat × α) → Nat → Option α
  | [], _ => none
  | q :: r, i => if q.1 = i then some q.2 else mLk r i
theorem mLk_mem {α : Type} {l : List (Nat × α)} {i : Nat} {a : α} (h : mLk l i = some a) : (i, a) ∈ l := by
  induction l with
  | nil => cases h
  | cons q r ih =>
    simp only [mLk] at h
    split at h
    · rename_i hq
      cases h
      subst hq
      exact List.mem_cons_self
    · exact List.mem_cons_of_mem _ (ih h)
def mTy (k : Nat) : Nat → FieldType := match k with
  | 0 => tyX0
  | 1 => tyX1
  | 2 => tyX2
  | 3 => tyX3
  | 4 => tyX4
  | 5 => tyX5
  | 6 => tyX6
  | 7 => tyX7
  | 8 => tyX8
  | 9 => tyX9
  | _ => tyX10
/-- a class of the worlds: its words stand in the tables, its fields' types, their names differ -/
def mClsOk (ci : Nat) (r : vw_C) : Prop := (∀ w ∈ u_ws r.1 r.2.1 r.2.2, w ∈ lw_tbl ∧ mOk w = true) ∧ (∀ k, k < r.2.2 → parseFieldDescriptor (r.2.1 k).2.2.1 = some (mTy ci k)) ∧ (∀ a, a < r.2.2 → ∀ b, b < r.2.2 → a ≠ b → (r.2.1 a).2.1 ≠ (r.2.1 b).2.1) ∧ r.1 = mNm ci
theorem mCls0 : mClsOk 0 (RX0, TX0, 1) := ⟨by decide +kernel, tyX0_ok, nmX0, rfl⟩
theorem mCls1 : mClsOk 1 (RX1, TX1, 1) := ⟨by decide +kernel, tyX1_ok, nmX1, rfl⟩
theorem mCls2 : mClsOk 2 (RX2, TX2, 8) := ⟨by decide +kernel, tyX2_ok, nmX2, rfl⟩
theorem mCls3 : mClsOk 3 (RX3, TX3, 1) := ⟨by decide +kernel, tyX3_ok, nmX3, rfl⟩
theorem mCls4 : mClsOk 4 (RX4, TX4, 4) := ⟨by decide +kernel, tyX4_ok, nmX4, rfl⟩
theorem mCls5 : mClsOk 5 (RX5, TX5, 13) := ⟨by decide +kernel, tyX5_ok, nmX5, rfl⟩
theorem mCls6 : mClsOk 6 (RX6, TX6, 2) := ⟨by decide +kernel, tyX6_ok, nmX6, rfl⟩
theorem mCls7 : mClsOk 7 (RX7, TX7, 4) := ⟨by decide +kernel, tyX7_ok, nmX7, rfl⟩
theorem mCls8 : mClsOk 8 (RX8, TX8, 3) := ⟨by decide +kernel, tyX8_ok, nmX8, rfl⟩
theorem mCls9 : mClsOk 9 (RX9, TX9, 10) := ⟨by decide +kernel, tyX9_ok, nmX9, rfl⟩
theorem mCls10 : mClsOk 10 (RX10, TX10, 27) := ⟨by decide +kernel, tyX10_ok, nmX10, rfl⟩
theorem mCls {ci : Nat} {r : vw_C} (h : vwCl[ci]? = some r) : mClsOk ci r := by
  match ci, h with
  | 0, h => cases h; exact mCls0
  | 1, h => cases h; exact mCls1
  | 2, h => cases h; exact mCls2
  | 3, h => cases h; exact mCls3
  | 4, h => cases h; exact mCls4
  | 5, h => cases h; exact mCls5
  | 6, h => cases h; exact mCls6
  | 7, h => cases h; exact mCls7
  | 8, h => cases h; exact mCls8
  | 9, h => cases h; exact mCls9
  | 10, h => cases h; exact mCls10
  | k + 11, h => simp [vwCl] at h
def mFw (oc : Nat) (q : Nat × Nat × Nat × Bool) : Bool := match vwCl[q.2.1]? with
  | some r => decide (q.2.2.1 < r.2.2) && decide ((bif q.2.2.2 then Cond.fieldLinkNest (mNm oc) q.1 (r.2.1 q.2.2.1).1 (r.2.1 q.2.2.1).2.1 (r.2.1 q.2.2.1).2.2.1 "SugarDice" else Cond.fieldLink (mNm oc) q.1 (r.2.1 q.2.2.1).1 (r.2.1 q.2.2.1).2.1 (r.2.1 q.2.2.1).2.2.1) ∈ lw_tbl)
  | none => false
theorem mFt_ok0 : ∀ q ∈ mFt0, mFw 0 q = true := by decide +kernel
theorem mFt_ok1 : ∀ q ∈ mFt1, mFw 1 q = true := by decide +kernel
theorem mFt_ok2 : ∀ q ∈ mFt2, mFw 2 q = true := by decide +kernel
theorem mFt_ok3 : ∀ q ∈ mFt3, mFw 3 q = true := by decide +kernel
theorem mFt_ok4 : ∀ q ∈ mFt4, mFw 4 q = true := by decide +kernel
theorem mFt_ok5 : ∀ q ∈ mFt5, mFw 5 q = true := by decide +kernel
theorem mFt_ok6 : ∀ q ∈ mFt6, mFw 6 q = true := by decide +kernel
theorem mFt_ok7 : ∀ q ∈ mFt7, mFw 7 q = true := by decide +kernel
theorem mFt_ok8 : ∀ q ∈ mFt8, mFw 8 q = true := by decide +kernel
theorem mFt_ok9 : ∀ q ∈ mFt9, mFw 9 q = true := by decide +kernel
theorem mFt_ok10 : ∀ q ∈ mFt10, mFw 10 q = true := by decide +kernel
theorem mFt_ok11 : ∀ q ∈ mFt11, mFw 11 q = true := by decide +kernel
theorem mFt_ok {oc : Nat} : ∀ q ∈ mFt oc, mFw oc q = true := by
  match oc with
  | 0 => exact mFt_ok0
  | 1 => exact mFt_ok1
  | 2 => exact mFt_ok2
  | 3 => exact mFt_ok3
  | 4 => exact mFt_ok4
  | 5 => exact mFt_ok5
  | 6 => exact mFt_ok6
  | 7 => exact mFt_ok7
  | 8 => exact mFt_ok8
  | 9 => exact mFt_ok9
  | 10 => exact mFt_ok10
  | 11 => exact mFt_ok11
  | k + 12 => intro q hq; cases hq
def mFit (ty : FieldType) (v : Value) : Bool := (match ty with
  | .byte => false
  | .char => false
  | .short => false
  | _ => true) && fits ty v
theorem mFit_ok {ty : FieldType} {v : Value} (ad : Nat → Nat) (h : mFit ty v = true) : narrow ty (mV ad v) = mV ad v ∧ fits ty (mV ad v) = true := by
  simp only [mFit, Bool.and_eq_true] at h
  obtain ⟨h1, h2⟩ := h
  cases ty <;> cases v <;> simp_all [fits, mV]
  all_goals first
    | rfl
    | (rcases h2 with h2 | h2 <;> subst h2 <;> decide)
section mHp
variable {X : mX} {M : mM} {d : Nat} {Q : mO → mH → Prop} {pc : Nat} {L : List (Option Value)} {st : List Value} {h : mH} {bc bs : Nat}
theorem mTlk {dA : Nat → ClassId} {t : Nat} {ty : FieldType} (h : ([.int, .long, .byte, .boolean, .object "SugarDice$Tray", .object "SugarDice$Game"] : List FieldType)[t]? = some ty) : (mT dA)[t]? = some (dA t, ty) := by
  match t, h with
  | 0, h => cases h; rfl
  | 1, h => cases h; rfl
  | 2, h => cases h; rfl
  | 3, h => cases h; rfl
  | 4, h => cases h; rfl
  | 5, h => cases h; rfl
  | k + 6, h => simp at h
theorem wp_get {k ci j idx : Nat} {nest : Bool} {fs : List Value} {v : Value} (hn : mNm M.2.2.2.2.2.1 = M.1.cls) (hd : decode M.2.1 pc = .ok (.getfield idx, 3)) (hf : mLk (mFt M.2.2.2.2.2.1) idx = some (ci, j, nest)) (hk : h[k]? = some (.inr (ci, fs))) (hv : fs[j]? = some v)
    (kk : mWP X M d Q (pc + 3) L (v :: st) h bc bs) : mWP X M d Q pc L (.ref k :: st) h bc bs := by
  intro p e R s m args below meth c H locs cells slots ad a0 n0 ls F G hl
  have hw := mFt_ok _ (mLk_mem hf)
  simp only [mFw] at hw
  split at hw
  · rename_i r hr
    simp only [Bool.and_eq_true, decide_eq_true_eq] at hw
    obtain ⟨hj, hw⟩ := hw
    have hE := F.2.2.2.2.2.2.2.2.1
    have hC := mCls hr
    have hts : ∀ w ∈ u_ws r.1 r.2.1 r.2.2, w.before args s = true := fun w hw => hE.word (hC.1 w hw).1 (hC.1 w hw).2
    have he := mW_at (ad := ad) (dA := X.2.2.1) hk
    have hv' : (fs.map (mV ad))[j]? = some (mV ad v) := by rw [List.getElem?_map, hv]; rfl
    have ho : s.vm.findClass (mNm M.2.2.2.2.2.1) = some m.cls := by rw [hn]; exact F.2.2.2.1
    cases nest with
    | true => exact va_getN (D := X.2.1) (cl := vwCl) (tys := mT X.2.2.1) (C := r.1) (T := r.2.1) (N := r.2.2) F.1 F.2.1 hts (fun w h => h) ho hE.2.1 G.1.1 k he hr j hj (hE.word hw rfl) (fun x h => h) hv' hd (kk p e R s m args below meth c H locs cells slots ad a0 n0 ls F G hl)
    | false => exact va_get (D := X.2.1) (cl := vwCl) (tys := mT X.2.2.1) (C := r.1) (T := r.2.1) (N := r.2.2) F.1 F.2.1 hts (fun w h => h) ho hE.2.1 G.1.1 k he hr j hj (hE.word hw rfl) (fun x h => h) hv' hd (kk p e R s m args below meth c H locs cells slots ad a0 n0 ls F G hl)
  · cases hw
theorem mG.set {R : Room} {s : State} {H H1 : Heap} {locs locs1 : List Loc} {cells slots k n0 : Nat} {ad a0 : Nat → Nat} {e : mE} (G : mG X h bc bs R s H locs cells slots ad a0 n0) (hP : va_P X.2.1 vwCl ((mW ad X.2.2.1 h).set k (ad k, mC ad X.2.2.1 e)) H1) (hD : va_D (mB X) ((mW ad X.2.2.1 h).set k (ad k, mC ad X.2.2.1 e))) (hS : va_S (mB X) s.heap H1 locs1) : mG X (h.set k e) bc bs R s H1 locs1 cells slots ad a0 n0 := by
  rw [mW_set] at hP hD
  exact ⟨⟨hP, hD, G.1.2.2⟩, hS, G.2.2.1, by rw [List.length_set]; exact G.2.2.2.1, G.2.2.2.2.1, G.2.2.2.2.2⟩
theorem wp_put {k ci j idx : Nat} {nest : Bool} {fs : List Value} {v : Value} {r : vw_C} (hn : mNm M.2.2.2.2.2.1 = M.1.cls) (hd : decode M.2.1 pc = .ok (.putfield idx, 3)) (hf : mLk (mFt M.2.2.2.2.2.1) idx = some (ci, j, nest)) (hk : h[k]? = some (.inr (ci, fs))) (hj : j < fs.length) (hr : vwCl[ci]? = some r) (hfin : (r.2.1 j).2.2.2 = false ∨ ((r.2.1 j).2.2.2 = true ∧ M.1.name = "<init>" ∧ (r.2.1 j).1 = mNm M.2.2.2.2.2.1 ∧ nest = false)) (hfit : mFit (mTy ci j) v = true)
    (kk : mWP X M d Q (pc + 3) L st (h.set k (.inr (ci, fs.set j v))) bc bs) : mWP X M d Q pc L (v :: .ref k :: st) h bc bs := by
  intro p e R s m args below meth c H locs cells slots ad a0 n0 ls F G hl
  have hw := mFt_ok _ (mLk_mem hf)
  simp only [mFw] at hw
  rw [hr] at hw
  simp only [Bool.and_eq_true, decide_eq_true_eq] at hw
  obtain ⟨hj2, hw⟩ := hw
  have hE := F.2.2.2.2.2.2.2.2.1
  have hC := mCls hr
  have hts : ∀ w ∈ u_ws r.1 r.2.1 r.2.2, w.before args s = true := fun w hw => hE.word (hC.1 w hw).1 (hC.1 w hw).2
  have he := mW_at (ad := ad) (dA := X.2.2.1) hk
  have ho : s.vm.findClass (mNm M.2.2.2.2.2.1) = some m.cls := by rw [hn]; exact F.2.2.2.1
  have hq := mFit_ok ad hfit
  have e1 : ((fs.map (mV ad)).set j (mV ad v)) = (fs.set j v).map (mV ad) := by rw [List.map_set]
  have go : ∀ (H1 : Heap) (locs1 : List Loc), va_P X.2.1 vwCl ((mW ad X.2.2.1 h).set k (ad k, .inr (ci, (fs.map (mV ad)).set j (mV ad v)))) H1 → va_D (mB X) ((mW ad X.2.2.1 h).set k (ad k, .inr (ci, (fs.map (mV ad)).set j (mV ad v)))) → va_S (mB X) s.heap H1 locs1 → W p X.1 e R s m args below meth c H1 locs1 cells slots (vx_MQ below (mQc X a0 n0 Q) (mXC X a0 n0 Q) args s R.cells R.slots (mB X)) (F0 m (pc + 3) ls (st.map (mV ad))) := by
    intro H1 locs1 h1 h2 h3
    rw [e1] at h1 h2
    exact kk p e R s m args below meth c H1 locs1 cells slots ad a0 n0 ls F (G.set (e := .inr (ci, fs.set j v)) h1 h2 h3) hl
  rcases hfin with hfin | ⟨hfin, hin, hdc, rfl⟩
  · cases nest with
    | true => exact va_putN (D := X.2.1) (cl := vwCl) (tys := mT X.2.2.1) (C := r.1) (T := r.2.1) (N := r.2.2) F.1 F.2.1 hts (fun w h => h) (mTy ci) hC.2.1 hC.2.2.1 ho hE.2.1 G.1.1 G.1.2.1 G.2.1 k he hr j hj2 (hE.word hw rfl) (fun x h => h) hfin (hC.2.1 j hj2) hq.1 hq.2 (by rw [List.length_map]; exact hj) hd go
    | false => exact va_put (D := X.2.1) (cl := vwCl) (tys := mT X.2.2.1) (C := r.1) (T := r.2.1) (N := r.2.2) F.1 F.2.1 hts (fun w h => h) (mTy ci) hC.2.1 hC.2.2.1 ho hE.2.1 G.1.1 G.1.2.1 G.2.1 k he hr j hj2 (hE.word hw rfl) (fun x h => h) hfin (hC.2.1 j hj2) hq.1 hq.2 (by rw [List.length_map]; exact hj) hd go
  · exact va_putF (D := X.2.1) (cl := vwCl) (tys := mT X.2.2.1) (C := r.1) (T := r.2.1) (N := r.2.2) F.1 F.2.1 hts (fun w h => h) (mTy ci) hC.2.1 hC.2.2.1 ho hE.2.1 G.1.1 G.1.2.1 G.2.1 k he hr j hj2 (hE.word hw rfl) (fun x h => h) hfin (by rw [F.2.2.2.2.2.2.2.1]; exact hin) hdc (hC.2.1 j hj2) hq.1 hq.2 (by rw [List.length_map]; exact hj) hd go
theorem wp_iald {k n : Nat} {f : Nat → Int32} {i : Int32} (hd : decode M.2.1 pc = .ok (.iaload, 1)) (hk : h[k]? = some (.inl (0, n, .inl f))) (hi : vp_in i n) (kk : mWP X M d Q (pc + 1) L (.int (f i.toNatClampNeg) :: st) h bc bs) : mWP X M d Q pc L (.int i :: .ref k :: st) h bc bs := by
  intro p e R s m args below meth c H locs cells slots ad a0 n0 ls F G hl
  exact va_iald F.1 F.2.1 F.2.2.2.2.2.2.2.2.1.2.1 G.1.1 k 0 (mW_at hk) (mTlk rfl) hi hd (kk p e R s m args below meth c H locs cells slots ad a0 n0 ls F G hl)
theorem wp_sald {i : Int32} (hd : decode M.2.1 pc = .ok (.iaload, 1)) (hi : vp_in i X.2.2.2.2.2.1) (kk : mWP X M d Q (pc + 1) L (.int (X.2.2.2.2.2.2 i.toNatClampNeg) :: st) h bc bs) : mWP X M d Q pc L (.int i :: .ref (mSB + 500) :: st) h bc bs := by
  intro p e R s m args below meth c H locs cells slots ad a0 n0 ls F G hl
  have hE := F.2.2.2.2.2.2.2.2.1
  have e1 : mV ad (.ref (mSB + 500)) = .ref (X.2.2.2.2.1 500) := by show Value.ref (ad (mSB + 500)) = _; rw [G.1.2.2]
  have hX := hE.2.2.2.2.2.2.2.2.2.2.2.2
  have hz := hE.2.2.2.2.2.2.2.2.2.2.1
  show W p X.1 e R s m args below meth c H locs cells slots _ (F0 m pc ls (.int i :: mV ad (.ref (mSB + 500)) :: st.map (mV ad)))
  rw [e1]
  exact va_sld (A := mB X) F.1 F.2.1 hX.1 (Nat.lt_of_lt_of_le hX.2.1 hz) (Nat.not_le.mpr hX.2.1) G.2.1 hi hd (kk p e R s m args below meth c H locs cells slots ad a0 n0 ls F G hl)
theorem wp_slen (hd : decode M.2.1 pc = .ok (.arraylength, 1)) (kk : mWP X M d Q (pc + 1) L (.int (nI X.2.2.2.2.2.1) :: st) h bc bs) : mWP X M d Q pc L (.ref (mSB + 500) :: st) h bc bs := by
  intro p e R s m args below meth c H locs cells slots ad a0 n0 ls F G hl
  have hE := F.2.2.2.2.2.2.2.2.1
  have e1 : mV ad (.ref (mSB + 500)) = .ref (X.2.2.2.2.1 500) := by show Value.ref (ad (mSB + 500)) = _; rw [G.1.2.2]
  have hX := hE.2.2.2.2.2.2.2.2.2.2.2.2
  have hz := hE.2.2.2.2.2.2.2.2.2.2.1
  show W p X.1 e R s m args below meth c H locs cells slots _ (F0 m pc ls (mV ad (.ref (mSB + 500)) :: st.map (mV ad)))
  rw [e1]
  exact va_slen (A := mB X) F.1 F.2.1 hX.1 (Nat.lt_of_lt_of_le hX.2.1 hz) (Nat.not_le.mpr hX.2.1) G.2.1 hd (kk p e R s m args below meth c H locs cells slots ad a0 n0 ls F G hl)
theorem wp_lald {k n : Nat} {f : Nat → Int64} {i : Int32} (hd : decode M.2.1 pc = .ok (.laload, 1)) (hk : h[k]? = some (.inl (1, n, .inr (.inl f)))) (hi : vp_in i n) (kk : mWP X M d Q (pc + 1) L (.long (f i.toNatClampNeg) :: st) h bc bs) : mWP X M d Q pc L (.int i :: .ref k :: st) h bc bs := by
  intro p e R s m args below meth c H locs cells slots ad a0 n0 ls F G hl
  exact va_lald F.1 F.2.1 F.2.2.2.2.2.2.2.2.1.2.1 G.1.1 k 1 (mW_at hk) (mTlk rfl) hi hd (kk p e R s m args below meth c H locs cells slots ad a0 n0 ls F G hl)
theorem wp_bald {k n : Nat} {f : Nat → Int32} {i : Int32} (hd : decode M.2.1 pc = .ok (.baload, 1)) (hk : h[k]? = some (.inl (2, n, .inl f))) (hi : vp_in i n) (kk : mWP X M d Q (pc + 1) L (.int (f i.toNatClampNeg) :: st) h bc bs) : mWP X M d Q pc L (.int i :: .ref k :: st) h bc bs := by
  intro p e R s m args below meth c H locs cells slots ad a0 n0 ls F G hl
  exact va_bald F.1 F.2.1 F.2.2.2.2.2.2.2.2.1.2.1 G.1.1 k 2 (mW_at hk) (mTlk rfl) hi hd (kk p e R s m args below meth c H locs cells slots ad a0 n0 ls F G hl)
theorem wp_zald {k n : Nat} {f : Nat → Int32} {i : Int32} (hd : decode M.2.1 pc = .ok (.baload, 1)) (hk : h[k]? = some (.inl (3, n, .inl f))) (hi : vp_in i n) (kk : mWP X M d Q (pc + 1) L (.int (f i.toNatClampNeg) :: st) h bc bs) : mWP X M d Q pc L (.int i :: .ref k :: st) h bc bs := by
  intro p e R s m args below meth c H locs cells slots ad a0 n0 ls F G hl
  exact va_zald F.1 F.2.1 F.2.2.2.2.2.2.2.2.1.2.1 G.1.1 k 3 (mW_at hk) (mTlk rfl) hi hd (kk p e R s m args below meth c H locs cells slots ad a0 n0 ls F G hl)
theorem mV_rf (ad : Nat → Nat) (r : Option Nat) : va_rf (r.map ad) = mV ad (va_rf r) := by cases r <;> rfl
theorem wp_aald {t k n : Nat} {C : String} {f : Nat → Option Nat} {i : Int32} (hd : decode M.2.1 pc = .ok (.aaload, 1)) (hk : h[k]? = some (.inl (t, n, .inr (.inr (.inr (.inr f)))))) (ht : ([.int, .long, .byte, .boolean, .object "SugarDice$Tray", .object "SugarDice$Game"] : List FieldType)[t]? = some (.object C)) (hi : vp_in i n) (kk : mWP X M d Q (pc + 1) L (va_rf (f i.toNatClampNeg) :: st) h bc bs) : mWP X M d Q pc L (.int i :: .ref k :: st) h bc bs := by
  intro p e R s m args below meth c H locs cells slots ad a0 n0 ls F G hl
  have k1 := kk p e R s m args below meth c H locs cells slots ad a0 n0 ls F G hl
  simp only [List.map_cons, ← mV_rf] at k1
  exact va_aldq F.1 F.2.1 F.2.2.2.2.2.2.2.2.1.2.1 G.1.1 k t (mW_at hk) (mTlk ht) hi hd k1
theorem wp_alen {t k n : Nat} {g : (Nat → Int32) ⊕ (Nat → Int64) ⊕ (Nat → UInt32) ⊕ (Nat → UInt64) ⊕ (Nat → Option Nat)} {ty : FieldType} (hd : decode M.2.1 pc = .ok (.arraylength, 1)) (hk : h[k]? = some (.inl (t, n, g))) (ht : ([.int, .long, .byte, .boolean, .object "SugarDice$Tray", .object "SugarDice$Game"] : List FieldType)[t]? = some ty) (kk : mWP X M d Q (pc + 1) L (.int (nI n) :: st) h bc bs) : mWP X M d Q pc L (.ref k :: st) h bc bs := by
  intro p e R s m args below meth c H locs cells slots ad a0 n0 ls F G hl
  exact va_alen F.1 F.2.1 F.2.2.2.2.2.2.2.2.1.2.1 G.1.1 k t (x := (n, mQ ad g)) (mW_at hk) (mTlk ht) rfl hd (kk p e R s m args below meth c H locs cells slots ad a0 n0 ls F G hl)
theorem wp_iast {k n : Nat} {f : Nat → Int32} {i x : Int32} (hd : decode M.2.1 pc = .ok (.iastore, 1)) (hk : h[k]? = some (.inl (0, n, .inl f))) (hi : vp_in i n) (kk : mWP X M d Q (pc + 1) L st (h.set k (.inl (0, n, .inl (upd f i.toNatClampNeg x)))) bc bs) : mWP X M d Q pc L (.int x :: .int i :: .ref k :: st) h bc bs := by
  intro p e R s m args below meth c H locs cells slots ad a0 n0 ls F G hl
  exact va_iast F.1 F.2.1 F.2.2.2.2.2.2.2.2.1.2.1 G.1.1 G.1.2.1 G.2.1 k 0 (mW_at hk) (mTlk rfl) hi hd (fun H1 locs1 h1 h2 h3 => kk p e R s m args below meth c H1 locs1 cells slots ad a0 n0 ls F (G.set (e := .inl (0, n, .inl (upd f i.toNatClampNeg x))) h1 h2 h3) hl)
theorem wp_last {k n : Nat} {f : Nat → Int64} {i : Int32} {x : Int64} (hd : decode M.2.1 pc = .ok (.lastore, 1)) (hk : h[k]? = some (.inl (1, n, .inr (.inl f)))) (hi : vp_in i n) (kk : mWP X M d Q (pc + 1) L st (h.set k (.inl (1, n, .inr (.inl (vp_updL f i.toNatClampNeg x))))) bc bs) : mWP X M d Q pc L (.long x :: .int i :: .ref k :: st) h bc bs := by
  intro p e R s m args below meth c H locs cells slots ad a0 n0 ls F G hl
  exact va_last F.1 F.2.1 F.2.2.2.2.2.2.2.2.1.2.1 G.1.1 G.1.2.1 G.2.1 k 1 (mW_at hk) (mTlk rfl) hi hd (fun H1 locs1 h1 h2 h3 => kk p e R s m args below meth c H1 locs1 cells slots ad a0 n0 ls F (G.set (e := .inl (1, n, .inr (.inl (vp_updL f i.toNatClampNeg x)))) h1 h2 h3) hl)
theorem wp_bast {k n : Nat} {f : Nat → Int32} {i x : Int32} (hd : decode M.2.1 pc = .ok (.bastore, 1)) (hk : h[k]? = some (.inl (2, n, .inl f))) (hi : vp_in i n) (kk : mWP X M d Q (pc + 1) L st (h.set k (.inl (2, n, .inl (upd f i.toNatClampNeg (vp_nar .byte x))))) bc bs) : mWP X M d Q pc L (.int x :: .int i :: .ref k :: st) h bc bs := by
  intro p e R s m args below meth c H locs cells slots ad a0 n0 ls F G hl
  exact va_bast F.1 F.2.1 F.2.2.2.2.2.2.2.2.1.2.1 G.1.1 G.1.2.1 G.2.1 k 2 (mW_at hk) (mTlk rfl) hi hd (fun H1 locs1 h1 h2 h3 => kk p e R s m args below meth c H1 locs1 cells slots ad a0 n0 ls F (G.set (e := .inl (2, n, .inl (upd f i.toNatClampNeg (vp_nar .byte x)))) h1 h2 h3) hl)
theorem wp_zast {k n : Nat} {f : Nat → Int32} {i x : Int32} (hd : decode M.2.1 pc = .ok (.bastore, 1)) (hk : h[k]? = some (.inl (3, n, .inl f))) (hi : vp_in i n) (kk : mWP X M d Q (pc + 1) L st (h.set k (.inl (3, n, .inl (upd f i.toNatClampNeg (vp_nar .boolean x))))) bc bs) : mWP X M d Q pc L (.int x :: .int i :: .ref k :: st) h bc bs := by
  intro p e R s m args below meth c H locs cells slots ad a0 n0 ls F G hl
  exact va_zast F.1 F.2.1 F.2.2.2.2.2.2.2.2.1.2.1 G.1.1 G.1.2.1 G.2.1 k 3 (mW_at hk) (mTlk rfl) hi hd (fun H1 locs1 h1 h2 h3 => kk p e R s m args below meth c H1 locs1 cells slots ad a0 n0 ls F (G.set (e := .inl (3, n, .inl (upd f i.toNatClampNeg (vp_nar .boolean x)))) h1 h2 h3) hl)
end mHp
end
section
/-! rows for what is made, copied, thrown, called -/
section mAl
variable {X : mX} {M : mM} {d : Nat} {Q : mO → mH → Prop} {pc : Nat} {L : List (Option Value)} {st : List Value} {h : mH} {bc bs : Nat}
theorem wp_aast {t k n kv ci : Nat} {r : vw_C} {f : Nat → Option Nat} {fs : List Value} {i : Int32} (hd : decode M.2.1 pc = .ok (.aastore, 1)) (hk : h[k]? = some (.inl (t, n, .inr (.inr (.inr (.inr f)))))) (hv : h[kv]? = some (.inr (ci, fs))) (hr : vwCl[ci]? = some r) (ht : ([.int, .long, .byte, .boolean, .object "SugarDice$Tray", .object "SugarDice$Game"] : List FieldType)[t]? = some (.object r.1)) (hi : vp_in i n)
    (kk : mWP X M d Q (pc + 1) L st (h.set k (.inl (t, n, .inr (.inr (.inr (.inr (va_up f i.toNatClampNeg (some kv)))))))) bc bs) : mWP X M d Q pc L (.ref kv :: .int i :: .ref k :: st) h bc bs := by
  intro p e R s m args below meth c H locs cells slots ad a0 n0 ls F G hl
  have e1 : va_up (fun i => (f i).map ad) i.toNatClampNeg (some (ad kv)) = fun j => (va_up f i.toNatClampNeg (some kv) j).map ad := by
    funext j
    simp only [va_up]
    split <;> rfl
  refine va_astq F.1 F.2.1 F.2.2.2.2.2.2.2.2.1.2.1 G.1.1 G.1.2.1 G.2.1 k t kv ci (mW_at hk) (mTlk ht) (mW_at hv) hr hi hd (fun H1 locs1 h1 h2 h3 => ?_)
  rw [e1] at h1 h2
  exact kk p e R s m args below meth c H1 locs1 cells slots ad a0 n0 ls F (G.set (e := .inl (t, n, .inr (.inr (.inr (.inr (va_up f i.toNatClampNeg (some kv))))))) h1 h2 h3) hl
theorem wp_copy {k0 k1 m0 m1 idx : Nat} {f g : Nat → Int32} {sp dp n : Int32} (hn : mNm M.2.2.2.2.2.1 = M.1.cls) (hd : decode M.2.1 pc = .ok (.invokestatic idx, 3)) (hlk : Cond.methodLink (mNm M.2.2.2.2.2.1) idx arraycopyName ∈ lw_tbl) (hk0 : h[k0]? = some (.inl (0, m0, .inl f))) (hk1 : h[k1]? = some (.inl (0, m1, .inl g))) (h1 : ¬ sp < 0) (h2 : ¬ dp < 0) (h3 : ¬ n < 0) (h4 : sp.toNatClampNeg + n.toNatClampNeg ≤ m0) (h5 : dp.toNatClampNeg + n.toNatClampNeg ≤ m1) (hst : (st.map fun v => v.category).sum ≤ 8)
    (kk : mWP X M d Q (pc + 3) L st (h.set k1 (.inl (0, m1, .inl (va_cpy f g sp.toNatClampNeg dp.toNatClampNeg n.toNatClampNeg)))) bc bs) : mWP X M d Q pc L (.int n :: .int dp :: .ref k1 :: .int sp :: .ref k0 :: st) h bc bs := by
  intro p e R s m args below meth c H locs cells slots ad a0 n0 ls F G hl
  have hE := F.2.2.2.2.2.2.2.2.1
  have ho : s.vm.findClass (mNm M.2.2.2.2.2.1) = some m.cls := by rw [hn]; exact F.2.2.2.1
  have hR := F.2.2.2.2.2.2.2.2.2
  have hst' : ((st.map (mV ad)).map fun v => v.category).sum ≤ 8 := by
    rw [List.map_map]
    simpa [Function.comp_def, mV_cat] using hst
  exact va_copyi F.1 F.2.1 (by rw [F.2.2.1]; exact hl.1.symm) ho (hE.word hlk rfl) (hE.word (by decide +kernel) rfl) (hE.word (by decide +kernel) rfl) (hE.word (by decide +kernel) rfl) hE.2.1 G.1.1 G.1.2.1 G.2.1 k0 k1 0 0 (mW_at hk0) (mW_at hk1) (mTlk rfl) (mTlk rfl) rfl h1 h2 h3 h4 h5 (fun _ _ => rfl) (by omega)
    (by have e1 : nativeFrameWords "java/lang/System" "arraycopy" 5 + 11 ≤ 150 := by decide +kernel
        omega) hd (fun H1 locs1 h1 h2 h3 => kk p e R s m args below meth c H1 locs1 cells slots ad a0 n0 ls F (G.set (e := .inl (0, m1, .inl (va_cpy f g sp.toNatClampNeg dp.toNatClampNeg n.toNatClampNeg))) h1 h2 h3) hl)
/-- nothing names the cell n -/
def mNoV (n : Nat) (v : Value) : Prop := match v with
  | .ref k => k ≠ n
  | _ => True
def mNoE (n : Nat) (e : mE) : Prop := match e with
  | .inl (_, _, .inr (.inr (.inr (.inr f)))) => ∀ i, f i ≠ some n
  | .inl _ => True
  | .inr (_, fs) => ∀ v ∈ fs, mNoV n v
def mStab (h : mH) (L : List (Option Value)) (st : List Value) : Prop := (∀ e ∈ h, mNoE h.length e) ∧ (∀ o ∈ L, ∀ v, o = some v → mNoV h.length v) ∧ (∀ v ∈ st, mNoV h.length v)
def mUp (ad : Nat → Nat) (n q : Nat) : Nat → Nat := fun k => if k = n then q else ad k
theorem mUp_n (ad : Nat → Nat) (n q : Nat) : mUp ad n q n = q := by simp [mUp]
theorem mUp_o (ad : Nat → Nat) {n k : Nat} (q : Nat) (hk : k ≠ n) : mUp ad n q k = ad k := by simp [mUp, hk]
theorem mNoV.up {ad : Nat → Nat} {n q : Nat} {v : Value} (h : mNoV n v) : mV (mUp ad n q) v = mV ad v := by
  cases v <;> simp_all [mNoV, mV, mUp]
theorem mNoE.up {ad : Nat → Nat} {dA : Nat → ClassId} {n q : Nat} {e : mE} (h : mNoE n e) : mC (mUp ad n q) dA e = mC ad dA e := by
  match e, h with
  | .inl (t, l, .inr (.inr (.inr (.inr f)))), h =>
    have e1 : (fun i => (f i).map (mUp ad n q)) = fun i => (f i).map ad := by
      funext i
      cases hf : f i with
      | none => rfl
      | some k =>
        have hk : k ≠ n := fun e => h i (by rw [hf, e])
        simp [mUp, hk]
    simp only [mC, mQ, e1]
  | .inl (t, l, .inl f), _ => rfl
  | .inl (t, l, .inr (.inl f)), _ => rfl
  | .inl (t, l, .inr (.inr (.inl f))), _ => rfl
  | .inl (t, l, .inr (.inr (.inr (.inl f)))), _ => rfl
  | .inr (c, fs), h =>
    simp only [mC]
    congr 2
    exact List.map_congr_left fun v hv => (h v hv).up
theorem mW_up {ad : Nat → Nat} {dA : Nat → ClassId} {h : mH} {q : Nat} {e : mE} (hn : ∀ e ∈ h, mNoE h.length e) (he : mNoE h.length e) : mW ad dA h ++ [(q, mC ad dA e)] = mW (mUp ad h.length q) dA (h ++ [e]) := by
  apply List.ext_getElem?
  intro j
  rw [mW_get]
  have hl : (mW ad dA h).length = h.length := by simp [mW]
  by_cases hj : j < h.length
  · rw [List.getElem?_append_left (by rw [hl]; exact hj), List.getElem?_append_left hj, mW_get]
    have hm : h[j]? = some h[j] := List.getElem?_eq_getElem hj
    rw [hm]
    simp only [Option.map_some, Option.some.injEq, Prod.mk.injEq]
    exact ⟨(mUp_o ad q (by omega)).symm, ((hn _ (List.mem_of_getElem? hm)).up).symm⟩
  · by_cases hj2 : j = h.length
    · subst hj2
      rw [List.getElem?_append_right (by omega), List.getElem?_append_right (by omega)]
      simp [hl, mUp_n, he.up]
    · rw [List.getElem?_eq_none (by simp [hl]; omega), List.getElem?_eq_none (by simp; omega)]
      rfl
theorem mG.grow {R : Room} {s : State} {H H1 : Heap} {locs : List Loc} {cells slots q n0 nc ns : Nat} {ad a0 : Nat → Nat} {e : mE} (G : mG X h bc bs R s H locs cells slots ad a0 n0) (hz : h.length < mSB) (hn : ∀ e ∈ h, mNoE h.length e) (he : mNoE h.length e) (hP : va_P X.2.1 vwCl (mW ad X.2.2.1 h ++ [(q, mC ad X.2.2.1 e)]) H1) (hD : va_D (mB X) (mW ad X.2.2.1 h ++ [(q, mC ad X.2.2.1 e)])) (hS : va_S (mB X) s.heap H1 locs) (hb1 : nc ≤ bc) (hb2 : ns ≤ bs) : mG X (h ++ [e]) (bc - nc) (bs - ns) R s H1 locs (cells + nc) (slots + ns) (mUp ad h.length q) a0 n0 := by
  rw [mW_up hn he] at hP hD
  obtain ⟨g1, g2, g3, g4, g5, g6⟩ := G
  refine ⟨⟨hP, hD, fun i => ?_⟩, hS, fun k hk => ?_, by rw [List.length_append]; omega, by omega, by omega⟩
  · rw [mUp_o ad q (by simp only [mSB] at *; omega)]
    exact g1.2.2 i
  · rw [mUp_o ad q (by omega)]
    exact g3 k hk
theorem mLs.up {ad : Nat → Nat} {n q nL : Nat} {ls : Array Slot} (hl : mLs ad L nL ls) (hn : ∀ o ∈ L, ∀ v, o = some v → mNoV n v) : mLs (mUp ad n q) L nL ls := ⟨hl.1, hl.2.1, fun k v hk => by
  rw [(hn _ (List.mem_of_getElem? hk) v rfl).up]
  exact hl.2.2 k v hk⟩
theorem mSt_up {ad : Nat → Nat} {n q : Nat} (hn : ∀ v ∈ st, mNoV n v) : st.map (mV (mUp ad n q)) = st.map (mV ad) := List.map_congr_left fun v hv => (hn v hv).up
def mDf (ci N : Nat) : List Value := (List.range N).map (fun j => defaultValue (mTy ci j))
theorem mDf_no (ad : Nat → Nat) (ci N : Nat) : (mDf ci N).map (mV ad) = mDf ci N := by
  simp only [mDf, List.map_map]
  refine List.map_congr_left fun j _ => ?_
  simp only [Function.comp]
  cases mTy ci j <;> rfl
theorem wp_new {ci idx : Nat} {r : vw_C} (hn : mNm M.2.2.2.2.2.1 = M.1.cls) (hd : decode M.2.1 pc = .ok (.new idx, 3)) (hr : vwCl[ci]? = some r) (hw1 : Cond.classLink (mNm M.2.2.2.2.2.1) idx r.1 ∈ lw_tbl) (hw2 : Cond.instantiable r.1 r.2.2 ∈ lw_tbl) (hw3 : Cond.initialized r.1 ∈ lw_tbl) (hb1 : 1 ≤ bc) (hb2 : r.2.2 ≤ bs) (hz : h.length < mSB) (hs : mStab h L st)
    (kk : mWP X M d Q (pc + 3) L (.ref h.length :: st) (h ++ [.inr (ci, mDf ci r.2.2)]) (bc - 1) (bs - r.2.2)) : mWP X M d Q pc L st h bc bs := by
  intro p e R s m args below meth c H locs cells slots ad a0 n0 ls F G hl
  have hE := F.2.2.2.2.2.2.2.2.1
  have ho : s.vm.findClass (mNm M.2.2.2.2.2.1) = some m.cls := by rw [hn]; exact F.2.2.2.1
  have hC := mCls hr
  have hts : ∀ w ∈ u_ws r.1 r.2.1 r.2.2, w.before args s = true := fun w hw => hE.word (hC.1 w hw).1 (hC.1 w hw).2
  have hno : mNoE h.length (.inr (ci, mDf ci r.2.2)) := by
    intro v hv
    obtain ⟨j, -, rfl⟩ := List.mem_map.mp hv
    cases mTy ci j <;> trivial
  refine va_new (D := X.2.1) (cl := vwCl) (tys := mT X.2.2.1) (ci := ci) (C := r.1) (T := r.2.1) (N := r.2.2) (fs := mDf ci r.2.2) F.1 F.2.1 hts (fun w h => h) (mTy ci) hC.2.1 ho (hE.word hw1 rfl) (hE.word hw2 rfl) (hE.word hw3 rfl) hE.2.1 G.1.1 G.1.2.1 G.2.1 (fun q hq => Nat.le_trans hE.2.2.2.2.2.2.2.2.2.2.1 hq) hr (fun j hj => ?_) (by have := G.2.2.2.2.1; omega) (by have := G.2.2.2.2.2; omega) hd (fun q H1 h1 h2 h3 => ?_)
  · simp [vp_V, mDf, hj]
  · have e0 : (Sum.inr (ci, mDf ci r.2.2) : va_E) = mC ad X.2.2.1 (.inr (ci, mDf ci r.2.2)) := by simp only [mC, mDf_no]
    rw [e0] at h1 h2
    have k1 := kk p e R s m args below meth c H1 locs (cells + 1) (slots + r.2.2) (mUp ad h.length q) a0 n0 ls F (G.grow hz hs.1 hno h1 h2 h3 hb1 hb2) (hl.up hs.2.1)
    rw [List.map_cons, mSt_up hs.2.2] at k1
    simp only [mV, mUp_n] at k1
    exact k1
def mAt (a : ArrayType) : Option (Nat × FieldType) := match a with
  | .int => some (0, .int)
  | .long => some (1, .long)
  | .byte => some (2, .byte)
  | .boolean => some (3, .boolean)
  | _ => none
def mZr (t n : Nat) : mE := .inl (t, n, if t = 1 then .inr (.inl (fun _ => 0)) else .inl (fun _ => 0))
theorem wp_newa {a : ArrayType} {t : Nat} {ty : FieldType} {n : Int32} (hd : decode M.2.1 pc = .ok (.newarray a, 2)) (ha : mAt a = some (t, ty)) (h1 : ¬ n < 0) (h2 : n.toNatClampNeg ≤ 100000) (hb1 : 1 ≤ bc) (hb2 : n.toNatClampNeg ≤ bs) (hz : h.length < mSB) (hs : mStab h L st)
    (kk : mWP X M d Q (pc + 2) L (.ref h.length :: st) (h ++ [mZr t n.toNatClampNeg]) (bc - 1) (bs - n.toNatClampNeg)) : mWP X M d Q pc L (.int n :: st) h bc bs := by
  intro p e R s m args below meth c H locs cells slots ad a0 n0 ls F G hl
  have hE := F.2.2.2.2.2.2.2.2.1
  have hty : newarray.typeOf a = ty ∧ (mT X.2.2.1)[t]? = some (X.2.2.1 t, ty) ∧ Cond.arrayClass ty ∈ lw_tbl ∧ ty.isReference = false ∧ (ty = .long ↔ t = 1) := by
    cases a <;> simp only [mAt, Option.some.injEq, Prod.mk.injEq, reduceCtorEq] at ha <;> obtain ⟨rfl, rfl⟩ := ha
    · exact ⟨rfl, rfl, by decide +kernel, rfl, by decide⟩
    · exact ⟨rfl, rfl, by decide +kernel, rfl, by decide⟩
    · exact ⟨rfl, rfl, by decide +kernel, rfl, by decide⟩
    · exact ⟨rfl, rfl, by decide +kernel, rfl, by decide⟩
  obtain ⟨t1, t2, t3, t4, t5⟩ := hty
  have hno : mNoE h.length (mZr t n.toNatClampNeg) := by
    simp only [mZr]
    split <;> trivial
  have hcell : ∀ cA : ClassId, vp_cell cA (n.toNatClampNeg, if t = 1 then .inr (.inl (fun _ => 0)) else .inl (fun _ => 0)) = arrV cA n.toNatClampNeg (fun _ => defaultValue ty) := by
    intro cA
    cases a <;> simp only [mAt, Option.some.injEq, Prod.mk.injEq, reduceCtorEq] at ha <;> obtain ⟨rfl, rfl⟩ := ha <;> rfl
  have hcb : componentBytes ty ≤ 8 := by
    cases a <;> simp only [mAt, Option.some.injEq, Prod.mk.injEq, reduceCtorEq] at ha <;> obtain ⟨rfl, rfl⟩ := ha <;> decide
  refine va_newa (D := X.2.1) (cl := vwCl) (tys := mT X.2.2.1) (a0 := (n.toNatClampNeg, if t = 1 then .inr (.inl (fun _ => 0)) else .inl (fun _ => 0))) F.1 F.2.1 (by rw [t1]; exact hE.word t3 rfl) t1 hE.2.1 G.1.1 G.1.2.1 G.2.1 (fun q hq => Nat.le_trans hE.2.2.2.2.2.2.2.2.2.2.1 hq) hcell h1 rfl (Nat.le_trans (Nat.mul_le_mul h2 hcb) (by decide)) (by have := G.2.2.2.2.1; omega) (by have := G.2.2.2.2.2; omega) hd (fun q cA H1 hK1 g1 g2 g3 => ?_)
  have hcA : cA = X.2.2.1 t := by
    have q1 := (hE.2.1.2 t _ t2).2
    have q2 := (hK1.2 (mT X.2.2.1).length (cA, ty) (by simp)).2
    cases a <;> simp only [mAt, Option.some.injEq, Prod.mk.injEq, reduceCtorEq] at ha <;> obtain ⟨rfl, rfl⟩ := ha <;> exact Option.some.inj (q2.symm.trans q1)
  subst hcA
  have e0 : (Sum.inl (X.2.2.1 t, n.toNatClampNeg, if t = 1 then .inr (.inl (fun _ => 0)) else .inl (fun _ => 0)) : va_E) = mC ad X.2.2.1 (mZr t n.toNatClampNeg) := by
    simp only [mC, mZr]
    split <;> rfl
  rw [e0] at g1 g2
  have k1 := kk p e R s m args below meth c H1 locs (cells + 1) (slots + n.toNatClampNeg) (mUp ad h.length q) a0 n0 ls F (G.grow hz hs.1 hno g1 g2 g3 hb1 hb2) (hl.up hs.2.1)
  rw [List.map_cons, mSt_up hs.2.2] at k1
  simp only [mV, mUp_n] at k1
  exact k1
end mAl
end
section
/-! NoSuchElementException(String): its constructor's link stands at 13, where the library's chain wants 7; so its throwing is shown here, along the library's road (BundleOwnThrow) with another first link. -/
def ns_X : String := "java/util/NoSuchElementException"
def ns_Y : String := "java/lang/RuntimeException"
def ns_six : ByteArray := ⟨#[0x2a, 0x2b, 0xb7, 0x00, 0x0d, 0xb1]⟩
def ns_atoms (own : String) (ic : Nat) : List Cond :=
  Bundle.throwableAtoms ++ Bundle.throwableSAtoms ++ Bundle.passSAtoms ns_X ns_Y 13 ns_six ++ Bundle.chainSAtoms ns_Y ["java/lang/Exception"] ++
  [.methodLink own ic (Bundle.initS ns_X), .instantiable ns_X 6, .castable ns_X ns_X, .selects ns_X Bundle.tFill0 Bundle.tFill0, .selects ns_X Bundle.tFill Bundle.tFill,
   .lays ns_X Bundle.tN "cause" "Ljava/lang/Throwable;", .lays ns_X Bundle.tN "stackTrace" Bundle.steD, .lays ns_X Bundle.tN "suppressedExceptions" Bundle.listD, .lays ns_X Bundle.tN "detailMessage" "Ljava/lang/String;",
   .isRef (.static Bundle.tN "UNASSIGNED_STACK" Bundle.steD), .isRef (.static Bundle.tN "SUPPRESSED_SENTINEL" Bundle.listD),
   .fieldLink Bundle.tN 198 Bundle.tN "backtrace" "Ljava/lang/Object;", .lays Bundle.tN Bundle.tN "backtrace" "Ljava/lang/Object;", .lays ns_X Bundle.tN "backtrace" "Ljava/lang/Object;"]
def ns_at (own : String) (ic : Nat) : List Cond := (ns_atoms own ic).filter vx_no
section NsA
variable {p : Program} {l : Launch} {e : Env} {R : Room} {s : State} {m₀ : MethodId} {args : Array Value} {below : List Frame} {meth : Method} {c : Code} {W0 : State} {locs : List Loc} {cells slots : Nat}
set_option maxHeartbeats 4000000 in
theorem ns_ctor (X : Stand p l e R s m₀ args below meth c W0 locs cells slots) (hexec : p.tables.exec = Jvm.exec) (htr : e.platform.stackTraces = false) {own : String} {ic : Nat}
    (hown : s.vm.findClass own = some m₀.cls)
    (h : ∀ a ∈ ns_atoms own ic, a.before args s = true)
    (hlocs : ∀ x ∈ locs, ∀ cell, s.heap[x.base]? = some cell → cell.vm.isStatics = false)
    {a : Addr} {cX : ClassId} {kX : Class} (hfoundX : s.vm.findClass ns_X = some cX) (hkX : s.vm.classes[cX]? = some kX) (hcell : W0.heap[a]? = some (freshCell cX kX)) (hnew : s.heap.size ≤ a)
    {msg : Value} (hmsg : msg.isRef = true)
    {g : JFrame} (hg : g.method = m₀) (hsize : g.locals.size = c.maxLocals) (hlocked : g.locked = none) (hentered : g.entered = []) {rest : List Value} (hstack : g.stack = msg :: .ref a :: .ref a :: rest)
    (hd6 : decode c.code g.pc = .ok (.invokespecial ic, 3)) (hd9 : decode c.code (g.pc + 3) = .ok (.athrow, 1)) (hout : ∀ x ∈ c.exceptionTable.toList, covers x (g.pc + 3) = false)
    (hRframes : 2 + 3 < R.frames) (hRlocals : 2 * g.monitorRoom + ((Value.ref a :: rest).map fun v => v.category).sum + (13 * (2 + 1) + 42) ≤ R.locals) (hlocks : meth.locks = false) :
    ∃ U : State, Steps p.tables e below (W0.setTop g) U ∧ U.status = .running ∧ Ended U below (.threw a) ∧ s.WarmedH U.vm ∧ s.sameButNew ({ U with vm := s.vm } : State) locs cells slots ∧
      ∃ ce : Cell, U.heap[a]? = some ce ∧ s.vm.findClass ns_X = some ce.cls ∧ ce.vm = .none := by
  have howns : e.platform.frameOwnsMonitors = true := by rw [X.admits.platform]
  have hfin : e.platform.finalization = false := by rw [X.admits.platform]
  have hpl : e.platform.magicAccessors = ({} : Platform).magicAccessors := by rw [X.admits.platform]
  have a' : ∀ x, x ∈ ns_atoms own ic → x.holds args s none s [] = true := fun x hx => h x hx
  obtain ⟨T, Z0, L, -, Y⟩ := ThrowableC.of_atoms (args := args) howns hfin hpl (fun x hx => h x (by simp [ns_atoms, hx]))
  obtain ⟨Z, M, LZ, LM, hnZ⟩ := Init0T.ofS_atoms (args := args) hpl L Y (fun x hx => h x (by simp [ns_atoms, hx]))
  obtain ⟨P1, L1, hP1m, hP1s⟩ := PassC.ofS_atoms (args := args) (s := s) hpl (X := ns_X) (Y := ns_Y) (index := 13) (bytes := ns_six) (by decide) (by decide) (by decide +kernel) (by decide +kernel) (by decide +kernel) (by decide +kernel) (fun x hx => h x (by simp [ns_atoms, hx]))
  obtain ⟨P2, Ps, hlen, L2, hL, hP2m, hlink2, hlink⟩ := Bundle.chainS (args := args) hpl hnZ ["java/lang/Exception"] ns_Y (by decide) (by decide) (fun x hx => h x (by simp [ns_atoms, hx]))
  have hlink1 : P1.sup = P2.m := Option.some.inj (hP1s.symm.trans hP2m)
  have hfound : s.vm.findClass ns_X = some P1.m.cls := findClass_of_methodNamed hP1m
  cases Option.some.inj (hfoundX.symm.trans hfound)
  obtain ⟨c1, kX', hc1, hk, hord, -, -, hn6⟩ := Cond.instantiable_spec (a' (.instantiable ns_X 6) (by simp [ns_atoms]))
  cases Option.some.inj (hc1.symm.trans hfound)
  cases Option.some.inj (hkX.symm.trans hk)
  have hsel0 : selectMethod e.platform s.vm P1.m.cls T.fill0 = .method T.fill0 := by
    obtain ⟨c2, r2, m2, q1, q2, q3, q4, -⟩ := Cond.selects_spec (a' (.selects ns_X Bundle.tFill0 Bundle.tFill0) (by simp [ns_atoms]))
    cases Option.some.inj (q1.symm.trans hfound)
    cases Option.some.inj (q2.symm.trans (State.methodFound?_of_named Y.fill0 (by decide)))
    cases Option.some.inj (q3.symm.trans Y.fill0)
    rw [Launch.admits_selectMethod X.admits]; exact q4
  have hselF : selectMethod e.platform s.vm P1.m.cls T.fill = .method T.fill := by
    obtain ⟨c2, r2, m2, q1, q2, q3, q4, -⟩ := Cond.selects_spec (a' (.selects ns_X Bundle.tFill Bundle.tFill) (by simp [ns_atoms]))
    cases Option.some.inj (q1.symm.trans hfound)
    cases Option.some.inj (q2.symm.trans (State.methodFound?_of_named Y.fill (by decide)))
    cases Option.some.inj (q3.symm.trans Y.fill)
    rw [Launch.admits_selectMethod X.admits]; exact q4
  obtain ⟨cellS0, hcS0, hiss⟩ := Y.statics
  obtain ⟨u0, hu0⟩ := Cond.staticRefV Y.unassigned L.unassignedStatic L.statics hcS0 hiss (a' (.isRef (.static Bundle.tN "UNASSIGNED_STACK" Bundle.steD)) (by simp [ns_atoms]))
  obtain ⟨sen, hsen⟩ := Cond.staticRefV Y.sentinel L.sentinelStatic L.statics hcS0 hiss (a' (.isRef (.static Bundle.tN "SUPPRESSED_SENTINEL" Bundle.listD)) (by simp [ns_atoms]))
  obtain ⟨ci198, i198, fB, hk198, hg198, ha198, hsB, -, hnB, htB, hffB⟩ := Cond.ownField (t := .object "java/lang/Object") Y.found L.cls (by decide +kernel) (a' (.fieldLink Bundle.tN 198 Bundle.tN "backtrace" "Ljava/lang/Object;") (by simp [ns_atoms])) (a' (.lays Bundle.tN Bundle.tN "backtrace" "Ljava/lang/Object;") (by simp [ns_atoms])) e.platform hpl
  obtain ⟨cellS, hcS', heS, -, hkeep⟩ := X.same.2.2.2.2.2 T.aS cellS0 hcS0
  have hcellS : W0.heap[T.aS]? = some cellS := hcS'
  have hout' : ∀ i, (⟨T.aS, i⟩ : Loc) ∉ locs := fun i hmem => by
    have := hlocs _ hmem cellS0 hcS0
    rw [hiss] at this; cases this
  have hknownS : cellS.vm ≠ .unknown := by
    rw [heS]; intro hu
    rw [show cellS0.vm = .unknown from hu] at hiss
    cases hiss
  have hneS : T.aS ≠ a := Nat.ne_of_lt (Nat.lt_of_lt_of_le (Array.getElem?_eq_some_iff.mp hcS0).1 hnew)
  obtain ⟨iM, hffM⟩ := Y.msg
  obtain ⟨tyC, dC, hdC, hdnC⟩ := Cond.laysAt hfound hk Y.cause (a' (.lays ns_X Bundle.tN "cause" "Ljava/lang/Throwable;") (by simp [ns_atoms]))
  obtain ⟨tyS, dS, hdS, hdnS⟩ := Cond.laysAt hfound hk Y.stack (a' (.lays ns_X Bundle.tN "stackTrace" Bundle.steD) (by simp [ns_atoms]))
  obtain ⟨tyP, dP, hdP, hdnP⟩ := Cond.laysAt hfound hk Y.supp (a' (.lays ns_X Bundle.tN "suppressedExceptions" Bundle.listD) (by simp [ns_atoms]))
  obtain ⟨tyM, dM, hdM, hdnM⟩ := Cond.laysAt hfound hk hffM (a' (.lays ns_X Bundle.tN "detailMessage" "Ljava/lang/String;") (by simp [ns_atoms]))
  obtain ⟨tyB, dB, hdB, hdnB⟩ := Cond.laysAt hfound hk hffB (a' (.lays ns_X Bundle.tN "backtrace" "Ljava/lang/Object;") (by simp [ns_atoms]))
  have bC := Cond.laysApart hdB hdC hdnB hdnC (by rw [hnB, Y.causeName]; decide)
  have bS := Cond.laysApart hdB hdS hdnB hdnS (by rw [hnB, Y.stackName]; decide)
  have bP := Cond.laysApart hdB hdP hdnB hdnP (by rw [hnB, Y.suppName]; decide)
  have hskip : SkipFacts T e.platform s (fun u => u) u0 ((preparedCellV T.toThrowableT (freshCell P1.m.cls kX) a u0 sen).withEntry W0.cur) :=
    ⟨{ ci198 := ci198, i198 := i198, fBack := fB }, ⟨hk198, hg198, ha198, hsB⟩, by
      have := fresh_default (c := P1.m.cls) tyB
      rw [htB] at this
      simpa [preparedCellV, Cell.setSlot, Cell.withEntry, Array.getElem?_setIfInBounds, bC, bS, bP, bC.symm, bS.symm, bP.symm, defaultValue] using this, fun _ _ => rfl⟩
  obtain ⟨tm, methC, cdC, kC, vm₁, hnC, -, -, -, -, -, -, -, hW₁, st1⟩ := Steps.initColdS (tb := p.tables) (e := e) (below := below) (s := s) (U := W0) X.here hexec X.warmed hpl hown (t := Bundle.initS ns_X) rfl rfl (by decide)
    (a' (.methodLink own ic (Bundle.initS ns_X)) (by simp [ns_atoms])) (h (.instanceMethod (Bundle.initS ns_X)) (by simp [ns_atoms, Bundle.passSAtoms])) (bytes := ns_six) (maxL := 2) (h (.code (Bundle.initS ns_X) ns_six 2 none) (by simp [ns_atoms, Bundle.passSAtoms]))
    (f := g) hg (a := a) (msg := msg) (rest := .ref a :: rest) hstack hd6
  cases Option.some.inj (hnC.symm.trans hP1m)
  have X₁ := X.noted hW₁
  have hlen1 : Ps.length = 1 := hlen
  obtain ⟨vm₂, X₂, st2⟩ := X₁.ctorMessageOffV hexec (g := { g with stack := .ref a :: rest }) hg hsize T L Z LZ M LM (P1 :: P2 :: Ps)
    (fun P hP => by
      rcases List.mem_cons.mp hP with rfl | hP
      · exact L1
      · rcases List.mem_cons.mp hP with rfl | hP
        · exact L2
        · exact hL P hP) ⟨hlink1, hlink2, hlink⟩ (u0 := u0) (sen := sen) (self := a) hmsg (cell := freshCell P1.m.cls kX) (cellS := cellS)
    hcell (fun _ => by simp) (by simp) rfl rfl hsel0 hselF hcellS hneS hknownS (by rw [hkeep _ (hout' _)]; exact hu0) (by rw [hkeep _ (hout' _)]; exact hsen)
    (Takes.of_laid hk hord tyC (by rw [Y.causeType]; rfl)) (Takes.of_laid hk hord tyS (by rw [Y.stackType]; exact fits_refV_array _ u0)) (Takes.of_laid hk hord tyP (by rw [Y.suppType]; exact fits_refV_object _ sen))
    (Takes.of_laid hk hord tyM (by rw [Y.msgType]; exact fits_refV_object _ ⟨msg, hmsg⟩)) Y.objLocals hskip htr [] hd6
    (by simp only [List.length_cons, hlen1]; omega) (by simp only [List.length_cons, hlen1]; exact hRlocals)
  obtain ⟨hwalk, hrun, hended, hWU, hsame⟩ := X₂.athrowLeaves hexec (g := { g with stack := .ref a :: rest, pc := g.pc + 3 }) hg hlocked hentered hout (a := a) (rest := rest) rfl hd9
  have hlt : a < ((W0.setVm vm₁).setVm vm₂).heap.size := (Array.getElem?_eq_some_iff.mp hcell).1
  have hU := heapAt_setCell_self (s := (W0.setVm vm₁).setVm vm₂) (plainBareV T.toThrowableT (freshCell P1.m.cls kX) a u0 sen msg) hlt
  refine ⟨_, st1 _ (fun acts => ?_), hrun, hended, hWU, hsame.weaken (fun y hy hlt' => ?_) (Nat.le_refl _) (Nat.le_refl _), _, hU, hfound, rfl⟩
  · rw [doInvoke_state]
    exact st2 _ hwalk
  · rcases List.mem_append.mp hy with h1 | h1
    · exact h1
    · exfalso
      have hb : y.base = a := by
        simp only [List.mem_cons, List.not_mem_nil, or_false] at h1
        rcases h1 with rfl | rfl | rfl | rfl | rfl <;> rfl
      rw [hb] at hlt'
      exact Nat.not_lt.mpr hnew hlt'
end NsA
section NsB
variable {p : Program} {l : Launch} {e : Env} {R : Room} {s : State} {m : MethodId} {args : Array Value} {below : List Frame} {meth : Method} {c : Code} {H : Heap} {locs : List Loc} {cells slots : Nat} {Q : State → Prop}
variable {mc ms : Nat} {free : Addr → Prop} {A0 A1 : Nat → Prop} {H0 : Heap} {a : Array Value} {ls : Array Slot} {st0 rest : List Value}
variable {Qc : Array Value → State → Outcome → State → Prop} {XC : String → State → State → Prop}
theorem ns_throwS {cc : ByteArray} {pc : Nat} (hexec : p.tables.exec = Jvm.exec) (hb : c.code = cc) (hl : l.stackTraces = false) {own text : String} {ik is ic mc ms sa : Nat} {A : Nat → Prop}
    (hown : s.vm.findClass own = some m.cls) 
    (hk : (Cond.classLink own ik ns_X).before args s = true) (hini : (Cond.initialized ns_X).before args s = true) (hstr : vk_R own is text sa s) (hat : ∀ w ∈ ns_at own ic, w.before args s = true)
    (hgood : ∀ w ∈ Cond.classLink own ik ns_X :: Cond.initialized ns_X :: ns_at own ic, vx_ot w = true)
    (hU : vx_Zq Bundle.tN "UNASSIGNED_STACK" Bundle.steD A s s.heap) (hN : vx_Zq Bundle.tN "SUPPRESSED_SENTINEL" Bundle.listD A s s.heap) (hS : va_S A s.heap H locs) (hsize : ls.size = c.maxLocals)
    (d0 : decode cc pc = .ok (.new ik, 3)) (d3 : decode cc (pc + 3) = .ok (.dup, 1)) (d4 : decode cc (pc + 4) = .ok (.ldc is, 2)) (d6 : decode cc (pc + 6) = .ok (.invokespecial ic, 3)) (d9 : decode cc (pc + 9) = .ok (.athrow, 1))
    (hout : ∀ x ∈ c.exceptionTable.toList, covers x (pc + 9) = false)
    (hRframes : 2 + 3 < R.frames) (hRlocals : (rest.map fun v => v.category).sum + (13 * (2 + 1) + 43) ≤ R.locals) (hRcells : cells + 1 ≤ R.cells) (hRslots : slots + 6 ≤ R.slots) (hlocks : meth.locks = false)
    (hx : ∀ t : State, s.vm.Alike t.vm → H.size ≤ t.heap.size → (∀ q : Nat, q < H.size → t.heap[q]? = H[q]?) → XC ns_X s t)
    (hf : ∀ z ∈ locs, free z.base) (hc : cells + 1 ≤ mc) (hs : slots + 6 ≤ ms) :
    W p l e R s m args below meth c H locs cells slots (vx_MQ below Qc XC args s mc ms free) (F0 m pc ls rest) := by
  intro T hT X
  have htr : e.platform.stackTraces = false := (show e.platform.stackTraces = l.stackTraces by rw [X.admits.platform]).trans hl
  have Y := vx_rebase X (R' := { frames := R.frames, locals := R.locals, cells := 1, slots := 6 }) (Nat.le_refl _) (Nat.le_refl _) hRcells hRslots
  obtain ⟨s', hA⟩ : ∃ z, z = (T.setVm s.vm).setFrames (.invoking m args :: below) := ⟨_, rfl⟩
  rw [← hA] at Y
  have hvm : s'.vm = s.vm := by rw [hA]; rfl
  have hhp : s'.heap = H := by rw [hA]; exact hT
  have hW0 : s.WarmedH s'.vm := by rw [hvm]; exact State.WarmedH.refl s
  have hat' : ∀ w ∈ ns_at own ic, w.before args s' = true := fun w hw => vx_ot_at hW0 hvm.symm (hgood w (List.mem_cons_of_mem _ (List.mem_cons_of_mem _ hw))) (hat w hw)
  have hk' : (Cond.classLink own ik ns_X).before args s' = true := vx_ot_at hW0 hvm.symm (hgood _ List.mem_cons_self) hk
  have hini' : (Cond.initialized ns_X).before args s' = true := vx_ot_at hW0 hvm.symm (hgood _ (List.mem_cons_of_mem _ List.mem_cons_self)) hini
  have hU' : vx_Zq Bundle.tN "UNASSIGNED_STACK" Bundle.steD A s' s'.heap := by rw [hhp]; exact vx_Zq.moved hW0.alike (hU.kept hS.2.1)
  have hN' : vx_Zq Bundle.tN "SUPPRESSED_SENTINEL" Bundle.listD A s' s'.heap := by rw [hhp]; exact vx_Zq.moved hW0.alike (hN.kept hS.2.1)
  have h : ∀ w ∈ ns_atoms own ic, w.before args s' = true := vx_own hat' (vx_isRefq hU'.1) (vx_isRefq hN'.1) hU'.2.word hN'.2.word
  have hown' : s'.vm.findClass own = some m.cls := by rw [hvm]; exact hown
  have hins : (Cond.instantiable ns_X 6).before args s' = true := h _ (by simp [ns_atoms])
  obtain ⟨vm₁, cX, kX, hfX, hkX, -, -, X₁, st1⟩ := Y.newCold hexec (own := own) (C := ns_X) (index := ik) (n := 6) hown' hk' hins hini'
    (g := F0 m pc ls rest) rfl (by rw [hb]; exact d0) (Nat.le_refl _) (Nat.le_refl _)
  generalize hT1 : (T.setVm vm₁).pushCell { cls := cX, slots := kX.instanceTypes.map defaultValue, vm := .none } = T1 at X₁ st1
  have hcat : (Value.ref T.heap.size).category = 1 := rfl
  have hcellA : T1.heap[T.heap.size]? = some (freshCell cX kX) := by rw [← hT1]; exact State.heap_pushCell_size _ _
  have d3' : decode c.code (pc + 3) = .ok (.dup, 1) := by rw [hb]; exact d3
  have d4' : decode c.code (pc + 4) = .ok (.ldc is, 2) := by rw [hb]; exact d4
  have hstr' : vk_R own is text sa s' := vk_R.warm hW0 hstr
  obtain ⟨U, hsteps, hrun, hend, hW, hsame, ce, hce, hO, hOv⟩ := ns_ctor X₁ hexec htr (own := own) (ic := ic) hown' h (fun x hx => nomatch hx) hfX hkX hcellA (by rw [hhp, hT]; exact Nat.le_refl _) (msg := .ref sa) rfl
    (g := { method := m, pc := pc + 6, locals := ls, stack := .ref sa :: .ref T.heap.size :: .ref T.heap.size :: rest, locked := none }) rfl hsize rfl rfl (rest := rest) rfl
    (by rw [hb]; exact d6) (by rw [hb]; exact d9) hout hRframes (by simp only [List.map_cons, List.sum_cons, hcat]; omega) hlocks
  obtain ⟨f1, f2⟩ := vx_frame hsame
  rw [hhp] at f1 f2
  have hWs : s.WarmedH U.vm := State.WarmedH.trans hW0 hW
  have hcl : s.vm.findClass ns_X = some ce.cls := by
    have h9 := hO
    rw [hvm] at h9
    exact h9
  have hall : s.sameButNew ({ U with vm := s.vm } : State) locs mc ms := by
    subst hA
    obtain ⟨e1, e2⟩ := hsame
    rw [State.setFrames_setFrames] at e1
    have h2 : (T.setVm s.vm).sameButNew ({ U with vm := s.vm } : State) [] (0 + 1) (0 + 6) := ⟨e1, e2⟩
    have h3 := X.same.trans h2
    rw [List.append_nil] at h3
    exact h3.mono hc hs
  refine ⟨U, ?_, .threw T.heap.size, hrun, hend, Or.inr ⟨T.heap.size, rfl, ns_X, ce, locs, hx U hWs.alike f1 (fun q hq => f2 q hq (fun z hz => nomatch hz)), hce, hOv, hcl, hWs, hall, hf⟩⟩
  refine st1 _ ?_
  show Steps p.tables e below (T1.setTop { method := m, pc := pc + 3, locals := ls, stack := .ref T.heap.size :: rest, locked := none }) _
  jvm_step X₁.here [X₁.here.top, hexec, d3', Value.category]
  exact X₁.ldcString hexec (own := own) (text := text) (index := is) (a := sa) hown' hstr'.1 hstr'.2
    (g := { method := m, pc := pc + 4, locals := ls, stack := .ref T.heap.size :: .ref T.heap.size :: rest, locked := none }) rfl d4' _ hsteps
theorem ns_throwSW {cc : ByteArray} {pc : Nat} (hexec : p.tables.exec = Jvm.exec) (hb : c.code = cc) (hl : l.stackTraces = false) {own text : String} {ik is ic mc ms sa : Nat} {A : Nat → Prop}
    (hown : s.vm.findClass own = some m.cls) 
    (hk : (Cond.classLink own ik ns_X).before args s = true) (hini : (Cond.initialized ns_X).before args s = true) (hstr : vk_R own is text sa s) (hat : ∀ w ∈ ns_at own ic, w.before args s = true)
    (hgood : ∀ w ∈ Cond.classLink own ik ns_X :: Cond.initialized ns_X :: ns_at own ic, vx_ot w = true)
    (hU : vx_Zq Bundle.tN "UNASSIGNED_STACK" Bundle.steD A s s.heap) (hN : vx_Zq Bundle.tN "SUPPRESSED_SENTINEL" Bundle.listD A s s.heap) (hS : va_S A s.heap H locs) (hsize : ls.size = c.maxLocals)
    (d0 : decode cc pc = .ok (.new ik, 3)) (d3 : decode cc (pc + 3) = .ok (.dup, 1)) (d4 : decode cc (pc + 4) = .ok (.ldc_w is, 3)) (d7 : decode cc (pc + 7) = .ok (.invokespecial ic, 3)) (d10 : decode cc (pc + 10) = .ok (.athrow, 1))
    (hout : ∀ x ∈ c.exceptionTable.toList, covers x (pc + 10) = false)
    (hRframes : 2 + 3 < R.frames) (hRlocals : (rest.map fun v => v.category).sum + (13 * (2 + 1) + 43) ≤ R.locals) (hRcells : cells + 1 ≤ R.cells) (hRslots : slots + 6 ≤ R.slots) (hlocks : meth.locks = false)
    (hx : ∀ t : State, s.vm.Alike t.vm → H.size ≤ t.heap.size → (∀ q : Nat, q < H.size → t.heap[q]? = H[q]?) → XC ns_X s t)
    (hf : ∀ z ∈ locs, free z.base) (hc : cells + 1 ≤ mc) (hs : slots + 6 ≤ ms) :
    W p l e R s m args below meth c H locs cells slots (vx_MQ below Qc XC args s mc ms free) (F0 m pc ls rest) := by
  intro T hT X
  have htr : e.platform.stackTraces = false := (show e.platform.stackTraces = l.stackTraces by rw [X.admits.platform]).trans hl
  have Y := vx_rebase X (R' := { frames := R.frames, locals := R.locals, cells := 1, slots := 6 }) (Nat.le_refl _) (Nat.le_refl _) hRcells hRslots
  obtain ⟨s', hA⟩ : ∃ z, z = (T.setVm s.vm).setFrames (.invoking m args :: below) := ⟨_, rfl⟩
  rw [← hA] at Y
  have hvm : s'.vm = s.vm := by rw [hA]; rfl
  have hhp : s'.heap = H := by rw [hA]; exact hT
  have hW0 : s.WarmedH s'.vm := by rw [hvm]; exact State.WarmedH.refl s
  have hat' : ∀ w ∈ ns_at own ic, w.before args s' = true := fun w hw => vx_ot_at hW0 hvm.symm (hgood w (List.mem_cons_of_mem _ (List.mem_cons_of_mem _ hw))) (hat w hw)
  have hk' : (Cond.classLink own ik ns_X).before args s' = true := vx_ot_at hW0 hvm.symm (hgood _ List.mem_cons_self) hk
  have hini' : (Cond.initialized ns_X).before args s' = true := vx_ot_at hW0 hvm.symm (hgood _ (List.mem_cons_of_mem _ List.mem_cons_self)) hini
  have hU' : vx_Zq Bundle.tN "UNASSIGNED_STACK" Bundle.steD A s' s'.heap := by rw [hhp]; exact vx_Zq.moved hW0.alike (hU.kept hS.2.1)
  have hN' : vx_Zq Bundle.tN "SUPPRESSED_SENTINEL" Bundle.listD A s' s'.heap := by rw [hhp]; exact vx_Zq.moved hW0.alike (hN.kept hS.2.1)
  have h : ∀ w ∈ ns_atoms own ic, w.before args s' = true := vx_own hat' (vx_isRefq hU'.1) (vx_isRefq hN'.1) hU'.2.word hN'.2.word
  have hown' : s'.vm.findClass own = some m.cls := by rw [hvm]; exact hown
  have hins : (Cond.instantiable ns_X 6).before args s' = true := h _ (by simp [ns_atoms])
  obtain ⟨vm₁, cX, kX, hfX, hkX, -, -, X₁, st1⟩ := Y.newCold hexec (own := own) (C := ns_X) (index := ik) (n := 6) hown' hk' hins hini'
    (g := F0 m pc ls rest) rfl (by rw [hb]; exact d0) (Nat.le_refl _) (Nat.le_refl _)
  generalize hT1 : (T.setVm vm₁).pushCell { cls := cX, slots := kX.instanceTypes.map defaultValue, vm := .none } = T1 at X₁ st1
  have hcat : (Value.ref T.heap.size).category = 1 := rfl
  have hcellA : T1.heap[T.heap.size]? = some (freshCell cX kX) := by rw [← hT1]; exact State.heap_pushCell_size _ _
  have d3' : decode c.code (pc + 3) = .ok (.dup, 1) := by rw [hb]; exact d3
  have d4' : decode c.code (pc + 4) = .ok (.ldc_w is, 3) := by rw [hb]; exact d4
  have hstr' : vk_R own is text sa s' := vk_R.warm hW0 hstr
  obtain ⟨U, hsteps, hrun, hend, hW, hsame, ce, hce, hO, hOv⟩ := ns_ctor X₁ hexec htr (own := own) (ic := ic) hown' h (fun x hx => nomatch hx) hfX hkX hcellA (by rw [hhp, hT]; exact Nat.le_refl _) (msg := .ref sa) rfl
    (g := { method := m, pc := pc + 7, locals := ls, stack := .ref sa :: .ref T.heap.size :: .ref T.heap.size :: rest, locked := none }) rfl hsize rfl rfl (rest := rest) rfl
    (by rw [hb]; exact d7) (by rw [hb]; exact d10) hout hRframes (by simp only [List.map_cons, List.sum_cons, hcat]; omega) hlocks
  obtain ⟨f1, f2⟩ := vx_frame hsame
  rw [hhp] at f1 f2
  have hWs : s.WarmedH U.vm := State.WarmedH.trans hW0 hW
  have hcl : s.vm.findClass ns_X = some ce.cls := by
    have h9 := hO
    rw [hvm] at h9
    exact h9
  have hall : s.sameButNew ({ U with vm := s.vm } : State) locs mc ms := by
    subst hA
    obtain ⟨e1, e2⟩ := hsame
    rw [State.setFrames_setFrames] at e1
    have h2 : (T.setVm s.vm).sameButNew ({ U with vm := s.vm } : State) [] (0 + 1) (0 + 6) := ⟨e1, e2⟩
    have h3 := X.same.trans h2
    rw [List.append_nil] at h3
    exact h3.mono hc hs
  refine ⟨U, ?_, .threw T.heap.size, hrun, hend, Or.inr ⟨T.heap.size, rfl, ns_X, ce, locs, hx U hWs.alike f1 (fun q hq => f2 q hq (fun z hz => nomatch hz)), hce, hOv, hcl, hWs, hall, hf⟩⟩
  refine st1 _ ?_
  show Steps p.tables e below (T1.setTop { method := m, pc := pc + 3, locals := ls, stack := .ref T.heap.size :: rest, locked := none }) _
  jvm_step X₁.here [X₁.here.top, hexec, d3', Value.category]
  exact X₁.ldcStringW hexec (own := own) (text := text) (index := is) (a := sa) hown' hstr'.1 hstr'.2
    (g := { method := m, pc := pc + 4, locals := ls, stack := .ref T.heap.size :: .ref T.heap.size :: rest, locked := none }) rfl d4' _ hsteps
end NsB
end
section
/-! rows for calls -/
section mCl
variable {X : mX} {M : mM} {d : Nat} {Q : mO → mH → Prop} {pc : Nat} {L : List (Option Value)} {st : List Value} {h : mH} {bc bs : Nat}
theorem wp_newq {t ci idx : Nat} {C : String} {n : Int32} (hn : mNm M.2.2.2.2.2.1 = M.1.cls) (hd : decode M.2.1 pc = .ok (.anewarray idx, 3)) (ht : (t = 4 ∧ C = "SugarDice$Tray") ∨ (t = 5 ∧ C = "SugarDice$Game")) (hw1 : Cond.classLink (mNm M.2.2.2.2.2.1) idx C ∈ lw_tbl) (h1 : ¬ n < 0) (h2 : n.toNatClampNeg ≤ 100000) (hb1 : 1 ≤ bc) (hb2 : n.toNatClampNeg ≤ bs) (hz : h.length < mSB) (hs : mStab h L st)
    (kk : mWP X M d Q (pc + 3) L (.ref h.length :: st) (h ++ [.inl (t, n.toNatClampNeg, .inr (.inr (.inr (.inr (fun _ => none)))))]) (bc - 1) (bs - n.toNatClampNeg)) : mWP X M d Q pc L (.int n :: st) h bc bs := by
  intro p e R s m args below meth c H locs cells slots ad a0 n0 ls F G hl
  have hE := F.2.2.2.2.2.2.2.2.1
  have ho : s.vm.findClass (mNm M.2.2.2.2.2.1) = some m.cls := by rw [hn]; exact F.2.2.2.1
  have hAO : va_AO C s := by
    rcases ht with ⟨-, rfl⟩ | ⟨-, rfl⟩
    · exact hE.2.2.2.2.2.2.2.2.1
    · exact hE.2.2.2.2.2.2.2.2.2.1
  have t2 : (mT X.2.2.1)[t]? = some (X.2.2.1 t, .object C) := by
    rcases ht with ⟨rfl, rfl⟩ | ⟨rfl, rfl⟩ <;> rfl
  refine va_newq (D := X.2.1) (cl := vwCl) (tys := mT X.2.2.1) (C := C) F.1 F.2.1 ho (hE.word hw1 rfl) hAO hE.2.1 G.1.1 G.1.2.1 G.2.1 (fun q hq => Nat.le_trans hE.2.2.2.2.2.2.2.2.2.2.1 hq) h1 rfl (by omega) (by have := G.2.2.2.2.1; omega) (by have := G.2.2.2.2.2; omega) hd (fun q cA H1 hK1 g1 g2 g3 => ?_)
  have hcA : cA = X.2.2.1 t := by
    obtain ⟨kA, comp, -, -, -, q1⟩ := (hE.2.1.2 t _ t2).2
    obtain ⟨kA2, comp2, -, -, -, q2⟩ := (hK1.2 (mT X.2.2.1).length (cA, .object C) (by simp)).2
    exact Option.some.inj (q2.symm.trans q1)
  subst hcA
  have k1 := kk p e R s m args below meth c H1 locs (cells + 1) (slots + n.toNatClampNeg) (mUp ad h.length q) a0 n0 ls F (G.grow (e := .inl (t, n.toNatClampNeg, .inr (.inr (.inr (.inr (fun _ => none)))))) hz hs.1 (fun i hi => by cases hi) g1 g2 g3 hb1 hb2) (hl.up hs.2.1)
  rw [List.map_cons, mSt_up hs.2.2] at k1
  simp only [mV, mUp_n] at k1
  exact k1
theorem wp_obj {idx k : Nat} (hn : mNm M.2.2.2.2.2.1 = M.1.cls) (hd : decode M.2.1 pc = .ok (.invokespecial idx, 3)) (hw : Cond.methodLink (mNm M.2.2.2.2.2.1) idx Lib.objectInit ∈ lw_tbl) (hst : (st.map fun v => v.category).sum ≤ 8) (kk : mWP X M d Q (pc + 3) L st h bc bs) : mWP X M d Q pc L (.ref k :: st) h bc bs := by
  intro p e R s m args below meth c H locs cells slots ad a0 n0 ls F G hl
  have hE := F.2.2.2.2.2.2.2.2.1
  have hR := F.2.2.2.2.2.2.2.2.2
  have ho : s.vm.findClass (mNm M.2.2.2.2.2.1) = some m.cls := by rw [hn]; exact F.2.2.2.1
  have hst' : ((st.map (mV ad)).map fun v => v.category).sum ≤ 8 := by
    rw [List.map_map]
    simpa [Function.comp_def, mV_cat] using hst
  refine W.objInit F.1 F.2.1 ho (hE.word hw rfl) (hE.word (by decide +kernel) rfl) (hE.word (by decide +kernel) rfl) rfl (by rw [F.2.2.1]; exact hl.1) rfl hd (by omega) ?_ (kk p e R s m args below meth c H locs cells slots ad a0 n0 ls F G hl)
  have := lv_room (m := m) (pc := pc) (ls := ls) (rest := (.ref (ad k) :: st.map (mV ad))) hst'
  show 2 * (F0 m pc ls (.ref (ad k) :: st.map (mV ad))).monitorRoom + ((st.map (mV ad)).map fun v => v.category).sum + 12 ≤ R.locals
  omega
/-- the exceptions that are thrown: the class's link, its constructor's link -/
def mXok (ik n ic : Nat) : Prop := Bundle.fit (mEx n) = true ∧ Cond.classLink RX9 ik (mEx n) ∈ lw_tbl ∧ Cond.initialized (mEx n) ∈ lw_tbl ∧ (∀ w ∈ vx_atS RX9 ic (mEx n) ["java/lang/RuntimeException", "java/lang/Exception"], w ∈ lw_tbl ∧ mOk w = true) ∧ (∀ w ∈ Cond.classLink RX9 ik (mEx n) :: Cond.initialized (mEx n) :: vx_atS RX9 ic (mEx n) ["java/lang/RuntimeException", "java/lang/Exception"], vx_ot w = true)
theorem mX_0 : mXok 92 0 96 := ⟨by decide +kernel, by decide +kernel, by decide +kernel, by decide +kernel, by decide +kernel⟩
def mXns (ik ic : Nat) : Prop := Cond.classLink RX9 ik ns_X ∈ lw_tbl ∧ Cond.initialized ns_X ∈ lw_tbl ∧ (∀ w ∈ ns_at RX9 ic, w ∈ lw_tbl ∧ mOk w = true) ∧ (∀ w ∈ Cond.classLink RX9 ik ns_X :: Cond.initialized ns_X :: ns_at RX9 ic, vx_ot w = true)
theorem mX_1 : mXns 193 197 := ⟨by decide +kernel, by decide +kernel, by decide +kernel, by decide +kernel⟩
theorem mX_2 : mXok 180 2 184 := ⟨by decide +kernel, by decide +kernel, by decide +kernel, by decide +kernel, by decide +kernel⟩
theorem mX_3 : mXok 394 3 398 := ⟨by decide +kernel, by decide +kernel, by decide +kernel, by decide +kernel, by decide +kernel⟩
theorem mXt_ok {ik n ic : Nat} (h : (ik, n, ic) ∈ mXt 9) : mXok ik n ic ∨ (n = 1 ∧ mXns ik ic) := by
  simp only [mXt, mXt9, List.mem_cons, Prod.mk.injEq, List.not_mem_nil, or_false] at h
  rcases h with ⟨rfl, rfl, rfl⟩ | ⟨rfl, rfl, rfl⟩ | ⟨rfl, rfl, rfl⟩ | ⟨rfl, rfl, rfl⟩
  · exact Or.inl mX_0
  · exact Or.inl mX_2
  · exact Or.inr ⟨rfl, mX_1⟩
  · exact Or.inl mX_3
theorem mSt_ok : ∀ q ∈ mSt 9, (RX9, q) ∈ mStr := by decide +kernel
theorem mThrown {s t : State} {H : Heap} {locs : List Loc} {ad a0 : Nat → Nat} {n0 : Nat} (hS : va_S (mB X) s.heap H locs) (hW : mWd X ad h H) (hz : H.size ≤ t.heap.size) (hq : ∀ q : Nat, q < H.size → t.heap[q]? = H[q]?) : mWd X ad h t.heap ∧ va_F (mB X) s t := by
  refine ⟨⟨hW.1.kept (fun k q hk => hq _ ((hW.1 k q hk).lt)), hW.2⟩, Nat.le_trans hS.1 hz, fun q h1 h2 => ?_⟩
  rw [hq q (Nat.lt_of_lt_of_le h1 hS.1)]
  exact hS.2.1 q h1 h2
theorem wp_throw {ik n ic is sn : Nat} {tx : String} (h9 : M.2.2.2.2.2.1 = 9) (hn : mNm M.2.2.2.2.2.1 = M.1.cls) (hh : M.2.2.2.2.1 = []) (hx : mLk (mXt 9) ik = some (n, ic)) (hs : mLk (mSt 9) is = some (tx, sn)) (hb1 : 1 ≤ bc) (hb2 : 6 ≤ bs) (hst : (st.map fun v => v.category).sum ≤ 8)
    (d0 : decode M.2.1 pc = .ok (.new ik, 3)) (d3 : decode M.2.1 (pc + 3) = .ok (.dup, 1)) (d4 : (decode M.2.1 (pc + 4) = .ok (.ldc is, 2) ∧ decode M.2.1 (pc + 6) = .ok (.invokespecial ic, 3) ∧ decode M.2.1 (pc + 9) = .ok (.athrow, 1)) ∨ (decode M.2.1 (pc + 4) = .ok (.ldc_w is, 3) ∧ decode M.2.1 (pc + 7) = .ok (.invokespecial ic, 3) ∧ decode M.2.1 (pc + 10) = .ok (.athrow, 1)))
    (hQ : Q (.inr n) h) : mWP X M d Q pc L st h bc bs := by
  intro p e R s m args below meth c H locs cells slots ad a0 n0 ls F G hl
  have hE := F.2.2.2.2.2.2.2.2.1
  have hR := F.2.2.2.2.2.2.2.2.2
  have hr9 : mNm M.2.2.2.2.2.1 = RX9 := by rw [h9]; rfl
  have ho : s.vm.findClass RX9 = some m.cls := by rw [← hr9, hn]; exact F.2.2.2.1
  have hstr : vk_R RX9 is tx (X.2.2.2.2.1 sn) s := hE.2.2.2.2.1 _ (mSt_ok _ (mLk_mem hs))
  have hst' : ((st.map (mV ad)).map fun v => v.category).sum ≤ 8 := by
    rw [List.map_map]
    simpa [Function.comp_def, mV_cat] using hst
  have hex : ∀ x ∈ c.exceptionTable.toList, False := by
    rw [F.2.2.2.2.2.2.1, hh]
    intro x hx
    cases hx
  have hG := G
  obtain ⟨g1, g2, g3, g4, g5, g6⟩ := hG
  have hxc : ∀ t : State, s.vm.Alike t.vm → H.size ≤ t.heap.size → (∀ q : Nat, q < H.size → t.heap[q]? = H[q]?) → mXC X a0 n0 Q (mEx n) s t := fun t _ hz hq => by
    obtain ⟨q1, q2⟩ := mThrown (a0 := a0) (n0 := n0) g2 g1 hz hq
    exact ⟨n, ad, h, rfl, hQ, q1, g3, g4, q2⟩
  rcases mXt_ok (mLk_mem hx) with ⟨x1, x2, x3, x4, x5⟩ | ⟨rfl, x2, x3, x4, x5⟩
  · rcases d4 with ⟨d4, d6, d9⟩ | ⟨d4, d6, d9⟩
    · exact vx_throwS (A := mB X) (mc := R.cells) (ms := R.slots) F.1 F.2.1 hE.2.2.2.2.2.2.2.2.2.2.2.1 ho x1 (by decide) (hE.word x2 rfl) (hE.word x3 rfl) hstr (fun w hw => hE.word (x4 w hw).1 (x4 w hw).2) x5 hE.2.2.1 hE.2.2.2.1 g2 (by rw [F.2.2.1]; exact hl.1) d0 d3 d4 d6 d9 (fun x hx => (hex x hx).elim) (by show 2 + 3 < R.frames; omega) (by show _ + (13 * 3 + 43) ≤ _; omega) (by omega) (by omega) F.2.2.2.2.2.1 hxc g2.2.2 (by omega) (by omega)
    · exact vx_throwSW (A := mB X) (mc := R.cells) (ms := R.slots) F.1 F.2.1 hE.2.2.2.2.2.2.2.2.2.2.2.1 ho x1 (by decide) (hE.word x2 rfl) (hE.word x3 rfl) hstr (fun w hw => hE.word (x4 w hw).1 (x4 w hw).2) x5 hE.2.2.1 hE.2.2.2.1 g2 (by rw [F.2.2.1]; exact hl.1) d0 d3 d4 d6 d9 (fun x hx => (hex x hx).elim) (by show 2 + 3 < R.frames; omega) (by show _ + (13 * 3 + 43) ≤ _; omega) (by omega) (by omega) F.2.2.2.2.2.1 hxc g2.2.2 (by omega) (by omega)
  · rcases d4 with ⟨d4, d6, d9⟩ | ⟨d4, d6, d9⟩
    · exact ns_throwS (A := mB X) (mc := R.cells) (ms := R.slots) F.1 F.2.1 hE.2.2.2.2.2.2.2.2.2.2.2.1 ho (hE.word x2 rfl) (hE.word x3 rfl) hstr (fun w hw => hE.word (x4 w hw).1 (x4 w hw).2) x5 hE.2.2.1 hE.2.2.2.1 g2 (by rw [F.2.2.1]; exact hl.1) d0 d3 d4 d6 d9 (fun x hx => (hex x hx).elim) (by show 2 + 3 < R.frames; omega) (by show _ + (13 * 3 + 43) ≤ _; omega) (by omega) (by omega) F.2.2.2.2.2.1 hxc g2.2.2 (by omega) (by omega)
    · exact ns_throwSW (A := mB X) (mc := R.cells) (ms := R.slots) F.1 F.2.1 hE.2.2.2.2.2.2.2.2.2.2.2.1 ho (hE.word x2 rfl) (hE.word x3 rfl) hstr (fun w hw => hE.word (x4 w hw).1 (x4 w hw).2) x5 hE.2.2.1 hE.2.2.2.1 g2 (by rw [F.2.2.1]; exact hl.1) d0 d3 d4 d6 d9 (fun x hx => (hex x hx).elim) (by show 2 + 3 < R.frames; omega) (by show _ + (13 * 3 + 43) ≤ _; omega) (by omega) (by omega) F.2.2.2.2.2.1 hxc g2.2.2 (by omega) (by omega)
end mCl
end
section
/-! behind a call -/
def mWfV (h : mH) (v : Value) : Bool := match v with
  | .ref k => (h[k]?).isSome || Nat.ble mSB k
  | _ => true
def mWfS (h : mH) (L : List (Option Value)) (st : List Value) : Bool := L.all (fun o => match o with
  | some v => mWfV h v
  | none => true) && st.all (mWfV h)
section mAf
variable {X : mX} {M : mM} {d : Nat} {Q : mO → mH → Prop} {pc : Nat} {L : List (Option Value)} {st : List Value} {h : mH} {bc bs : Nat}
theorem mWfV.same {h1 : mH} {H H1 : Heap} {ad ad1 : Nat → Nat} {v : Value} (hv : mWfV h v = true) (hW : mWd X ad h H) (hW1 : mWd X ad1 h1 H1) (hag : ∀ k, k < h.length → ad1 k = ad k) : mV ad1 v = mV ad v := by
  cases v with
  | ref k =>
    simp only [mWfV, Bool.or_eq_true] at hv
    rcases hv with hv | hv
    · have hk : k < h.length := by
        cases hh : h[k]? with
        | none => rw [hh] at hv; cases hv
        | some e => exact (List.getElem?_eq_some_iff.mp hh).1
      simp only [mV, hag k hk]
    · have hk : mSB ≤ k := Nat.le_of_ble_eq_true hv
      obtain ⟨i, rfl⟩ := Nat.exists_eq_add_of_le hk
      simp only [mV, hW.2.2, hW1.2.2]
  | _ => rfl
theorem mWfS.stk {h1 : mH} {H H1 : Heap} {ad ad1 : Nat → Nat} (hwf : mWfS h L st = true) (hW : mWd X ad h H) (hW1 : mWd X ad1 h1 H1) (hag : ∀ k, k < h.length → ad1 k = ad k) : st.map (mV ad1) = st.map (mV ad) := by
  simp only [mWfS, Bool.and_eq_true] at hwf
  exact List.map_congr_left fun v hv => mWfV.same (List.all_eq_true.mp hwf.2 v hv) hW hW1 hag
theorem mWfS.ls {h1 : mH} {H H1 : Heap} {ad ad1 : Nat → Nat} {nL : Nat} {ls : Array Slot} (hwf : mWfS h L st = true) (hW : mWd X ad h H) (hW1 : mWd X ad1 h1 H1) (hag : ∀ k, k < h.length → ad1 k = ad k) (hl : mLs ad L nL ls) : mLs ad1 L nL ls := by
  simp only [mWfS, Bool.and_eq_true] at hwf
  refine ⟨hl.1, hl.2.1, fun k v hk => ?_⟩
  have h2 := List.all_eq_true.mp hwf.1 _ (List.mem_of_getElem? hk)
  rw [mWfV.same h2 hW hW1 hag]
  exact hl.2.2 k v hk
theorem mAfter {p : Program} {e : Env} {R : Room} {s : State} {m : MethodId} {args : Array Value} {below : List Frame} {meth : Method} {c : Code} {H : Heap} {locs : List Loc} {cells slots mc ms n0 : Nat} {ad a0 : Nat → Nat} {ls : Array Slot} {st0 : List Value} {Q2 : mO → mH → Prop} {av : Array Value}
    (F : mF X M d p R s m meth c) (G : mG X h bc bs R s H locs cells slots ad a0 n0) (hl : mLs ad L M.2.2.1 ls)
    (hr : vx_Run p X.1 e R s m args below meth c H locs cells slots mc ms (F0 m pc ls st0) (st.map (mV ad)) (mQc X ad h.length Q2 av) (mXC X ad h.length Q2) (mB X)) (hmc : mc ≤ bc) (hms : ms ≤ bs) (hwf : mWfS h L st = true)
    (k1 : ∀ (r : Option Value) (h1 : mH), Q2 (.inl r) h1 → mWP X M d Q (pc + 3) L (r.toList ++ st) h1 (bc - mc) (bs - ms))
    (kx : ∀ (n : Nat) (h1 : mH) (ad1 : Nat → Nat) (H1 : Heap) (locs1 : List Loc) (q : Addr) (ce : Cell), Q2 (.inr n) h1 → mG X h1 (bc - mc) (bs - ms) R s H1 locs1 (cells + mc) (slots + ms) ad1 a0 n0 → H1[q]? = some ce → ce.vm = .none → s.vm.findClass (mEx n) = some ce.cls → mLs ad1 L M.2.2.1 ls → vx_W p X.1 e R s m args below meth c H1 locs1 (cells + mc) (slots + ms) (vx_MQ below (mQc X a0 n0 Q) (mXC X a0 n0 Q) args s R.cells R.slots (mB X)) (F0 m pc ls (st.map (mV ad))) q) :
    W p X.1 e R s m args below meth c H locs cells slots (vx_MQ below (mQc X a0 n0 Q) (mXC X a0 n0 Q) args s R.cells R.slots (mB X)) (F0 m pc ls st0) := by
  intro T hT Xs
  obtain ⟨g1, g2, g3, g4, g5, g6⟩ := G
  rcases hr T hT Xs with ⟨v, st₀, t, T', Lc, h0, X', hL, e1, e2, ⟨r, ad1, h1, hv, hq, hW1, hag, hn1, hF⟩, st'⟩ | ⟨q, st₀, t, T', Lc, E, ce, h0, X', hL, e1, e2, ⟨n, ad1, h1, hEn, hq, hW1, hag, hn1, hF⟩, hce, hcv, hcl, st'⟩
  · cases hv
    obtain ⟨-, -, k3⟩ := vx_keep h0 e1 g2 (fun q _ h => h) (fun q h => h) hL hF
    rw [← e1] at hW1
    have G1 : mG X h1 (bc - mc) (bs - ms) R s T'.heap (locs ++ Lc) (cells + mc) (slots + ms) ad1 a0 n0 := ⟨hW1, k3, fun k hk => by rw [hag k (by omega)]; exact g3 k hk, by omega, by omega, by omega⟩
    have hk := k1 r h1 hq p e R s m args below meth c T'.heap (locs ++ Lc) (cells + mc) (slots + ms) ad1 a0 n0 ls F G1 (mWfS.ls hwf g1 hW1 hag hl)
    obtain ⟨t2, a1, b1⟩ := hk T' rfl X'
    refine ⟨t2, st' t2 ?_, b1⟩
    have e3 : (r.map (mV ad1)).toList ++ st.map (mV ad) = (r.toList ++ st).map (mV ad1) := by
      rw [List.map_append, mWfS.stk hwf g1 hW1 hag]
      cases r <;> rfl
    have e4 : ({ F0 m pc ls st0 with pc := (F0 m pc ls st0).pc + 3, stack := (r.map (mV ad1)).toList ++ st.map (mV ad) } : JFrame) = F0 m (pc + 3) ls ((r.toList ++ st).map (mV ad1)) := by rw [e3]
    rw [e4]
    exact a1
  · subst hEn
    obtain ⟨-, -, k3⟩ := vx_keep h0 e1 g2 (fun q _ h => h) (fun q h => h) hL hF
    rw [← e1] at hW1
    have G1 : mG X h1 (bc - mc) (bs - ms) R s T'.heap (locs ++ Lc) (cells + mc) (slots + ms) ad1 a0 n0 := ⟨hW1, k3, fun k hk => by rw [hag k (by omega)]; exact g3 k hk, by omega, by omega, by omega⟩
    obtain ⟨t2, a1, b1⟩ := kx n h1 ad1 T'.heap (locs ++ Lc) q ce hq G1 (by rw [e1]; exact hce) hcv hcl (mWfS.ls hwf g1 hW1 hag hl) T' rfl X'
    exact ⟨t2, st'.trans a1, b1⟩
/-- thrown on: a method without handlers -/
theorem mOut {p : Program} {e : Env} {R : Room} {s : State} {m : MethodId} {args : Array Value} {below : List Frame} {meth : Method} {c : Code} {H1 : Heap} {locs1 : List Loc} {cells slots n0 n : Nat} {ad1 a0 : Nat → Nat} {ls : Array Slot} {rest : List Value} {h1 : mH} {q : Addr} {ce : Cell}
    (F : mF X M d p R s m meth c) (hh : M.2.2.2.2.1 = []) (hQ : Q (.inr n) h1) (G : mG X h1 bc bs R s H1 locs1 cells slots ad1 a0 n0) (hce : H1[q]? = some ce) (hcv : ce.vm = .none) (hcl : s.vm.findClass (mEx n) = some ce.cls) :
    vx_W p X.1 e R s m args below meth c H1 locs1 cells slots (vx_MQ below (mQc X a0 n0 Q) (mXC X a0 n0 Q) args s R.cells R.slots (mB X)) (F0 m pc ls rest) q := by
  obtain ⟨g1, g2, g3, g4, g5, g6⟩ := G
  refine vx_out (fun x hx => ?_) F.2.2.2.2.2.1 hce hcv hcl (fun t ht _ => ⟨n, ad1, h1, rfl, hQ, by rw [ht]; exact g1, g3, g4, g2.F ht⟩) g2.2.2 (by omega) (by omega)
  rw [F.2.2.2.2.2.2.1, hh] at hx
  cases hx
/-- which handler takes the exception E that comes at pc -/
def mHd (pc E : Nat) : List (Nat × Nat × Nat × Nat) → Option Nat
  | [] => none
  | q :: r => if q.1 ≤ pc ∧ pc < q.2.1 then (match mLk mHt q.2.2.2 with
    | some n => if n = E then some q.2.2.1 else mHd pc E r
    | none => none) else mHd pc E r
theorem mHt_ok : ∀ q ∈ mHt, Cond.classLink RL q.1 (mEx q.2) ∈ lw_tbl ∧ q.1 ≠ 0 ∧ q.2 < 4 := by decide +kernel
theorem mNc_ok0 : ∀ a : Fin 4, ∀ b : Fin 4, a ≠ b → (mEx a, mEx b) ∈ mNc := by decide +kernel
theorem mNc_ok (a : Nat) (ha : a < 4) (b : Nat) (hb : b < 4) (h : a ≠ b) : (mEx a, mEx b) ∈ mNc := mNc_ok0 ⟨a, ha⟩ ⟨b, hb⟩ (fun e => h (congrArg Fin.val e))
theorem mCast_ok : ∀ a, a < 4 → Cond.castable (mEx a) (mEx a) ∈ lw_tbl := by decide +kernel
theorem mHd_spec {pc E hp : Nat} (hE : E < 4) : ∀ {hh : List (Nat × Nat × Nat × Nat)}, mHd pc E hh = some hp → ∃ (pre suf : List (Nat × Nat × Nat × Nat)) (x : Nat × Nat × Nat × Nat), hh = pre ++ x :: suf ∧ x.2.2.1 = hp ∧ (x.1 ≤ pc ∧ pc < x.2.1) ∧ (x.2.2.2, E) ∈ mHt ∧ ∀ z ∈ pre, ¬ (z.1 ≤ pc ∧ pc < z.2.1) ∨ ∃ n, n ≠ E ∧ (z.2.2.2, n) ∈ mHt
  | [], h => by cases h
  | q :: r, h => by
    simp only [mHd] at h
    split at h
    · rename_i hc
      split at h
      · rename_i n hn
        split at h
        · rename_i hEq
          cases h
          subst hEq
          exact ⟨[], r, q, rfl, rfl, hc, mLk_mem hn, fun z hz => by cases hz⟩
        · rename_i hne
          obtain ⟨pre, suf, x, h1, h2, h3, h4, h5⟩ := mHd_spec hE h
          refine ⟨q :: pre, suf, x, by rw [h1]; rfl, h2, h3, h4, fun z hz => ?_⟩
          rcases List.mem_cons.mp hz with rfl | hz
          · exact Or.inr ⟨n, hne, mLk_mem hn⟩
          · exact h5 z hz
      · cases h
    · rename_i hc
      obtain ⟨pre, suf, x, h1, h2, h3, h4, h5⟩ := mHd_spec hE h
      refine ⟨q :: pre, suf, x, by rw [h1]; rfl, h2, h3, h4, fun z hz => ?_⟩
      rcases List.mem_cons.mp hz with rfl | hz
      · exact Or.inl hc
      · exact h5 z hz
theorem mCatch {p : Program} {e : Env} {R : Room} {s : State} {m : MethodId} {args : Array Value} {below : List Frame} {meth : Method} {c : Code} {H1 : Heap} {locs1 : List Loc} {cells slots n0 E hp j : Nat} {ad1 a0 : Nat → Nat} {ls : Array Slot} {rest : List Value} {h1 : mH} {q : Addr} {ce : Cell} {v : Int}
    (F : mF X M d p R s m meth c) (hn : M.1.cls = RL) (hE : E < 4) (hh : mHd pc E M.2.2.2.2.1 = some hp) (hd : (decode M.2.1 hp = .ok (.astore j, 2) ∧ decode M.2.1 (hp + 2) = .ok (.iconst v, 1) ∧ decode M.2.1 (hp + 3) = .ok (.ireturn, 1)) ∨ (∃ i : Fin 4, (i : Nat) = j ∧ decode M.2.1 hp = .ok (.astore_n i, 1) ∧ decode M.2.1 (hp + 1) = .ok (.iconst v, 1) ∧ decode M.2.1 (hp + 2) = .ok (.ireturn, 1))) (hj : j < M.2.2.1) (hr : M.2.2.2.1 = some .int)
    (hQ : Q (.inl (some (.int (Int32.ofInt v)))) h1) (G : mG X h1 bc bs R s H1 locs1 cells slots ad1 a0 n0) (hl : mLs ad1 L M.2.2.1 ls) (hce : H1[q]? = some ce) (hcv : ce.vm = .none) (hcl : s.vm.findClass (mEx E) = some ce.cls) :
    vx_W p X.1 e R s m args below meth c H1 locs1 cells slots (vx_MQ below (mQc X a0 n0 Q) (mXC X a0 n0 Q) args s R.cells R.slots (mB X)) (F0 m pc ls rest) q := by
  obtain ⟨pre, suf, x, h2, h3, h4, h5, h6⟩ := mHd_spec hE hh
  have hEn := F.2.2.2.2.2.2.2.2.1
  have ho : s.vm.findClass RL = some m.cls := by rw [← hn]; exact F.2.2.2.1
  have hx := mHt_ok _ h5
  obtain ⟨g1, g2, g3, g4, g5, g6⟩ := G
  have hend : ∀ (pc9 : Nat) (ls9 : Array Slot), decode M.2.1 pc9 = .ok (.iconst v, 1) → decode M.2.1 (pc9 + 1) = .ok (.ireturn, 1) → W p X.1 e R s m args below meth c H1 locs1 cells slots (vx_MQ below (mQc X a0 n0 Q) (mXC X a0 n0 Q) args s R.cells R.slots (mB X)) (F0 m pc9 ls9 []) := by
    intro pc9 ls9 d1 d2
    refine lv_iconst F.1 F.2.1 d1 rfl ?_
    refine W.widen (Nat.le_trans (Nat.le_add_right _ _) g5) (Nat.le_trans (Nat.le_add_right _ _) g6) ?_
    refine vx_ret ?_
    exact W.iret F.1 F.2.1 (by rw [F.2.2.2.2.1, hr]) (fun t ht hW => ⟨some (.int (Int32.ofInt v)), ad1, h1, rfl, hQ, by rw [ht]; exact g1, g3, g4, g2.F ht⟩) g2.2.2 d2 (hlocks := F.2.2.2.2.2.1)
  refine vx_catch (own := RL) (name := mEx E) (E := mEx E) ho (tableOf pre) ⟨x.1, x.2.1, x.2.2.1, x.2.2.2⟩ (tableOf suf) (by rw [F.2.2.2.2.2.2.1, h2]; simp [tableOf]) (fun z hz => ?_) ?_ hx.2.1 (hEn.word hx.1 rfl) (hEn.word (mCast_ok E hE) rfl) hce hcv hcl ?_
  · obtain ⟨z0, hz0, rfl⟩ := List.mem_map.mp hz
    rcases h6 z0 hz0 with h7 | ⟨n, hne, h7⟩
    · refine Or.inl ?_
      simp only [covers]
      simpa using h7
    · have hy := mHt_ok _ h7
      exact Or.inr ⟨hy.2.1, mEx n, hEn.word hy.1 rfl, hEn.2.2.2.2.2.2.2.1 _ (mNc_ok E hE n hy.2.2 (fun e => hne e.symm))⟩
  · simp only [covers]
    simpa using h4
  · show W p X.1 e R s m args below meth c H1 locs1 cells slots _ (F0 m x.2.2.1 ls [.ref q])
    rw [h3]
    rcases hd with ⟨d1, d2, d3⟩ | ⟨i, hi, d1, d2, d3⟩
    · exact lv_astore F.1 F.2.1 d1 hl.has hj rfl (fun ls1 _ => hend (hp + 2) ls1 d2 d3)
    · exact lv_astore_n F.1 F.2.1 d1 hi hl.has hj rfl (fun ls1 _ => hend (hp + 1) ls1 d2 d3)
end mAf
end
section
set_option maxRecDepth 100000 in
theorem mCd_X0_init : mCode mX0_init ∈ lw_tbl := List.mem_of_getElem? (i := 337) rfl
set_option maxRecDepth 100000 in
theorem mCd_X0_waysToBeat : mCode mX0_waysToBeat ∈ lw_tbl := List.mem_of_getElem? (i := 480) rfl
set_option maxRecDepth 100000 in
theorem mCd_X0_waysToTie : mCode mX0_waysToTie ∈ lw_tbl := List.mem_of_getElem? (i := 1295) rfl
set_option maxRecDepth 100000 in
theorem mCd_X0_isBetter : mCode mX0_isBetter ∈ lw_tbl := List.mem_of_getElem? (i := 476) rfl
set_option maxRecDepth 100000 in
theorem mCd_X0_strongestDie : mCode mX0_strongestDie ∈ lw_tbl := List.mem_of_getElem? (i := 468) rfl
set_option maxRecDepth 100000 in
theorem mCd_X0_weakerOnes : mCode mX0_weakerOnes ∈ lw_tbl := List.mem_of_getElem? (i := 472) rfl
set_option maxRecDepth 100000 in
theorem mCd_X0_ringAt : mCode mX0_ringAt ∈ lw_tbl := List.mem_of_getElem? (i := 501) rfl
set_option maxRecDepth 100000 in
theorem mCd_X0_evenestTwo : mCode mX0_evenestTwo ∈ lw_tbl := List.mem_of_getElem? (i := 509) rfl
set_option maxRecDepth 100000 in
theorem mCd_X1_init : mCode mX1_init ∈ lw_tbl := List.mem_of_getElem? (i := 307) rfl
set_option maxRecDepth 100000 in
theorem mCd_X1_begin : mCode mX1_begin ∈ lw_tbl := List.mem_of_getElem? (i := 447) rfl
set_option maxRecDepth 100000 in
theorem mCd_X1_draw : mCode mX1_draw ∈ lw_tbl := List.mem_of_getElem? (i := 455) rfl
set_option maxRecDepth 100000 in
theorem mCd_X2_init : mCode mX2_init ∈ lw_tbl := List.mem_of_getElem? (i := 266) rfl
set_option maxRecDepth 100000 in
theorem mCd_X2_begin : mCode mX2_begin ∈ lw_tbl := List.mem_of_getElem? (i := 752) rfl
set_option maxRecDepth 100000 in
theorem mCd_X2_copyFrom : mCode mX2_copyFrom ∈ lw_tbl := List.mem_of_getElem? (i := 1500) rfl
set_option maxRecDepth 100000 in
theorem mCd_X2_hasDie : mCode mX2_hasDie ∈ lw_tbl := List.mem_of_getElem? (i := 771) rfl
set_option maxRecDepth 100000 in
theorem mCd_X2_hasHand : mCode mX2_hasHand ∈ lw_tbl := List.mem_of_getElem? (i := 815) rfl
set_option maxRecDepth 100000 in
theorem mCd_X2_weight : mCode mX2_weight ∈ lw_tbl := List.mem_of_getElem? (i := 484) rfl
set_option maxRecDepth 100000 in
theorem mCd_X2_total : mCode mX2_total ∈ lw_tbl := List.mem_of_getElem? (i := 492) rfl
set_option maxRecDepth 100000 in
theorem mCd_X2_allTotals : mCode mX2_allTotals ∈ lw_tbl := List.mem_of_getElem? (i := 559) rfl
set_option maxRecDepth 100000 in
theorem mCd_X2_isGone : mCode mX2_isGone ∈ lw_tbl := List.mem_of_getElem? (i := 488) rfl
set_option maxRecDepth 100000 in
theorem mCd_X2_goneDice : mCode mX2_goneDice ∈ lw_tbl := List.mem_of_getElem? (i := 554) rfl
set_option maxRecDepth 100000 in
theorem mCd_X2_isSalt : mCode mX2_isSalt ∈ lw_tbl := List.mem_of_getElem? (i := 797) rfl
set_option maxRecDepth 100000 in
theorem mCd_X2_makeSalt : mCode mX2_makeSalt ∈ lw_tbl := List.mem_of_getElem? (i := 844) rfl
set_option maxRecDepth 100000 in
theorem mCd_X2_heat : mCode mX2_heat ∈ lw_tbl := List.mem_of_getElem? (i := 820) rfl
set_option maxRecDepth 100000 in
theorem mCd_X2_cool : mCode mX2_cool ∈ lw_tbl := List.mem_of_getElem? (i := 1070) rfl
set_option maxRecDepth 100000 in
theorem mCd_X2_dieByLot : mCode mX2_dieByLot ∈ lw_tbl := List.mem_of_getElem? (i := 825) rfl
set_option maxRecDepth 100000 in
theorem mCd_X2_wear : mCode mX2_wear ∈ lw_tbl := List.mem_of_getElem? (i := 901) rfl
set_option maxRecDepth 100000 in
theorem mCd_X2_hasRoomForThrow : mCode mX2_hasRoomForThrow ∈ lw_tbl := List.mem_of_getElem? (i := 881) rfl
set_option maxRecDepth 100000 in
theorem mCd_X2_whyNot : mCode mX2_whyNot ∈ lw_tbl := List.mem_of_getElem? (i := 922) rfl
set_option maxRecDepth 100000 in
theorem mCd_X2_whyNotTold : mCode mX2_whyNotTold ∈ lw_tbl := List.mem_of_getElem? (i := 984) rfl
set_option maxRecDepth 100000 in
theorem mCd_X2_throwToldOne : mCode mX2_throwToldOne ∈ lw_tbl := List.mem_of_getElem? (i := 990) rfl
set_option maxRecDepth 100000 in
theorem mCd_X2_faceByDraw : mCode mX2_faceByDraw ∈ lw_tbl := List.mem_of_getElem? (i := 887) rfl
set_option maxRecDepth 100000 in
theorem mCd_X2_throwFace : mCode mX2_throwFace ∈ lw_tbl := List.mem_of_getElem? (i := 891) rfl
set_option maxRecDepth 100000 in
theorem mCd_X2_undo : mCode mX2_undo ∈ lw_tbl := List.mem_of_getElem? (i := 935) rfl
set_option maxRecDepth 100000 in
theorem mCd_X2_toldThrow : mCode mX2_toldThrow ∈ lw_tbl := List.mem_of_getElem? (i := 537) rfl
set_option maxRecDepth 100000 in
theorem mCd_X2_dieOfThrow : mCode mX2_dieOfThrow ∈ lw_tbl := List.mem_of_getElem? (i := 533) rfl
set_option maxRecDepth 100000 in
theorem mCd_X2_handOfThrow : mCode mX2_handOfThrow ∈ lw_tbl := List.mem_of_getElem? (i := 833) rfl
set_option maxRecDepth 100000 in
theorem mCd_X2_faceOfThrow : mCode mX2_faceOfThrow ∈ lw_tbl := List.mem_of_getElem? (i := 545) rfl
set_option maxRecDepth 100000 in
theorem mCd_X2_faceForAnts : mCode mX2_faceForAnts ∈ lw_tbl := List.mem_of_getElem? (i := 1018) rfl
set_option maxRecDepth 100000 in
theorem mCd_X2_feedAnts : mCode mX2_feedAnts ∈ lw_tbl := List.mem_of_getElem? (i := 1014) rfl
set_option maxRecDepth 100000 in
theorem mCd_X2_weightAfterAnts : mCode mX2_weightAfterAnts ∈ lw_tbl := List.mem_of_getElem? (i := 1029) rfl
set_option maxRecDepth 100000 in
theorem mCd_X2_lastFaceForAnts : mCode mX2_lastFaceForAnts ∈ lw_tbl := List.mem_of_getElem? (i := 1050) rfl
set_option maxRecDepth 100000 in
theorem mCd_X2_drawLots : mCode mX2_drawLots ∈ lw_tbl := List.mem_of_getElem? (i := 451) rfl
set_option maxRecDepth 100000 in
theorem mCd_X2_dieLeft : mCode mX2_dieLeft ∈ lw_tbl := List.mem_of_getElem? (i := 460) rfl
set_option maxRecDepth 100000 in
theorem mCd_X3_init : mCode mX3_init ∈ lw_tbl := List.mem_of_getElem? (i := 363) rfl
set_option maxRecDepth 100000 in
theorem mCd_X3_throwsOfDie : mCode mX3_throwsOfDie ∈ lw_tbl := List.mem_of_getElem? (i := 529) rfl
set_option maxRecDepth 100000 in
theorem mCd_X3_throwsOfHand : mCode mX3_throwsOfHand ∈ lw_tbl := List.mem_of_getElem? (i := 829) rfl
set_option maxRecDepth 100000 in
theorem mCd_X3_timesShown : mCode mX3_timesShown ∈ lw_tbl := List.mem_of_getElem? (i := 541) rfl
set_option maxRecDepth 100000 in
theorem mCd_X3_longestRow : mCode mX3_longestRow ∈ lw_tbl := List.mem_of_getElem? (i := 1423) rfl
set_option maxRecDepth 100000 in
theorem mCd_X3_howFarOff : mCode mX3_howFarOff ∈ lw_tbl := List.mem_of_getElem? (i := 525) rfl
set_option maxRecDepth 100000 in
theorem mCd_X3_farthestOff : mCode mX3_farthestOff ∈ lw_tbl := List.mem_of_getElem? (i := 521) rfl
set_option maxRecDepth 100000 in
theorem mCd_X4_init : mCode mX4_init ∈ lw_tbl := List.mem_of_getElem? (i := 317) rfl
set_option maxRecDepth 100000 in
theorem mCd_X4_wholeOf : mCode mX4_wholeOf ∈ lw_tbl := List.mem_of_getElem? (i := 1094) rfl
set_option maxRecDepth 100000 in
theorem mCd_X4_waysOfSum : mCode mX4_waysOfSum ∈ lw_tbl := List.mem_of_getElem? (i := 1110) rfl
set_option maxRecDepth 100000 in
theorem mCd_X4_waysOfSumOrMore : mCode mX4_waysOfSumOrMore ∈ lw_tbl := List.mem_of_getElem? (i := 1133) rfl
set_option maxRecDepth 100000 in
theorem mCd_X4_waysOfOneFace : mCode mX4_waysOfOneFace ∈ lw_tbl := List.mem_of_getElem? (i := 1145) rfl
set_option maxRecDepth 100000 in
theorem mCd_X4_likeliestSum : mCode mX4_likeliestSum ∈ lw_tbl := List.mem_of_getElem? (i := 1156) rfl
set_option maxRecDepth 100000 in
theorem mCd_X4_possibleSums : mCode mX4_possibleSums ∈ lw_tbl := List.mem_of_getElem? (i := 1167) rfl
set_option maxRecDepth 100000 in
theorem mCd_X4_allSumsWeighed : mCode mX4_allSumsWeighed ∈ lw_tbl := List.mem_of_getElem? (i := 1179) rfl
set_option maxRecDepth 100000 in
theorem mCd_X4_bestSetFor : mCode mX4_bestSetFor ∈ lw_tbl := List.mem_of_getElem? (i := 1195) rfl
set_option maxRecDepth 100000 in
theorem mCd_X4_waysOfUnlikeFaces : mCode mX4_waysOfUnlikeFaces ∈ lw_tbl := List.mem_of_getElem? (i := 1214) rfl
set_option maxRecDepth 100000 in
theorem mCd_X4_waysOfEveryFace : mCode mX4_waysOfEveryFace ∈ lw_tbl := List.mem_of_getElem? (i := 1261) rfl
set_option maxRecDepth 100000 in
theorem mCd_X4_waysOfMore : mCode mX4_waysOfMore ∈ lw_tbl := List.mem_of_getElem? (i := 1316) rfl
set_option maxRecDepth 100000 in
theorem mCd_X4_bestByStopping : mCode mX4_bestByStopping ∈ lw_tbl := List.mem_of_getElem? (i := 1336) rfl
set_option maxRecDepth 100000 in
theorem mCd_X4_leastFaceToStop : mCode mX4_leastFaceToStop ∈ lw_tbl := List.mem_of_getElem? (i := 1332) rfl
set_option maxRecDepth 100000 in
theorem mCd_X4_countSums : mCode mX4_countSums ∈ lw_tbl := List.mem_of_getElem? (i := 1114) rfl
set_option maxRecDepth 100000 in
theorem mCd_X4_countThrows : mCode mX4_countThrows ∈ lw_tbl := List.mem_of_getElem? (i := 1320) rfl
set_option maxRecDepth 100000 in
theorem mCd_X4_addToSums : mCode mX4_addToSums ∈ lw_tbl := List.mem_of_getElem? (i := 1121) rfl
set_option maxRecDepth 100000 in
theorem mCd_X4_addToFaceSets : mCode mX4_addToFaceSets ∈ lw_tbl := List.mem_of_getElem? (i := 1218) rfl
set_option maxRecDepth 100000 in
theorem mCd_X4_begin : mCode mX4_begin ∈ lw_tbl := List.mem_of_getElem? (i := 1117) rfl
set_option maxRecDepth 100000 in
theorem mCd_X4_isIn : mCode mX4_isIn ∈ lw_tbl := List.mem_of_getElem? (i := 1097) rfl
set_option maxRecDepth 100000 in
theorem mCd_X4_isWithoutGap : mCode mX4_isWithoutGap ∈ lw_tbl := List.mem_of_getElem? (i := 1221) rfl
set_option maxRecDepth 100000 in
theorem mCd_X5_init : mCode mX5_init ∈ lw_tbl := List.mem_of_getElem? (i := 212) rfl
set_option maxRecDepth 100000 in
theorem mCd_X5_read : mCode mX5_read ∈ lw_tbl := List.mem_of_getElem? (i := 639) rfl
set_option maxRecDepth 100000 in
theorem mCd_X5_clear : mCode mX5_clear ∈ lw_tbl := List.mem_of_getElem? (i := 643) rfl
set_option maxRecDepth 100000 in
theorem mCd_X5_readsLine : mCode mX5_readsLine ∈ lw_tbl := List.mem_of_getElem? (i := 728) rfl
set_option maxRecDepth 100000 in
theorem mCd_X5_readsDie : mCode mX5_readsDie ∈ lw_tbl := List.mem_of_getElem? (i := 732) rfl
set_option maxRecDepth 100000 in
theorem mCd_X5_readsHand : mCode mX5_readsHand ∈ lw_tbl := List.mem_of_getElem? (i := 744) rfl
set_option maxRecDepth 100000 in
theorem mCd_X5_readsAnts : mCode mX5_readsAnts ∈ lw_tbl := List.mem_of_getElem? (i := 748) rfl
set_option maxRecDepth 100000 in
theorem mCd_X5_readsNumber : mCode mX5_readsNumber ∈ lw_tbl := List.mem_of_getElem? (i := 740) rfl
set_option maxRecDepth 100000 in
theorem mCd_X5_isFaulty : mCode mX5_isFaulty ∈ lw_tbl := List.mem_of_getElem? (i := 736) rfl
set_option maxRecDepth 100000 in
theorem mCd_X5_nextToken : mCode mX5_nextToken ∈ lw_tbl := List.mem_of_getElem? (i := 647) rfl
set_option maxRecDepth 100000 in
theorem mCd_X5_nextNumber : mCode mX5_nextNumber ∈ lw_tbl := List.mem_of_getElem? (i := 661) rfl
set_option maxRecDepth 100000 in
theorem mCd_X5_nextWord : mCode mX5_nextWord ∈ lw_tbl := List.mem_of_getElem? (i := 668) rfl
set_option maxRecDepth 100000 in
theorem mCd_X5_isWord : mCode mX5_isWord ∈ lw_tbl := List.mem_of_getElem? (i := 673) rfl
set_option maxRecDepth 100000 in
theorem mCd_X5_isBlank : mCode mX5_isBlank ∈ lw_tbl := List.mem_of_getElem? (i := 654) rfl
set_option maxRecDepth 100000 in
theorem mCd_X5_isDigit : mCode mX5_isDigit ∈ lw_tbl := List.mem_of_getElem? (i := 657) rfl
set_option maxRecDepth 100000 in
theorem mCd_X5_isLetter : mCode mX5_isLetter ∈ lw_tbl := List.mem_of_getElem? (i := 664) rfl
set_option maxRecDepth 100000 in
theorem mCd_X6_init : mCode mX6_init ∈ lw_tbl := List.mem_of_getElem? (i := 197) rfl
set_option maxRecDepth 100000 in
theorem mCd_X6_hasRoomForFeed : mCode mX6_hasRoomForFeed ∈ lw_tbl := List.mem_of_getElem? (i := 431) rfl
set_option maxRecDepth 100000 in
theorem mCd_X6_put : mCode mX6_put ∈ lw_tbl := List.mem_of_getElem? (i := 435) rfl
set_option maxRecDepth 100000 in
theorem mCd_X6_byteAt : mCode mX6_byteAt ∈ lw_tbl := List.mem_of_getElem? (i := 651) rfl
set_option maxRecDepth 100000 in
theorem mCd_X7_init : mCode mX7_init ∈ lw_tbl := List.mem_of_getElem? (i := 374) rfl
set_option maxRecDepth 100000 in
theorem mCd_X7_lay : mCode mX7_lay ∈ lw_tbl := List.mem_of_getElem? (i := 1444) rfl
set_option maxRecDepth 100000 in
theorem mCd_X7_put : mCode mX7_put ∈ lw_tbl := List.mem_of_getElem? (i := 1472) rfl
set_option maxRecDepth 100000 in
theorem mCd_X7_number : mCode mX7_number ∈ lw_tbl := List.mem_of_getElem? (i := 980) rfl
set_option maxRecDepth 100000 in
theorem mCd_X7_cut : mCode mX7_cut ∈ lw_tbl := List.mem_of_getElem? (i := 1476) rfl
set_option maxRecDepth 100000 in
theorem mCd_X7_holdsToldFaces : mCode mX7_holdsToldFaces ∈ lw_tbl := List.mem_of_getElem? (i := 1356) rfl
set_option maxRecDepth 100000 in
theorem mCd_X7_face : mCode mX7_face ∈ lw_tbl := List.mem_of_getElem? (i := 1367) rfl
set_option maxRecDepth 100000 in
theorem mCd_X8_init : mCode mX8_init ∈ lw_tbl := List.mem_of_getElem? (i := 347) rfl
set_option maxRecDepth 100000 in
theorem mCd_X8_likeliestDie : mCode mX8_likeliestDie ∈ lw_tbl := List.mem_of_getElem? (i := 1363) rfl
set_option maxRecDepth 100000 in
theorem mCd_X8_rowsOfDice : mCode mX8_rowsOfDice ∈ lw_tbl := List.mem_of_getElem? (i := 1381) rfl
set_option maxRecDepth 100000 in
theorem mCd_X8_rowOfHands : mCode mX8_rowOfHands ∈ lw_tbl := List.mem_of_getElem? (i := 1392) rfl
set_option maxRecDepth 100000 in
theorem mCd_X8_totalBehind : mCode mX8_totalBehind ∈ lw_tbl := List.mem_of_getElem? (i := 1396) rfl
set_option maxRecDepth 100000 in
theorem mCd_X8_begin : mCode mX8_begin ∈ lw_tbl := List.mem_of_getElem? (i := 1400) rfl
set_option maxRecDepth 100000 in
theorem mCd_X9_init : mCode mX9_init ∈ lw_tbl := List.mem_of_getElem? (i := 189) rfl
set_option maxRecDepth 100000 in
theorem mCd_X9_feed : mCode mX9_feed ∈ lw_tbl := List.mem_of_getElem? (i := 427) rfl
set_option maxRecDepth 100000 in
theorem mCd_X9_table : mCode mX9_table ∈ lw_tbl := List.mem_of_getElem? (i := 567) rfl
set_option maxRecDepth 100000 in
theorem mCd_X9_fault : mCode mX9_fault ∈ lw_tbl := List.mem_of_getElem? (i := 439) rfl
set_option maxRecDepth 100000 in
theorem mCd_X9_die : mCode mX9_die ∈ lw_tbl := List.mem_of_getElem? (i := 763) rfl
set_option maxRecDepth 100000 in
theorem mCd_X9_hand : mCode mX9_hand ∈ lw_tbl := List.mem_of_getElem? (i := 807) rfl
set_option maxRecDepth 100000 in
theorem mCd_X9_salts : mCode mX9_salts ∈ lw_tbl := List.mem_of_getElem? (i := 840) rfl
set_option maxRecDepth 100000 in
theorem mCd_X9_cast : mCode mX9_cast ∈ lw_tbl := List.mem_of_getElem? (i := 853) rfl
set_option maxRecDepth 100000 in
theorem mCd_X9_shows : mCode mX9_shows ∈ lw_tbl := List.mem_of_getElem? (i := 912) rfl
set_option maxRecDepth 100000 in
theorem mCd_X9_back : mCode mX9_back ∈ lw_tbl := List.mem_of_getElem? (i := 930) rfl
set_option maxRecDepth 100000 in
theorem mCd_X9_past : mCode mX9_past ∈ lw_tbl := List.mem_of_getElem? (i := 942) rfl
set_option maxRecDepth 100000 in
theorem mCd_X9_evening : mCode mX9_evening ∈ lw_tbl := List.mem_of_getElem? (i := 953) rfl
set_option maxRecDepth 100000 in
theorem mCd_X9_judge : mCode mX9_judge ∈ lw_tbl := List.mem_of_getElem? (i := 962) rfl
set_option maxRecDepth 100000 in
theorem mCd_X9_perform : mCode mX9_perform ∈ lw_tbl := List.mem_of_getElem? (i := 998) rfl
set_option maxRecDepth 100000 in
theorem mCd_X9_ants : mCode mX9_ants ∈ lw_tbl := List.mem_of_getElem? (i := 1005) rfl
set_option maxRecDepth 100000 in
theorem mCd_X9_eaten : mCode mX9_eaten ∈ lw_tbl := List.mem_of_getElem? (i := 1025) rfl
set_option maxRecDepth 100000 in
theorem mCd_X9_lasts : mCode mX9_lasts ∈ lw_tbl := List.mem_of_getElem? (i := 1039) rfl
set_option maxRecDepth 100000 in
theorem mCd_X9_lastFace : mCode mX9_lastFace ∈ lw_tbl := List.mem_of_getElem? (i := 1046) rfl
set_option maxRecDepth 100000 in
theorem mCd_X9_rain : mCode mX9_rain ∈ lw_tbl := List.mem_of_getElem? (i := 1057) rfl
set_option maxRecDepth 100000 in
theorem mCd_X9_fan : mCode mX9_fan ∈ lw_tbl := List.mem_of_getElem? (i := 1066) rfl
set_option maxRecDepth 100000 in
theorem mCd_X9_lot : mCode mX9_lot ∈ lw_tbl := List.mem_of_getElem? (i := 443) rfl
set_option maxRecDepth 100000 in
theorem mCd_X9_whole : mCode mX9_whole ∈ lw_tbl := List.mem_of_getElem? (i := 1077) rfl
set_option maxRecDepth 100000 in
theorem mCd_X9_sum : mCode mX9_sum ∈ lw_tbl := List.mem_of_getElem? (i := 1106) rfl
set_option maxRecDepth 100000 in
theorem mCd_X9_least : mCode mX9_least ∈ lw_tbl := List.mem_of_getElem? (i := 1129) rfl
set_option maxRecDepth 100000 in
theorem mCd_X9_alike : mCode mX9_alike ∈ lw_tbl := List.mem_of_getElem? (i := 1141) rfl
set_option maxRecDepth 100000 in
theorem mCd_X9_mode : mCode mX9_mode ∈ lw_tbl := List.mem_of_getElem? (i := 1152) rfl
set_option maxRecDepth 100000 in
theorem mCd_X9_sums : mCode mX9_sums ∈ lw_tbl := List.mem_of_getElem? (i := 1163) rfl
set_option maxRecDepth 100000 in
theorem mCd_X9_mean : mCode mX9_mean ∈ lw_tbl := List.mem_of_getElem? (i := 1174) rfl
set_option maxRecDepth 100000 in
theorem mCd_X9_bestSet : mCode mX9_bestSet ∈ lw_tbl := List.mem_of_getElem? (i := 1186) rfl
set_option maxRecDepth 100000 in
theorem mCd_X9_unlike : mCode mX9_unlike ∈ lw_tbl := List.mem_of_getElem? (i := 1210) rfl
set_option maxRecDepth 100000 in
theorem mCd_X9_run : mCode mX9_run ∈ lw_tbl := List.mem_of_getElem? (i := 1228) rfl
set_option maxRecDepth 100000 in
theorem mCd_X9_cannot : mCode mX9_cannot ∈ lw_tbl := List.mem_of_getElem? (i := 1235) rfl
set_option maxRecDepth 100000 in
theorem mCd_X9_once : mCode mX9_once ∈ lw_tbl := List.mem_of_getElem? (i := 1242) rfl
set_option maxRecDepth 100000 in
theorem mCd_X9_allFaces : mCode mX9_allFaces ∈ lw_tbl := List.mem_of_getElem? (i := 1257) rfl
set_option maxRecDepth 100000 in
theorem mCd_X9_coins : mCode mX9_coins ∈ lw_tbl := List.mem_of_getElem? (i := 1268) rfl
set_option maxRecDepth 100000 in
theorem mCd_X9_beats : mCode mX9_beats ∈ lw_tbl := List.mem_of_getElem? (i := 1279) rfl
set_option maxRecDepth 100000 in
theorem mCd_X9_ties : mCode mX9_ties ∈ lw_tbl := List.mem_of_getElem? (i := 1291) rfl
set_option maxRecDepth 100000 in
theorem mCd_X9_strongest : mCode mX9_strongest ∈ lw_tbl := List.mem_of_getElem? (i := 464) rfl
set_option maxRecDepth 100000 in
theorem mCd_X9_ring : mCode mX9_ring ∈ lw_tbl := List.mem_of_getElem? (i := 497) rfl
set_option maxRecDepth 100000 in
theorem mCd_X9_series : mCode mX9_series ∈ lw_tbl := List.mem_of_getElem? (i := 1302) rfl
set_option maxRecDepth 100000 in
theorem mCd_X9_more : mCode mX9_more ∈ lw_tbl := List.mem_of_getElem? (i := 1312) rfl
set_option maxRecDepth 100000 in
theorem mCd_X9_evenest : mCode mX9_evenest ∈ lw_tbl := List.mem_of_getElem? (i := 505) rfl
set_option maxRecDepth 100000 in
theorem mCd_X9_stopping : mCode mX9_stopping ∈ lw_tbl := List.mem_of_getElem? (i := 1327) rfl
set_option maxRecDepth 100000 in
theorem mCd_X9_likelier : mCode mX9_likelier ∈ lw_tbl := List.mem_of_getElem? (i := 1348) rfl
set_option maxRecDepth 100000 in
theorem mCd_X9_fits : mCode mX9_fits ∈ lw_tbl := List.mem_of_getElem? (i := 1377) rfl
set_option maxRecDepth 100000 in
theorem mCd_X9_worn : mCode mX9_worn ∈ lw_tbl := List.mem_of_getElem? (i := 1388) rfl
set_option maxRecDepth 100000 in
theorem mCd_X9_tally : mCode mX9_tally ∈ lw_tbl := List.mem_of_getElem? (i := 1411) rfl
set_option maxRecDepth 100000 in
theorem mCd_X9_streak : mCode mX9_streak ∈ lw_tbl := List.mem_of_getElem? (i := 1419) rfl
set_option maxRecDepth 100000 in
theorem mCd_X9_off : mCode mX9_off ∈ lw_tbl := List.mem_of_getElem? (i := 1431) rfl
set_option maxRecDepth 100000 in
theorem mCd_X9_loaded : mCode mX9_loaded ∈ lw_tbl := List.mem_of_getElem? (i := 517) rfl
set_option maxRecDepth 100000 in
theorem mCd_X9_tray : mCode mX9_tray ∈ lw_tbl := List.mem_of_getElem? (i := 1439) rfl
set_option maxRecDepth 100000 in
theorem mCd_X9_write : mCode mX9_write ∈ lw_tbl := List.mem_of_getElem? (i := 1452) rfl
set_option maxRecDepth 100000 in
theorem mCd_X9_pour : mCode mX9_pour ∈ lw_tbl := List.mem_of_getElem? (i := 1483) rfl
set_option maxRecDepth 100000 in
theorem mCd_X9_image : mCode mX9_image ∈ lw_tbl := List.mem_of_getElem? (i := 1491) rfl
set_option maxRecDepth 100000 in
theorem mCd_X9_restore : mCode mX9_restore ∈ lw_tbl := List.mem_of_getElem? (i := 1507) rfl
set_option maxRecDepth 100000 in
theorem mCd_X9_count : mCode mX9_count ∈ lw_tbl := List.mem_of_getElem? (i := 550) rfl
set_option maxRecDepth 100000 in
theorem mCd_X9_needDie : mCode mX9_needDie ∈ lw_tbl := List.mem_of_getElem? (i := 767) rfl
set_option maxRecDepth 100000 in
theorem mCd_X9_needHand : mCode mX9_needHand ∈ lw_tbl := List.mem_of_getElem? (i := 811) rfl
set_option maxRecDepth 100000 in
theorem mCd_X9_needNotGone : mCode mX9_needNotGone ∈ lw_tbl := List.mem_of_getElem? (i := 857) rfl
set_option maxRecDepth 100000 in
theorem mCd_X9_needTwoDice : mCode mX9_needTwoDice ∈ lw_tbl := List.mem_of_getElem? (i := 1283) rfl
set_option maxRecDepth 100000 in
theorem mCd_X9_needRoomForThrow : mCode mX9_needRoomForThrow ∈ lw_tbl := List.mem_of_getElem? (i := 877) rfl
set_option maxRecDepth 100000 in
theorem mCd_X9_needFace : mCode mX9_needFace ∈ lw_tbl := List.mem_of_getElem? (i := 916) rfl
set_option maxRecDepth 100000 in
theorem mCd_X9_needWhat : mCode mX9_needWhat ∈ lw_tbl := List.mem_of_getElem? (i := 791) rfl
set_option maxRecDepth 100000 in
theorem mCd_X9_needMinutes : mCode mX9_needMinutes ∈ lw_tbl := List.mem_of_getElem? (i := 1009) rfl
set_option maxRecDepth 100000 in
theorem mCd_X9_needThrowsUpToEight : mCode mX9_needThrowsUpToEight ∈ lw_tbl := List.mem_of_getElem? (i := 1246) rfl
set_option maxRecDepth 100000 in
theorem mCd_X9_needOneToThree : mCode mX9_needOneToThree ∈ lw_tbl := List.mem_of_getElem? (i := 1190) rfl
set_option maxRecDepth 100000 in
theorem mCd_X9_needSet : mCode mX9_needSet ∈ lw_tbl := List.mem_of_getElem? (i := 1085) rfl
set_option maxRecDepth 100000 in
theorem mCd_X9_needNoneGone : mCode mX9_needNoneGone ∈ lw_tbl := List.mem_of_getElem? (i := 1090) rfl
set_option maxRecDepth 100000 in
theorem mCd_X9_needSetNotGone : mCode mX9_needSetNotGone ∈ lw_tbl := List.mem_of_getElem? (i := 1081) rfl
set_option maxRecDepth 100000 in
theorem mCd_X9_needFaces : mCode mX9_needFaces ∈ lw_tbl := List.mem_of_getElem? (i := 1352) rfl
set_option maxRecDepth 100000 in
theorem mCd_X9_needImagePlace : mCode mX9_needImagePlace ∈ lw_tbl := List.mem_of_getElem? (i := 1495) rfl
set_option maxRecDepth 100000 in
theorem mCd_X9_anyTray : mCode mX9_anyTray ∈ lw_tbl := List.mem_of_getElem? (i := 970) rfl
set_option maxRecDepth 100000 in
theorem mCd_X9_neededTray : mCode mX9_neededTray ∈ lw_tbl := List.mem_of_getElem? (i := 966) rfl
set_option maxRecDepth 100000 in
theorem mCd_X9_throwTold : mCode mX9_throwTold ∈ lw_tbl := List.mem_of_getElem? (i := 976) rfl
set_option maxRecDepth 100000 in
theorem mCd_X9_isFace : mCode mX9_isFace ∈ lw_tbl := List.mem_of_getElem? (i := 894) rfl
set_option maxRecDepth 100000 in
theorem mCd_X9_power : mCode mX9_power ∈ lw_tbl := List.mem_of_getElem? (i := 1250) rfl
set_option maxRecDepth 100000 in
theorem mCd_X9_waysToGoal : mCode mX9_waysToGoal ∈ lw_tbl := List.mem_of_getElem? (i := 1272) rfl
set_option maxRecDepth 100000 in
theorem mCd_X9_waysToLead : mCode mX9_waysToLead ∈ lw_tbl := List.mem_of_getElem? (i := 1305) rfl
set_option maxRecDepth 100000 in
theorem mCd_X10_init : mCode mX10_init ∈ lw_tbl := List.mem_of_getElem? (i := 1513) rfl
set_option maxRecDepth 100000 in
theorem mCd_X10_thrown : mCode mX10_thrown ∈ lw_tbl := List.mem_of_getElem? (i := 1604) rfl
set_option maxRecDepth 100000 in
theorem mCd_X10_fails : mCode mX10_fails ∈ lw_tbl := List.mem_of_getElem? (i := 1619) rfl
set_option maxRecDepth 100000 in
theorem mCd_X10_within : mCode mX10_within ∈ lw_tbl := List.mem_of_getElem? (i := 1615) rfl
set_option maxRecDepth 100000 in
theorem mCd_X10_begins : mCode mX10_begins ∈ lw_tbl := List.mem_of_getElem? (i := 1517) rfl
set_option maxRecDepth 100000 in
theorem mCd_X10_copies : mCode mX10_copies ∈ lw_tbl := List.mem_of_getElem? (i := 1784) rfl
set_option maxRecDepth 100000 in
theorem mCd_X10_feed : mCode mX10_feed ∈ lw_tbl := List.mem_of_getElem? (i := 1608) rfl
set_option maxRecDepth 100000 in
theorem mCd_X10_see : mCode mX10_see ∈ lw_tbl := List.mem_of_getElem? (i := 1630) rfl
set_option maxRecDepth 100000 in
theorem mCd_X10_isLetter : mCode mX10_isLetter ∈ lw_tbl := List.mem_of_getElem? (i := 1626) rfl
set_option maxRecDepth 100000 in
theorem mCd_X10_isDigit : mCode mX10_isDigit ∈ lw_tbl := List.mem_of_getElem? (i := 1633) rfl
set_option maxRecDepth 100000 in
theorem mCd_X10_reads : mCode mX10_reads ∈ lw_tbl := List.mem_of_getElem? (i := 1623) rfl
set_option maxRecDepth 100000 in
theorem mCd_X10_blames : mCode mX10_blames ∈ lw_tbl := List.mem_of_getElem? (i := 1652) rfl
set_option maxRecDepth 100000 in
theorem mCd_X10_isWord : mCode mX10_isWord ∈ lw_tbl := List.mem_of_getElem? (i := 1642) rfl
set_option maxRecDepth 100000 in
theorem mCd_X10_took : mCode mX10_took ∈ lw_tbl := List.mem_of_getElem? (i := 1661) rfl
set_option maxRecDepth 100000 in
theorem mCd_X10_number : mCode mX10_number ∈ lw_tbl := List.mem_of_getElem? (i := 1656) rfl
set_option maxRecDepth 100000 in
theorem mCd_X10_readDie : mCode mX10_readDie ∈ lw_tbl := List.mem_of_getElem? (i := 1648) rfl
set_option maxRecDepth 100000 in
theorem mCd_X10_readHand : mCode mX10_readHand ∈ lw_tbl := List.mem_of_getElem? (i := 1666) rfl
set_option maxRecDepth 100000 in
theorem mCd_X10_readLine : mCode mX10_readLine ∈ lw_tbl := List.mem_of_getElem? (i := 1637) rfl
set_option maxRecDepth 100000 in
theorem mCd_X10_table : mCode mX10_table ∈ lw_tbl := List.mem_of_getElem? (i := 1612) rfl
set_option maxRecDepth 100000 in
theorem mCd_X10_fault : mCode mX10_fault ∈ lw_tbl := List.mem_of_getElem? (i := 1671) rfl
set_option maxRecDepth 100000 in
theorem mCd_X10_dice : mCode mX10_dice ∈ lw_tbl := List.mem_of_getElem? (i := 1683) rfl
set_option maxRecDepth 100000 in
theorem mCd_X10_hands : mCode mX10_hands ∈ lw_tbl := List.mem_of_getElem? (i := 1724) rfl
set_option maxRecDepth 100000 in
theorem mCd_X10_isDie : mCode mX10_isDie ∈ lw_tbl := List.mem_of_getElem? (i := 1679) rfl
set_option maxRecDepth 100000 in
theorem mCd_X10_isHand : mCode mX10_isHand ∈ lw_tbl := List.mem_of_getElem? (i := 1720) rfl
set_option maxRecDepth 100000 in
theorem mCd_X10_isFace : mCode mX10_isFace ∈ lw_tbl := List.mem_of_getElem? (i := 1755) rfl
set_option maxRecDepth 100000 in
theorem mCd_X10_weight : mCode mX10_weight ∈ lw_tbl := List.mem_of_getElem? (i := 1688) rfl
set_option maxRecDepth 100000 in
theorem mCd_X10_isSalt : mCode mX10_isSalt ∈ lw_tbl := List.mem_of_getElem? (i := 1696) rfl
set_option maxRecDepth 100000 in
theorem mCd_X10_total : mCode mX10_total ∈ lw_tbl := List.mem_of_getElem? (i := 1692) rfl
set_option maxRecDepth 100000 in
theorem mCd_X10_isGone : mCode mX10_isGone ∈ lw_tbl := List.mem_of_getElem? (i := 1700) rfl
set_option maxRecDepth 100000 in
theorem mCd_X10_throwsNow : mCode mX10_throwsNow ∈ lw_tbl := List.mem_of_getElem? (i := 1708) rfl
set_option maxRecDepth 100000 in
theorem mCd_X10_pastOf : mCode mX10_pastOf ∈ lw_tbl := List.mem_of_getElem? (i := 1712) rfl
set_option maxRecDepth 100000 in
theorem mCd_X10_times : mCode mX10_times ∈ lw_tbl := List.mem_of_getElem? (i := 1704) rfl
set_option maxRecDepth 100000 in
theorem mCd_X10_die : mCode mX10_die ∈ lw_tbl := List.mem_of_getElem? (i := 1675) rfl
set_option maxRecDepth 100000 in
theorem mCd_X10_hand : mCode mX10_hand ∈ lw_tbl := List.mem_of_getElem? (i := 1716) rfl
set_option maxRecDepth 100000 in
theorem mCd_X10_salts : mCode mX10_salts ∈ lw_tbl := List.mem_of_getElem? (i := 1729) rfl
set_option maxRecDepth 100000 in
theorem mCd_X10_draw : mCode mX10_draw ∈ lw_tbl := List.mem_of_getElem? (i := 1737) rfl
set_option maxRecDepth 100000 in
theorem mCd_X10_faceBy : mCode mX10_faceBy ∈ lw_tbl := List.mem_of_getElem? (i := 1742) rfl
set_option maxRecDepth 100000 in
theorem mCd_X10_goes : mCode mX10_goes ∈ lw_tbl := List.mem_of_getElem? (i := 1746) rfl
set_option maxRecDepth 100000 in
theorem mCd_X10_cast : mCode mX10_cast ∈ lw_tbl := List.mem_of_getElem? (i := 1733) rfl
set_option maxRecDepth 100000 in
theorem mCd_X10_shows : mCode mX10_shows ∈ lw_tbl := List.mem_of_getElem? (i := 1752) rfl
set_option maxRecDepth 100000 in
theorem mCd_X10_back : mCode mX10_back ∈ lw_tbl := List.mem_of_getElem? (i := 1760) rfl
set_option maxRecDepth 100000 in
theorem mCd_X10_past : mCode mX10_past ∈ lw_tbl := List.mem_of_getElem? (i := 1764) rfl
set_option maxRecDepth 100000 in
theorem mCd_X10_evening : mCode mX10_evening ∈ lw_tbl := List.mem_of_getElem? (i := 1768) rfl
set_option maxRecDepth 100000 in
theorem mCd_X10_trayFault : mCode mX10_trayFault ∈ lw_tbl := List.mem_of_getElem? (i := 1777) rfl
set_option maxRecDepth 100000 in
theorem mCd_X10_whyTold : mCode mX10_whyTold ∈ lw_tbl := List.mem_of_getElem? (i := 1792) rfl
set_option maxRecDepth 100000 in
theorem mCd_X10_goesBy : mCode mX10_goesBy ∈ lw_tbl := List.mem_of_getElem? (i := 1788) rfl
set_option maxRecDepth 100000 in
theorem mCd_X10_totals : mCode mX10_totals ∈ lw_tbl := List.mem_of_getElem? (i := 1797) rfl
set_option maxRecDepth 100000 in
theorem mCd_X10_judge : mCode mX10_judge ∈ lw_tbl := List.mem_of_getElem? (i := 1773) rfl
set_option maxRecDepth 100000 in
theorem mCd_X10_perform : mCode mX10_perform ∈ lw_tbl := List.mem_of_getElem? (i := 1801) rfl
set_option maxRecDepth 100000 in
theorem mCd_X10_eatenNext : mCode mX10_eatenNext ∈ lw_tbl := List.mem_of_getElem? (i := 1814) rfl
set_option maxRecDepth 100000 in
theorem mCd_X10_eats : mCode mX10_eats ∈ lw_tbl := List.mem_of_getElem? (i := 1810) rfl
set_option maxRecDepth 100000 in
theorem mCd_X10_ants : mCode mX10_ants ∈ lw_tbl := List.mem_of_getElem? (i := 1805) rfl
set_option maxRecDepth 100000 in
theorem mCd_X10_laysRow : mCode mX10_laysRow ∈ lw_tbl := List.mem_of_getElem? (i := 1822) rfl
set_option maxRecDepth 100000 in
theorem mCd_X10_putsRow : mCode mX10_putsRow ∈ lw_tbl := List.mem_of_getElem? (i := 1826) rfl
set_option maxRecDepth 100000 in
theorem mCd_X10_eaten : mCode mX10_eaten ∈ lw_tbl := List.mem_of_getElem? (i := 1818) rfl
set_option maxRecDepth 100000 in
theorem mCd_X10_lasts : mCode mX10_lasts ∈ lw_tbl := List.mem_of_getElem? (i := 1830) rfl
set_option maxRecDepth 100000 in
theorem mCd_X10_lastFace : mCode mX10_lastFace ∈ lw_tbl := List.mem_of_getElem? (i := 1834) rfl
set_option maxRecDepth 100000 in
theorem mCd_X10_rain : mCode mX10_rain ∈ lw_tbl := List.mem_of_getElem? (i := 1838) rfl
set_option maxRecDepth 100000 in
theorem mCd_X10_fan : mCode mX10_fan ∈ lw_tbl := List.mem_of_getElem? (i := 1843) rfl
set_option maxRecDepth 100000 in
theorem mCd_X10_lot : mCode mX10_lot ∈ lw_tbl := List.mem_of_getElem? (i := 1847) rfl
set_option maxRecDepth 100000 in
theorem mCd_X10_has : mCode mX10_has ∈ lw_tbl := List.mem_of_getElem? (i := 1858) rfl
set_option maxRecDepth 100000 in
theorem mCd_X10_setFault : mCode mX10_setFault ∈ lw_tbl := List.mem_of_getElem? (i := 1855) rfl
set_option maxRecDepth 100000 in
theorem mCd_X10_laysWays : mCode mX10_laysWays ∈ lw_tbl := List.mem_of_getElem? (i := 1870) rfl
set_option maxRecDepth 100000 in
theorem mCd_X10_all : mCode mX10_all ∈ lw_tbl := List.mem_of_getElem? (i := 1862) rfl
set_option maxRecDepth 100000 in
theorem mCd_X10_atLeast : mCode mX10_atLeast ∈ lw_tbl := List.mem_of_getElem? (i := 1879) rfl
set_option maxRecDepth 100000 in
theorem mCd_X10_whole : mCode mX10_whole ∈ lw_tbl := List.mem_of_getElem? (i := 1851) rfl
set_option maxRecDepth 100000 in
theorem mCd_X10_sum : mCode mX10_sum ∈ lw_tbl := List.mem_of_getElem? (i := 1866) rfl
set_option maxRecDepth 100000 in
theorem mCd_X10_least : mCode mX10_least ∈ lw_tbl := List.mem_of_getElem? (i := 1875) rfl
set_option maxRecDepth 100000 in
theorem mCd_X10_alike : mCode mX10_alike ∈ lw_tbl := List.mem_of_getElem? (i := 1883) rfl
set_option maxRecDepth 100000 in
theorem mCd_X10_mode : mCode mX10_mode ∈ lw_tbl := List.mem_of_getElem? (i := 1887) rfl
set_option maxRecDepth 100000 in
theorem mCd_X10_sums : mCode mX10_sums ∈ lw_tbl := List.mem_of_getElem? (i := 1891) rfl
set_option maxRecDepth 100000 in
theorem mCd_X10_mean : mCode mX10_mean ∈ lw_tbl := List.mem_of_getElem? (i := 1895) rfl
set_option maxRecDepth 100000 in
theorem mCd_X10_laysUnlike : mCode mX10_laysUnlike ∈ lw_tbl := List.mem_of_getElem? (i := 1907) rfl
set_option maxRecDepth 100000 in
theorem mCd_X10_isRow : mCode mX10_isRow ∈ lw_tbl := List.mem_of_getElem? (i := 1910) rfl
set_option maxRecDepth 100000 in
theorem mCd_X10_unlikeOf : mCode mX10_unlikeOf ∈ lw_tbl := List.mem_of_getElem? (i := 1903) rfl
set_option maxRecDepth 100000 in
theorem mCd_X10_unlike : mCode mX10_unlike ∈ lw_tbl := List.mem_of_getElem? (i := 1899) rfl
set_option maxRecDepth 100000 in
theorem mCd_X10_run : mCode mX10_run ∈ lw_tbl := List.mem_of_getElem? (i := 1914) rfl
set_option maxRecDepth 100000 in
theorem mCd_X10_cannot : mCode mX10_cannot ∈ lw_tbl := List.mem_of_getElem? (i := 1918) rfl
set_option maxRecDepth 100000 in
theorem mCd_X10_power : mCode mX10_power ∈ lw_tbl := List.mem_of_getElem? (i := 1926) rfl
set_option maxRecDepth 100000 in
theorem mCd_X10_once : mCode mX10_once ∈ lw_tbl := List.mem_of_getElem? (i := 1922) rfl
set_option maxRecDepth 100000 in
theorem mCd_X10_allFaces : mCode mX10_allFaces ∈ lw_tbl := List.mem_of_getElem? (i := 1930) rfl
set_option maxRecDepth 100000 in
theorem mCd_X10_coins : mCode mX10_coins ∈ lw_tbl := List.mem_of_getElem? (i := 1934) rfl
set_option maxRecDepth 100000 in
theorem mCd_X10_size : mCode mX10_size ∈ lw_tbl := List.mem_of_getElem? (i := 1942) rfl
set_option maxRecDepth 100000 in
theorem mCd_X10_bestSet : mCode mX10_bestSet ∈ lw_tbl := List.mem_of_getElem? (i := 1939) rfl
set_option maxRecDepth 100000 in
theorem mCd_X10_beatsOf : mCode mX10_beatsOf ∈ lw_tbl := List.mem_of_getElem? (i := 1954) rfl
set_option maxRecDepth 100000 in
theorem mCd_X10_tiesOf : mCode mX10_tiesOf ∈ lw_tbl := List.mem_of_getElem? (i := 1962) rfl
set_option maxRecDepth 100000 in
theorem mCd_X10_twoFault : mCode mX10_twoFault ∈ lw_tbl := List.mem_of_getElem? (i := 1950) rfl
set_option maxRecDepth 100000 in
theorem mCd_X10_beats : mCode mX10_beats ∈ lw_tbl := List.mem_of_getElem? (i := 1946) rfl
set_option maxRecDepth 100000 in
theorem mCd_X10_ties : mCode mX10_ties ∈ lw_tbl := List.mem_of_getElem? (i := 1958) rfl
set_option maxRecDepth 100000 in
theorem mCd_X10_isBetter : mCode mX10_isBetter ∈ lw_tbl := List.mem_of_getElem? (i := 1970) rfl
set_option maxRecDepth 100000 in
theorem mCd_X10_strongest : mCode mX10_strongest ∈ lw_tbl := List.mem_of_getElem? (i := 1966) rfl
set_option maxRecDepth 100000 in
theorem mCd_X10_isRing : mCode mX10_isRing ∈ lw_tbl := List.mem_of_getElem? (i := 1978) rfl
set_option maxRecDepth 100000 in
theorem mCd_X10_ring : mCode mX10_ring ∈ lw_tbl := List.mem_of_getElem? (i := 1974) rfl
set_option maxRecDepth 100000 in
theorem mCd_X10_games : mCode mX10_games ∈ lw_tbl := List.mem_of_getElem? (i := 1986) rfl
set_option maxRecDepth 100000 in
theorem mCd_X10_series : mCode mX10_series ∈ lw_tbl := List.mem_of_getElem? (i := 1982) rfl
set_option maxRecDepth 100000 in
theorem mCd_X10_moreOf : mCode mX10_moreOf ∈ lw_tbl := List.mem_of_getElem? (i := 1994) rfl
set_option maxRecDepth 100000 in
theorem mCd_X10_more : mCode mX10_more ∈ lw_tbl := List.mem_of_getElem? (i := 1990) rfl
set_option maxRecDepth 100000 in
theorem mCd_X10_evenest : mCode mX10_evenest ∈ lw_tbl := List.mem_of_getElem? (i := 1998) rfl
set_option maxRecDepth 100000 in
theorem mCd_X10_stopping : mCode mX10_stopping ∈ lw_tbl := List.mem_of_getElem? (i := 2003) rfl
set_option maxRecDepth 100000 in
theorem mCd_X10_facesFault : mCode mX10_facesFault ∈ lw_tbl := List.mem_of_getElem? (i := 2013) rfl
set_option maxRecDepth 100000 in
theorem mCd_X10_faceTold : mCode mX10_faceTold ∈ lw_tbl := List.mem_of_getElem? (i := 2017) rfl
set_option maxRecDepth 100000 in
theorem mCd_X10_likelier : mCode mX10_likelier ∈ lw_tbl := List.mem_of_getElem? (i := 2009) rfl
set_option maxRecDepth 100000 in
theorem mCd_X10_fits : mCode mX10_fits ∈ lw_tbl := List.mem_of_getElem? (i := 2021) rfl
set_option maxRecDepth 100000 in
theorem mCd_X10_wears : mCode mX10_wears ∈ lw_tbl := List.mem_of_getElem? (i := 2029) rfl
set_option maxRecDepth 100000 in
theorem mCd_X10_worn : mCode mX10_worn ∈ lw_tbl := List.mem_of_getElem? (i := 2025) rfl
set_option maxRecDepth 100000 in
theorem mCd_X10_tally : mCode mX10_tally ∈ lw_tbl := List.mem_of_getElem? (i := 2033) rfl
set_option maxRecDepth 100000 in
theorem mCd_X10_streak : mCode mX10_streak ∈ lw_tbl := List.mem_of_getElem? (i := 2037) rfl
set_option maxRecDepth 100000 in
theorem mCd_X10_offOf : mCode mX10_offOf ∈ lw_tbl := List.mem_of_getElem? (i := 2045) rfl
set_option maxRecDepth 100000 in
theorem mCd_X10_off : mCode mX10_off ∈ lw_tbl := List.mem_of_getElem? (i := 2041) rfl
set_option maxRecDepth 100000 in
theorem mCd_X10_loaded : mCode mX10_loaded ∈ lw_tbl := List.mem_of_getElem? (i := 2049) rfl
set_option maxRecDepth 100000 in
theorem mCd_X10_isTray : mCode mX10_isTray ∈ lw_tbl := List.mem_of_getElem? (i := 1780) rfl
set_option maxRecDepth 100000 in
theorem mCd_X10_tray : mCode mX10_tray ∈ lw_tbl := List.mem_of_getElem? (i := 2053) rfl
set_option maxRecDepth 100000 in
theorem mCd_X10_cut : mCode mX10_cut ∈ lw_tbl := List.mem_of_getElem? (i := 2061) rfl
set_option maxRecDepth 100000 in
theorem mCd_X10_write : mCode mX10_write ∈ lw_tbl := List.mem_of_getElem? (i := 2057) rfl
set_option maxRecDepth 100000 in
theorem mCd_X10_pour : mCode mX10_pour ∈ lw_tbl := List.mem_of_getElem? (i := 2065) rfl
set_option maxRecDepth 100000 in
theorem mCd_X10_image : mCode mX10_image ∈ lw_tbl := List.mem_of_getElem? (i := 2069) rfl
set_option maxRecDepth 100000 in
theorem mCd_X10_restore : mCode mX10_restore ∈ lw_tbl := List.mem_of_getElem? (i := 2073) rfl
set_option maxRecDepth 100000 in
theorem mCd_X10_count : mCode mX10_count ∈ lw_tbl := List.mem_of_getElem? (i := 2077) rfl
set_option maxRecDepth 100000 in
theorem mCd_J6_bitCount_0f7a4 : mCode mJ6_bitCount_0f7a4 ∈ lw_tbl := List.mem_of_getElem? (i := 1199) rfl
set_option maxRecDepth 100000 in
theorem mCd_J9_abs_0f7a4 : mCode mJ9_abs_0f7a4 ∈ lw_tbl := List.mem_of_getElem? (i := 513) rfl
set_option maxRecDepth 100000 in
theorem mCd_J9_max_7cf53 : mCode mJ9_max_7cf53 ∈ lw_tbl := List.mem_of_getElem? (i := 1032) rfl
set_option maxRecDepth 100000 in
theorem mCd_J9_max_f86c9 : mCode mJ9_max_f86c9 ∈ lw_tbl := List.mem_of_getElem? (i := 1339) rfl
set_option maxRecDepth 100000 in
theorem mCd_J9_min_7cf53 : mCode mJ9_min_7cf53 ∈ lw_tbl := List.mem_of_getElem? (i := 905) rfl
set_option maxRecDepth 100000 in
theorem mCd_J0_length_8abf5 : mCode mJ0_length_8abf5 ∈ lw_tbl := List.mem_of_getElem? (i := 677) rfl
set_option maxRecDepth 100000 in
theorem mCd_J0_charAt_5068e : mCode mJ0_charAt_5068e ∈ lw_tbl := List.mem_of_getElem? (i := 687) rfl
set_option maxRecDepth 100000 in
theorem mCd_J0_coder_7d493 : mCode mJ0_coder_7d493 ∈ lw_tbl := List.mem_of_getElem? (i := 681) rfl
set_option maxRecDepth 100000 in
theorem mCd_J0_isLatin1_aae02 : mCode mJ0_isLatin1_aae02 ∈ lw_tbl := List.mem_of_getElem? (i := 691) rfl
set_option maxRecDepth 100000 in
theorem mCd_J1_charAt_3b067 : mCode mJ1_charAt_3b067 ∈ lw_tbl := List.mem_of_getElem? (i := 694) rfl
set_option maxRecDepth 100000 in
theorem mCd_J2_length_9d52b : mCode mJ2_length_9d52b ∈ lw_tbl := List.mem_of_getElem? (i := 711) rfl
set_option maxRecDepth 100000 in
theorem mCd_J2_charAt_3b067 : mCode mJ2_charAt_3b067 ∈ lw_tbl := List.mem_of_getElem? (i := 705) rfl
set_option maxRecDepth 100000 in
theorem mCd_L_table : mCode mL_table ∈ lw_tbl := List.mem_of_getElem? (i := 562) rfl
set_option maxRecDepth 100000 in
theorem mCd_L_die : mCode mL_die ∈ lw_tbl := List.mem_of_getElem? (i := 758) rfl
set_option maxRecDepth 100000 in
theorem mCd_L_hand : mCode mL_hand ∈ lw_tbl := List.mem_of_getElem? (i := 803) rfl
set_option maxRecDepth 100000 in
theorem mCd_L_salts : mCode mL_salts ∈ lw_tbl := List.mem_of_getElem? (i := 836) rfl
set_option maxRecDepth 100000 in
theorem mCd_L_cast : mCode mL_cast ∈ lw_tbl := List.mem_of_getElem? (i := 848) rfl
set_option maxRecDepth 100000 in
theorem mCd_L_shows : mCode mL_shows ∈ lw_tbl := List.mem_of_getElem? (i := 908) rfl
set_option maxRecDepth 100000 in
theorem mCd_L_back : mCode mL_back ∈ lw_tbl := List.mem_of_getElem? (i := 926) rfl
set_option maxRecDepth 100000 in
theorem mCd_L_past : mCode mL_past ∈ lw_tbl := List.mem_of_getElem? (i := 938) rfl
set_option maxRecDepth 100000 in
theorem mCd_L_evening : mCode mL_evening ∈ lw_tbl := List.mem_of_getElem? (i := 949) rfl
set_option maxRecDepth 100000 in
theorem mCd_L_judge : mCode mL_judge ∈ lw_tbl := List.mem_of_getElem? (i := 958) rfl
set_option maxRecDepth 100000 in
theorem mCd_L_perform : mCode mL_perform ∈ lw_tbl := List.mem_of_getElem? (i := 994) rfl
set_option maxRecDepth 100000 in
theorem mCd_L_ants : mCode mL_ants ∈ lw_tbl := List.mem_of_getElem? (i := 1001) rfl
set_option maxRecDepth 100000 in
theorem mCd_L_eaten : mCode mL_eaten ∈ lw_tbl := List.mem_of_getElem? (i := 1021) rfl
set_option maxRecDepth 100000 in
theorem mCd_L_lasts : mCode mL_lasts ∈ lw_tbl := List.mem_of_getElem? (i := 1035) rfl
set_option maxRecDepth 100000 in
theorem mCd_L_lastFace : mCode mL_lastFace ∈ lw_tbl := List.mem_of_getElem? (i := 1042) rfl
set_option maxRecDepth 100000 in
theorem mCd_L_rain : mCode mL_rain ∈ lw_tbl := List.mem_of_getElem? (i := 1053) rfl
set_option maxRecDepth 100000 in
theorem mCd_L_fan : mCode mL_fan ∈ lw_tbl := List.mem_of_getElem? (i := 1062) rfl
set_option maxRecDepth 100000 in
theorem mCd_L_whole : mCode mL_whole ∈ lw_tbl := List.mem_of_getElem? (i := 1073) rfl
set_option maxRecDepth 100000 in
theorem mCd_L_sum : mCode mL_sum ∈ lw_tbl := List.mem_of_getElem? (i := 1102) rfl
set_option maxRecDepth 100000 in
theorem mCd_L_least : mCode mL_least ∈ lw_tbl := List.mem_of_getElem? (i := 1125) rfl
set_option maxRecDepth 100000 in
theorem mCd_L_alike : mCode mL_alike ∈ lw_tbl := List.mem_of_getElem? (i := 1137) rfl
set_option maxRecDepth 100000 in
theorem mCd_L_mode : mCode mL_mode ∈ lw_tbl := List.mem_of_getElem? (i := 1148) rfl
set_option maxRecDepth 100000 in
theorem mCd_L_sums : mCode mL_sums ∈ lw_tbl := List.mem_of_getElem? (i := 1159) rfl
set_option maxRecDepth 100000 in
theorem mCd_L_mean : mCode mL_mean ∈ lw_tbl := List.mem_of_getElem? (i := 1170) rfl
set_option maxRecDepth 100000 in
theorem mCd_L_bestSet : mCode mL_bestSet ∈ lw_tbl := List.mem_of_getElem? (i := 1182) rfl
set_option maxRecDepth 100000 in
theorem mCd_L_unlike : mCode mL_unlike ∈ lw_tbl := List.mem_of_getElem? (i := 1206) rfl
set_option maxRecDepth 100000 in
theorem mCd_L_run : mCode mL_run ∈ lw_tbl := List.mem_of_getElem? (i := 1224) rfl
set_option maxRecDepth 100000 in
theorem mCd_L_cannot : mCode mL_cannot ∈ lw_tbl := List.mem_of_getElem? (i := 1231) rfl
set_option maxRecDepth 100000 in
theorem mCd_L_once : mCode mL_once ∈ lw_tbl := List.mem_of_getElem? (i := 1238) rfl
set_option maxRecDepth 100000 in
theorem mCd_L_allFaces : mCode mL_allFaces ∈ lw_tbl := List.mem_of_getElem? (i := 1253) rfl
set_option maxRecDepth 100000 in
theorem mCd_L_coins : mCode mL_coins ∈ lw_tbl := List.mem_of_getElem? (i := 1264) rfl
set_option maxRecDepth 100000 in
theorem mCd_L_beats : mCode mL_beats ∈ lw_tbl := List.mem_of_getElem? (i := 1275) rfl
set_option maxRecDepth 100000 in
theorem mCd_L_ties : mCode mL_ties ∈ lw_tbl := List.mem_of_getElem? (i := 1287) rfl
set_option maxRecDepth 100000 in
theorem mCd_L_series : mCode mL_series ∈ lw_tbl := List.mem_of_getElem? (i := 1298) rfl
set_option maxRecDepth 100000 in
theorem mCd_L_more : mCode mL_more ∈ lw_tbl := List.mem_of_getElem? (i := 1308) rfl
set_option maxRecDepth 100000 in
theorem mCd_L_stopping : mCode mL_stopping ∈ lw_tbl := List.mem_of_getElem? (i := 1323) rfl
set_option maxRecDepth 100000 in
theorem mCd_L_likelier : mCode mL_likelier ∈ lw_tbl := List.mem_of_getElem? (i := 1344) rfl
set_option maxRecDepth 100000 in
theorem mCd_L_fits : mCode mL_fits ∈ lw_tbl := List.mem_of_getElem? (i := 1373) rfl
set_option maxRecDepth 100000 in
theorem mCd_L_worn : mCode mL_worn ∈ lw_tbl := List.mem_of_getElem? (i := 1384) rfl
set_option maxRecDepth 100000 in
theorem mCd_L_tally : mCode mL_tally ∈ lw_tbl := List.mem_of_getElem? (i := 1407) rfl
set_option maxRecDepth 100000 in
theorem mCd_L_streak : mCode mL_streak ∈ lw_tbl := List.mem_of_getElem? (i := 1415) rfl
set_option maxRecDepth 100000 in
theorem mCd_L_off : mCode mL_off ∈ lw_tbl := List.mem_of_getElem? (i := 1427) rfl
set_option maxRecDepth 100000 in
theorem mCd_L_tray : mCode mL_tray ∈ lw_tbl := List.mem_of_getElem? (i := 1435) rfl
set_option maxRecDepth 100000 in
theorem mCd_L_write : mCode mL_write ∈ lw_tbl := List.mem_of_getElem? (i := 1447) rfl
set_option maxRecDepth 100000 in
theorem mCd_L_pour : mCode mL_pour ∈ lw_tbl := List.mem_of_getElem? (i := 1479) rfl
set_option maxRecDepth 100000 in
theorem mCd_L_image : mCode mL_image ∈ lw_tbl := List.mem_of_getElem? (i := 1487) rfl
set_option maxRecDepth 100000 in
theorem mCd_L_restore : mCode mL_restore ∈ lw_tbl := List.mem_of_getElem? (i := 1503) rfl
end
section
def mIs (i : Nat) (w : Cond) : Bool := decide (lw_tbl[i]? = some w)
theorem mIs_mem {i : Nat} {w : Cond} (h : mIs i w = true) : w ∈ lw_tbl := List.mem_of_getElem? (of_decide_eq_true h)
/-- what holds of the name of a method that is called -/
def mYn (y : MethodName) (n : Nat) : Bool := decide (y.cls ≠ "java/lang/invoke/MethodHandle") && decide (y.cls ≠ "java/lang/invoke/VarHandle") && decide ((parseMethodDescriptor y.desc).map (fun d => d.parameters.length) = some n)
def mMw (oc : Nat) (q : Nat × Nat × Nat × mM) (ix : Nat × Nat × Nat × Nat × Nat) : Bool := match q.2.1 with
  | 0 => mIs ix.2.1 (.initialized q.2.2.2.1.cls) && mIs ix.2.2.1 (.methodLink (mNm oc) q.1 q.2.2.2.1) && mIs ix.2.2.2.1 (.instanceMethod q.2.2.2.1) && mIs ix.2.2.2.2 (.selects q.2.2.2.1.cls q.2.2.2.1 q.2.2.2.1) && mYn q.2.2.2.1 q.2.2.1 && decide (mNm q.2.2.2.2.2.2.2.2.1 = q.2.2.2.1.cls) && decide (q.2.2.2.2.2.2.2.1 = []) && decide (q.2.2.2.2.2.1 ≤ 20)
  | 1 => mIs ix.2.1 (.initialized q.2.2.2.1.cls) && mIs ix.2.2.1 (.methodLinkNest (mNm oc) q.1 q.2.2.2.1 "SugarDice") && mIs ix.2.2.2.1 (.instanceMethod q.2.2.2.1) && mIs ix.2.2.2.2 (.selects q.2.2.2.1.cls q.2.2.2.1 q.2.2.2.1) && mYn q.2.2.2.1 q.2.2.1 && decide (mNm q.2.2.2.2.2.2.2.2.1 = q.2.2.2.1.cls) && decide (q.2.2.2.2.2.2.2.1 = []) && decide (q.2.2.2.2.2.1 ≤ 20)
  | 2 => mIs ix.2.1 (.initialized q.2.2.2.1.cls) && mIs ix.2.2.1 (.methodLink (mNm oc) q.1 q.2.2.2.1) && mIs ix.2.2.2.1 (.static q.2.2.2.1) && mYn q.2.2.2.1 q.2.2.1 && decide (q.2.2.2.2.2.2.2.1 = []) && decide (q.2.2.2.2.2.1 ≤ 20)
  | 3 => mIs ix.2.1 (.initialized q.2.2.2.1.cls) && mIs ix.2.2.1 (.methodLinkNest (mNm oc) q.1 q.2.2.2.1 "SugarDice") && mIs ix.2.2.2.1 (.static q.2.2.2.1) && mYn q.2.2.2.1 q.2.2.1 && decide (q.2.2.2.2.2.2.2.1 = []) && decide (q.2.2.2.2.2.1 ≤ 20)
  | 4 => mIs ix.2.1 (.initialized q.2.2.2.1.cls) && mIs ix.2.2.1 (.methodLink (mNm oc) q.1 q.2.2.2.1) && mIs ix.2.2.2.1 (.instanceMethod q.2.2.2.1) && mYn q.2.2.2.1 q.2.2.1 && decide (q.2.2.2.1.name = "<init>") && decide (q.2.2.2.2.2.2.1 = none) && decide (q.2.2.2.2.2.2.2.1 = []) && decide (q.2.2.2.2.2.1 ≤ 20)
  | 5 => mIs ix.2.1 (.initialized q.2.2.2.1.cls) && mIs ix.2.2.1 (.methodLinkNest (mNm oc) q.1 q.2.2.2.1 "SugarDice") && mIs ix.2.2.2.1 (.instanceMethod q.2.2.2.1) && mYn q.2.2.2.1 q.2.2.1 && decide (q.2.2.2.1.name = "<init>") && decide (q.2.2.2.2.2.2.1 = none) && decide (q.2.2.2.2.2.2.2.1 = []) && decide (q.2.2.2.2.2.1 ≤ 20)
  | 6 => mIs ix.1 (.methodLink (mNm oc) q.1 Lib.objectInit)
  | 7 => mIs ix.1 (.methodLink (mNm oc) q.1 arraycopyName)
  | 8 => mIs ix.2.1 (.initialized q.2.2.2.1.cls) && mIs ix.2.2.1 (.methodLink (mNm oc) q.1 q.2.2.2.1) && mIs ix.2.2.2.1 (.static q.2.2.2.1) && mYn q.2.2.2.1 q.2.2.1 && decide (q.2.2.2.2.2.2.2.1 ≠ []) && decide (q.2.2.2.2.2.1 ≤ 20)
  | 10 => mIs ix.2.2.1 (.methodLink (mNm oc) q.1 Lib.Math.min.name)
  | 11 => mIs ix.2.2.1 (.methodLink (mNm oc) q.1 Lib.Math.max.name)
  | 12 => mIs ix.2.2.1 (.methodLink (mNm oc) q.1 Lib.Math.abs.name)
  | 13 => mIs ix.2.2.1 (.methodLink (mNm oc) q.1 Lib.MathLoose.max_long.x)
  | _ => mIs ix.2.1 (.initialized q.2.2.2.1.cls) && mIs ix.2.2.1 (.methodLink (mNm oc) q.1 q.2.2.2.1) && mIs ix.2.2.2.1 (.instanceMethod q.2.2.2.1) && mIs ix.2.2.2.2 (.selects q.2.2.2.1.cls q.2.2.2.1 q.2.2.2.1) && mYn q.2.2.2.1 q.2.2.1 && decide (q.2.2.2.2.2.2.2.1 = []) && decide (q.2.2.2.2.2.1 ≤ 20)
theorem mK_0_15 : mMw 0 (15, 1, 2, mX2_weight) (484, 163, 481, 483, 10) = true := by decide +kernel
theorem mK_0_21 : mMw 0 (21, 0, 2, mX0_waysToBeat) (480, 166, 477, 479, 9) = true := by decide +kernel
theorem mK_0_28 : mMw 0 (28, 0, 1, mX0_weakerOnes) (472, 166, 469, 471, 7) = true := by decide +kernel
theorem mK_0_32 : mMw 0 (32, 1, 1, mX2_isGone) (488, 163, 485, 487, 11) = true := by decide +kernel
theorem mK_0_36 : mMw 0 (36, 0, 2, mX0_isBetter) (476, 166, 473, 475, 8) = true := by decide +kernel
theorem mK_0_40 : mMw 0 (40, 1, 1, mX2_total) (492, 163, 510, 491, 12) = true := by decide +kernel
theorem mK_0_43 : mMw 0 (43, 12, 1, mJ9_abs_0f7a4) (0, 0, 511, 0, 0) = true := by decide +kernel
theorem mK_0_3 : mMw 0 (3, 6, 0, mX0_init) (338, 0, 0, 0, 0) = true := by decide +kernel
theorem mMt_ok0 : ∀ q ∈ mMt0, ∃ ix, mMw 0 q ix = true := List.forall_mem_cons.mpr ⟨⟨_, mK_0_15⟩, List.forall_mem_cons.mpr ⟨⟨_, mK_0_21⟩, List.forall_mem_cons.mpr ⟨⟨_, mK_0_28⟩, List.forall_mem_cons.mpr ⟨⟨_, mK_0_32⟩, List.forall_mem_cons.mpr ⟨⟨_, mK_0_36⟩, List.forall_mem_cons.mpr ⟨⟨_, mK_0_40⟩, List.forall_mem_cons.mpr ⟨⟨_, mK_0_43⟩, List.forall_mem_cons.mpr ⟨⟨_, mK_0_3⟩, fun _ h => absurd h List.not_mem_nil⟩⟩⟩⟩⟩⟩⟩⟩
theorem mMt_cd0 : ∀ q ∈ mMt0, mCode q.2.2.2 ∈ lw_tbl := List.forall_mem_cons.mpr ⟨mCd_X2_weight, List.forall_mem_cons.mpr ⟨mCd_X0_waysToBeat, List.forall_mem_cons.mpr ⟨mCd_X0_weakerOnes, List.forall_mem_cons.mpr ⟨mCd_X2_isGone, List.forall_mem_cons.mpr ⟨mCd_X0_isBetter, List.forall_mem_cons.mpr ⟨mCd_X2_total, List.forall_mem_cons.mpr ⟨mCd_J9_abs_0f7a4, List.forall_mem_cons.mpr ⟨mCd_X0_init, fun _ h => absurd h List.not_mem_nil⟩⟩⟩⟩⟩⟩⟩⟩
theorem mK_1_1 : mMw 1 (1, 6, 0, mX0_init) (308, 0, 0, 0, 0) = true := by decide +kernel
theorem mMt_ok1 : ∀ q ∈ mMt1, ∃ ix, mMw 1 q ix = true := List.forall_mem_cons.mpr ⟨⟨_, mK_1_1⟩, fun _ h => absurd h List.not_mem_nil⟩
theorem mMt_cd1 : ∀ q ∈ mMt1, mCode q.2.2.2 ∈ lw_tbl := List.forall_mem_cons.mpr ⟨mCd_X0_init, fun _ h => absurd h List.not_mem_nil⟩
theorem mK_2_50 : mMw 2 (50, 0, 2, mX2_weight) (484, 163, 493, 483, 10) = true := by decide +kernel
theorem mK_2_54 : mMw 2 (54, 0, 1, mX2_total) (492, 163, 489, 491, 12) = true := by decide +kernel
theorem mK_2_58 : mMw 2 (58, 0, 1, mX2_isGone) (488, 163, 555, 487, 11) = true := by decide +kernel
theorem mK_2_62 : mMw 2 (62, 0, 1, mX2_hasDie) (771, 163, 845, 770, 40) = true := by decide +kernel
theorem mK_2_65 : mMw 2 (65, 0, 1, mX2_hasHand) (815, 163, 821, 814, 44) = true := by decide +kernel
theorem mK_2_72 : mMw 2 (72, 0, 1, mX2_isSalt) (797, 163, 902, 796, 42) = true := by decide +kernel
theorem mK_2_80 : mMw 2 (80, 0, 0, mX2_hasRoomForThrow) (881, 163, 896, 880, 52) = true := by decide +kernel
theorem mK_2_86 : mMw 2 (86, 0, 3, mX2_whyNot) (922, 163, 986, 921, 57) = true := by decide +kernel
theorem mK_2_90 : mMw 2 (90, 0, 3, mX2_throwFace) (891, 163, 991, 890, 54) = true := by decide +kernel
theorem mK_2_94 : mMw 2 (94, 0, 1, mX2_heat) (820, 163, 897, 819, 45) = true := by decide +kernel
theorem mK_2_97 : mMw 2 (97, 0, 3, mX2_wear) (901, 163, 898, 900, 55) = true := by decide +kernel
theorem mK_2_100 : mMw 2 (100, 0, 1, mX2_toldThrow) (537, 163, 534, 536, 19) = true := by decide +kernel
theorem mK_2_103 : mMw 2 (103, 0, 1, mX2_faceForAnts) (1018, 163, 1015, 1017, 67) = true := by decide +kernel
theorem mK_2_109 : mMw 2 (109, 1, 0, mX1_draw) (455, 164, 452, 454, 4) = true := by decide +kernel
theorem mK_2_115 : mMw 2 (115, 0, 2, mX2_dieLeft) (460, 163, 457, 459, 5) = true := by decide +kernel
theorem mK_2_44 : mMw 2 (44, 7, 5, mX0_init) (753, 0, 0, 0, 0) = true := by decide +kernel
theorem mK_2_68 : mMw 2 (68, 3, 1, mX9_isFace) (894, 160, 892, 893, 0) = true := by decide +kernel
theorem mK_2_75 : mMw 2 (75, 10, 2, mJ9_min_7cf53) (0, 0, 903, 0, 0) = true := by decide +kernel
theorem mK_2_106 : mMw 2 (106, 11, 2, mJ9_max_7cf53) (0, 0, 1030, 0, 0) = true := by decide +kernel
theorem mK_2_3 : mMw 2 (3, 6, 0, mX0_init) (267, 0, 0, 0, 0) = true := by decide +kernel
theorem mMt_ok2 : ∀ q ∈ mMt2, ∃ ix, mMw 2 q ix = true := List.forall_mem_cons.mpr ⟨⟨_, mK_2_50⟩, List.forall_mem_cons.mpr ⟨⟨_, mK_2_54⟩, List.forall_mem_cons.mpr ⟨⟨_, mK_2_58⟩, List.forall_mem_cons.mpr ⟨⟨_, mK_2_62⟩, List.forall_mem_cons.mpr ⟨⟨_, mK_2_65⟩, List.forall_mem_cons.mpr ⟨⟨_, mK_2_72⟩, List.forall_mem_cons.mpr ⟨⟨_, mK_2_80⟩, List.forall_mem_cons.mpr ⟨⟨_, mK_2_86⟩, List.forall_mem_cons.mpr ⟨⟨_, mK_2_90⟩, List.forall_mem_cons.mpr ⟨⟨_, mK_2_94⟩, List.forall_mem_cons.mpr ⟨⟨_, mK_2_97⟩, List.forall_mem_cons.mpr ⟨⟨_, mK_2_100⟩, List.forall_mem_cons.mpr ⟨⟨_, mK_2_103⟩, List.forall_mem_cons.mpr ⟨⟨_, mK_2_109⟩, List.forall_mem_cons.mpr ⟨⟨_, mK_2_115⟩, List.forall_mem_cons.mpr ⟨⟨_, mK_2_44⟩, List.forall_mem_cons.mpr ⟨⟨_, mK_2_68⟩, List.forall_mem_cons.mpr ⟨⟨_, mK_2_75⟩, List.forall_mem_cons.mpr ⟨⟨_, mK_2_106⟩, List.forall_mem_cons.mpr ⟨⟨_, mK_2_3⟩, fun _ h => absurd h List.not_mem_nil⟩⟩⟩⟩⟩⟩⟩⟩⟩⟩⟩⟩⟩⟩⟩⟩⟩⟩⟩⟩
theorem mMt_cd2 : ∀ q ∈ mMt2, mCode q.2.2.2 ∈ lw_tbl := List.forall_mem_cons.mpr ⟨mCd_X2_weight, List.forall_mem_cons.mpr ⟨mCd_X2_total, List.forall_mem_cons.mpr ⟨mCd_X2_isGone, List.forall_mem_cons.mpr ⟨mCd_X2_hasDie, List.forall_mem_cons.mpr ⟨mCd_X2_hasHand, List.forall_mem_cons.mpr ⟨mCd_X2_isSalt, List.forall_mem_cons.mpr ⟨mCd_X2_hasRoomForThrow, List.forall_mem_cons.mpr ⟨mCd_X2_whyNot, List.forall_mem_cons.mpr ⟨mCd_X2_throwFace, List.forall_mem_cons.mpr ⟨mCd_X2_heat, List.forall_mem_cons.mpr ⟨mCd_X2_wear, List.forall_mem_cons.mpr ⟨mCd_X2_toldThrow, List.forall_mem_cons.mpr ⟨mCd_X2_faceForAnts, List.forall_mem_cons.mpr ⟨mCd_X1_draw, List.forall_mem_cons.mpr ⟨mCd_X2_dieLeft, List.forall_mem_cons.mpr ⟨mCd_X0_init, List.forall_mem_cons.mpr ⟨mCd_X9_isFace, List.forall_mem_cons.mpr ⟨mCd_J9_min_7cf53, List.forall_mem_cons.mpr ⟨mCd_J9_max_7cf53, List.forall_mem_cons.mpr ⟨mCd_X0_init, fun _ h => absurd h List.not_mem_nil⟩⟩⟩⟩⟩⟩⟩⟩⟩⟩⟩⟩⟩⟩⟩⟩⟩⟩⟩⟩
theorem mK_3_21 : mMw 3 (21, 1, 1, mX2_dieOfThrow) (533, 163, 530, 532, 18) = true := by decide +kernel
theorem mK_3_25 : mMw 3 (25, 1, 1, mX2_handOfThrow) (833, 163, 830, 832, 48) = true := by decide +kernel
theorem mK_3_28 : mMw 3 (28, 1, 1, mX2_faceOfThrow) (545, 163, 542, 544, 21) = true := by decide +kernel
theorem mK_3_37 : mMw 3 (37, 0, 1, mX3_throwsOfDie) (529, 168, 526, 528, 17) = true := by decide +kernel
theorem mK_3_40 : mMw 3 (40, 0, 2, mX3_timesShown) (541, 168, 538, 540, 20) = true := by decide +kernel
theorem mK_3_49 : mMw 3 (49, 0, 1, mX3_howFarOff) (525, 168, 522, 524, 16) = true := by decide +kernel
theorem mK_3_31 : mMw 3 (31, 11, 2, mJ9_max_7cf53) (0, 0, 1424, 0, 0) = true := by decide +kernel
theorem mK_3_43 : mMw 3 (43, 12, 1, mJ9_abs_0f7a4) (0, 0, 546, 0, 0) = true := by decide +kernel
theorem mK_3_3 : mMw 3 (3, 6, 0, mX0_init) (364, 0, 0, 0, 0) = true := by decide +kernel
theorem mMt_ok3 : ∀ q ∈ mMt3, ∃ ix, mMw 3 q ix = true := List.forall_mem_cons.mpr ⟨⟨_, mK_3_21⟩, List.forall_mem_cons.mpr ⟨⟨_, mK_3_25⟩, List.forall_mem_cons.mpr ⟨⟨_, mK_3_28⟩, List.forall_mem_cons.mpr ⟨⟨_, mK_3_37⟩, List.forall_mem_cons.mpr ⟨⟨_, mK_3_40⟩, List.forall_mem_cons.mpr ⟨⟨_, mK_3_49⟩, List.forall_mem_cons.mpr ⟨⟨_, mK_3_31⟩, List.forall_mem_cons.mpr ⟨⟨_, mK_3_43⟩, List.forall_mem_cons.mpr ⟨⟨_, mK_3_3⟩, fun _ h => absurd h List.not_mem_nil⟩⟩⟩⟩⟩⟩⟩⟩⟩
theorem mMt_cd3 : ∀ q ∈ mMt3, mCode q.2.2.2 ∈ lw_tbl := List.forall_mem_cons.mpr ⟨mCd_X2_dieOfThrow, List.forall_mem_cons.mpr ⟨mCd_X2_handOfThrow, List.forall_mem_cons.mpr ⟨mCd_X2_faceOfThrow, List.forall_mem_cons.mpr ⟨mCd_X3_throwsOfDie, List.forall_mem_cons.mpr ⟨mCd_X3_timesShown, List.forall_mem_cons.mpr ⟨mCd_X3_howFarOff, List.forall_mem_cons.mpr ⟨mCd_J9_max_7cf53, List.forall_mem_cons.mpr ⟨mCd_J9_abs_0f7a4, List.forall_mem_cons.mpr ⟨mCd_X0_init, fun _ h => absurd h List.not_mem_nil⟩⟩⟩⟩⟩⟩⟩⟩⟩
theorem mK_4_35 : mMw 4 (35, 1, 1, mX2_total) (492, 163, 1098, 491, 12) = true := by decide +kernel
theorem mK_4_39 : mMw 4 (39, 0, 1, mX4_countSums) (1114, 165, 1111, 1113, 76) = true := by decide +kernel
theorem mK_4_49 : mMw 4 (49, 1, 2, mX2_weight) (484, 163, 1122, 483, 10) = true := by decide +kernel
theorem mK_4_52 : mMw 4 (52, 0, 1, mX4_wholeOf) (1094, 165, 1196, 1093, 74) = true := by decide +kernel
theorem mK_4_61 : mMw 4 (61, 0, 2, mX4_waysOfSumOrMore) (1133, 165, 1203, 1132, 78) = true := by decide +kernel
theorem mK_4_69 : mMw 4 (69, 0, 2, mX4_addToFaceSets) (1218, 165, 1215, 1217, 86) = true := by decide +kernel
theorem mK_4_77 : mMw 4 (77, 0, 3, mX4_countThrows) (1320, 165, 1317, 1319, 92) = true := by decide +kernel
theorem mK_4_84 : mMw 4 (84, 0, 2, mX4_bestByStopping) (1336, 165, 1333, 1335, 94) = true := by decide +kernel
theorem mK_4_91 : mMw 4 (91, 0, 2, mX4_addToSums) (1121, 165, 1118, 1120, 77) = true := by decide +kernel
theorem mK_4_31 : mMw 4 (31, 2, 2, mX4_isIn) (1097, 165, 1095, 1096, 0) = true := by decide +kernel
theorem mK_4_43 : mMw 4 (43, 11, 2, mJ9_max_7cf53) (0, 0, 1134, 0, 0) = true := by decide +kernel
theorem mK_4_56 : mMw 4 (56, 2, 1, mJ6_bitCount_0f7a4) (1199, 183, 1197, 1198, 0) = true := by decide +kernel
theorem mK_4_65 : mMw 4 (65, 2, 1, mX4_begin) (1117, 165, 1115, 1116, 0) = true := by decide +kernel
theorem mK_4_73 : mMw 4 (73, 2, 1, mX4_isWithoutGap) (1221, 165, 1219, 1220, 0) = true := by decide +kernel
theorem mK_4_81 : mMw 4 (81, 13, 2, mJ9_max_f86c9) (0, 0, 1337, 0, 0) = true := by decide +kernel
theorem mK_4_87 : mMw 4 (87, 3, 2, mX9_power) (1250, 160, 1340, 1249, 0) = true := by decide +kernel
theorem mK_4_3 : mMw 4 (3, 6, 0, mX0_init) (318, 0, 0, 0, 0) = true := by decide +kernel
theorem mMt_ok4 : ∀ q ∈ mMt4, ∃ ix, mMw 4 q ix = true := List.forall_mem_cons.mpr ⟨⟨_, mK_4_35⟩, List.forall_mem_cons.mpr ⟨⟨_, mK_4_39⟩, List.forall_mem_cons.mpr ⟨⟨_, mK_4_49⟩, List.forall_mem_cons.mpr ⟨⟨_, mK_4_52⟩, List.forall_mem_cons.mpr ⟨⟨_, mK_4_61⟩, List.forall_mem_cons.mpr ⟨⟨_, mK_4_69⟩, List.forall_mem_cons.mpr ⟨⟨_, mK_4_77⟩, List.forall_mem_cons.mpr ⟨⟨_, mK_4_84⟩, List.forall_mem_cons.mpr ⟨⟨_, mK_4_91⟩, List.forall_mem_cons.mpr ⟨⟨_, mK_4_31⟩, List.forall_mem_cons.mpr ⟨⟨_, mK_4_43⟩, List.forall_mem_cons.mpr ⟨⟨_, mK_4_56⟩, List.forall_mem_cons.mpr ⟨⟨_, mK_4_65⟩, List.forall_mem_cons.mpr ⟨⟨_, mK_4_73⟩, List.forall_mem_cons.mpr ⟨⟨_, mK_4_81⟩, List.forall_mem_cons.mpr ⟨⟨_, mK_4_87⟩, List.forall_mem_cons.mpr ⟨⟨_, mK_4_3⟩, fun _ h => absurd h List.not_mem_nil⟩⟩⟩⟩⟩⟩⟩⟩⟩⟩⟩⟩⟩⟩⟩⟩⟩
theorem mMt_cd4 : ∀ q ∈ mMt4, mCode q.2.2.2 ∈ lw_tbl := List.forall_mem_cons.mpr ⟨mCd_X2_total, List.forall_mem_cons.mpr ⟨mCd_X4_countSums, List.forall_mem_cons.mpr ⟨mCd_X2_weight, List.forall_mem_cons.mpr ⟨mCd_X4_wholeOf, List.forall_mem_cons.mpr ⟨mCd_X4_waysOfSumOrMore, List.forall_mem_cons.mpr ⟨mCd_X4_addToFaceSets, List.forall_mem_cons.mpr ⟨mCd_X4_countThrows, List.forall_mem_cons.mpr ⟨mCd_X4_bestByStopping, List.forall_mem_cons.mpr ⟨mCd_X4_addToSums, List.forall_mem_cons.mpr ⟨mCd_X4_isIn, List.forall_mem_cons.mpr ⟨mCd_J9_max_7cf53, List.forall_mem_cons.mpr ⟨mCd_J6_bitCount_0f7a4, List.forall_mem_cons.mpr ⟨mCd_X4_begin, List.forall_mem_cons.mpr ⟨mCd_X4_isWithoutGap, List.forall_mem_cons.mpr ⟨mCd_J9_max_f86c9, List.forall_mem_cons.mpr ⟨mCd_X9_power, List.forall_mem_cons.mpr ⟨mCd_X0_init, fun _ h => absurd h List.not_mem_nil⟩⟩⟩⟩⟩⟩⟩⟩⟩⟩⟩⟩⟩⟩⟩⟩⟩
theorem mK_5_23 : mMw 5 (23, 0, 0, mX5_clear) (643, 162, 640, 642, 26) = true := by decide +kernel
theorem mK_5_29 : mMw 5 (29, 0, 0, mX5_nextToken) (647, 162, 644, 646, 27) = true := by decide +kernel
theorem mK_5_38 : mMw 5 (38, 0, 0, mX5_readsLine) (728, 162, 725, 727, 32) = true := by decide +kernel
theorem mK_5_57 : mMw 5 (57, 0, 0, mX5_readsDie) (732, 162, 729, 731, 33) = true := by decide +kernel
theorem mK_5_60 : mMw 5 (60, 0, 0, mX5_readsHand) (744, 162, 741, 743, 36) = true := by decide +kernel
theorem mK_5_63 : mMw 5 (63, 0, 0, mX5_readsAnts) (748, 162, 745, 747, 37) = true := by decide +kernel
theorem mK_5_66 : mMw 5 (66, 0, 1, mX5_isFaulty) (736, 162, 733, 735, 34) = true := by decide +kernel
theorem mK_5_70 : mMw 5 (70, 0, 2, mX5_readsNumber) (740, 162, 737, 739, 35) = true := by decide +kernel
theorem mK_5_80 : mMw 5 (80, 1, 1, mX6_byteAt) (651, 161, 648, 650, 28) = true := by decide +kernel
theorem mK_5_92 : mMw 5 (92, 0, 0, mX5_nextNumber) (661, 162, 658, 660, 29) = true := by decide +kernel
theorem mK_5_98 : mMw 5 (98, 0, 0, mX5_nextWord) (668, 162, 665, 667, 30) = true := by decide +kernel
theorem mK_5_103 : mMw 5 (103, 0, 1, mX5_isWord) (673, 162, 670, 672, 31) = true := by decide +kernel
theorem mK_5_113 : mMw 5 (113, 9, 0, mJ0_length_8abf5) (677, 175, 674, 675, 676) = true := by decide +kernel
theorem mK_5_118 : mMw 5 (118, 9, 1, mJ0_charAt_5068e) (687, 175, 684, 685, 686) = true := by decide +kernel
theorem mK_5_86 : mMw 5 (86, 2, 1, mX5_isBlank) (654, 162, 652, 653, 0) = true := by decide +kernel
theorem mK_5_89 : mMw 5 (89, 2, 1, mX5_isDigit) (657, 162, 655, 656, 0) = true := by decide +kernel
theorem mK_5_95 : mMw 5 (95, 2, 1, mX5_isLetter) (664, 162, 662, 663, 0) = true := by decide +kernel
theorem mK_5_3 : mMw 5 (3, 6, 0, mX0_init) (213, 0, 0, 0, 0) = true := by decide +kernel
theorem mMt_ok5 : ∀ q ∈ mMt5, ∃ ix, mMw 5 q ix = true := List.forall_mem_cons.mpr ⟨⟨_, mK_5_23⟩, List.forall_mem_cons.mpr ⟨⟨_, mK_5_29⟩, List.forall_mem_cons.mpr ⟨⟨_, mK_5_38⟩, List.forall_mem_cons.mpr ⟨⟨_, mK_5_57⟩, List.forall_mem_cons.mpr ⟨⟨_, mK_5_60⟩, List.forall_mem_cons.mpr ⟨⟨_, mK_5_63⟩, List.forall_mem_cons.mpr ⟨⟨_, mK_5_66⟩, List.forall_mem_cons.mpr ⟨⟨_, mK_5_70⟩, List.forall_mem_cons.mpr ⟨⟨_, mK_5_80⟩, List.forall_mem_cons.mpr ⟨⟨_, mK_5_92⟩, List.forall_mem_cons.mpr ⟨⟨_, mK_5_98⟩, List.forall_mem_cons.mpr ⟨⟨_, mK_5_103⟩, List.forall_mem_cons.mpr ⟨⟨_, mK_5_113⟩, List.forall_mem_cons.mpr ⟨⟨_, mK_5_118⟩, List.forall_mem_cons.mpr ⟨⟨_, mK_5_86⟩, List.forall_mem_cons.mpr ⟨⟨_, mK_5_89⟩, List.forall_mem_cons.mpr ⟨⟨_, mK_5_95⟩, List.forall_mem_cons.mpr ⟨⟨_, mK_5_3⟩, fun _ h => absurd h List.not_mem_nil⟩⟩⟩⟩⟩⟩⟩⟩⟩⟩⟩⟩⟩⟩⟩⟩⟩⟩
theorem mMt_cd5 : ∀ q ∈ mMt5, mCode q.2.2.2 ∈ lw_tbl := List.forall_mem_cons.mpr ⟨mCd_X5_clear, List.forall_mem_cons.mpr ⟨mCd_X5_nextToken, List.forall_mem_cons.mpr ⟨mCd_X5_readsLine, List.forall_mem_cons.mpr ⟨mCd_X5_readsDie, List.forall_mem_cons.mpr ⟨mCd_X5_readsHand, List.forall_mem_cons.mpr ⟨mCd_X5_readsAnts, List.forall_mem_cons.mpr ⟨mCd_X5_isFaulty, List.forall_mem_cons.mpr ⟨mCd_X5_readsNumber, List.forall_mem_cons.mpr ⟨mCd_X6_byteAt, List.forall_mem_cons.mpr ⟨mCd_X5_nextNumber, List.forall_mem_cons.mpr ⟨mCd_X5_nextWord, List.forall_mem_cons.mpr ⟨mCd_X5_isWord, List.forall_mem_cons.mpr ⟨mCd_J0_length_8abf5, List.forall_mem_cons.mpr ⟨mCd_J0_charAt_5068e, List.forall_mem_cons.mpr ⟨mCd_X5_isBlank, List.forall_mem_cons.mpr ⟨mCd_X5_isDigit, List.forall_mem_cons.mpr ⟨mCd_X5_isLetter, List.forall_mem_cons.mpr ⟨mCd_X0_init, fun _ h => absurd h List.not_mem_nil⟩⟩⟩⟩⟩⟩⟩⟩⟩⟩⟩⟩⟩⟩⟩⟩⟩⟩
theorem mK_6_3 : mMw 6 (3, 6, 0, mX0_init) (198, 0, 0, 0, 0) = true := by decide +kernel
theorem mMt_ok6 : ∀ q ∈ mMt6, ∃ ix, mMw 6 q ix = true := List.forall_mem_cons.mpr ⟨⟨_, mK_6_3⟩, fun _ h => absurd h List.not_mem_nil⟩
theorem mMt_cd6 : ∀ q ∈ mMt6, mCode q.2.2.2 ∈ lw_tbl := List.forall_mem_cons.mpr ⟨mCd_X0_init, fun _ h => absurd h List.not_mem_nil⟩
theorem mK_7_26 : mMw 7 (26, 0, 1, mX7_cut) (1476, 169, 1473, 1475, 106) = true := by decide +kernel
theorem mK_7_30 : mMw 7 (30, 0, 1, mX7_number) (980, 169, 1357, 979, 62) = true := by decide +kernel
theorem mK_7_34 : mMw 7 (34, 3, 1, mX9_isFace) (894, 160, 1358, 893, 0) = true := by decide +kernel
theorem mK_7_3 : mMw 7 (3, 6, 0, mX0_init) (375, 0, 0, 0, 0) = true := by decide +kernel
theorem mMt_ok7 : ∀ q ∈ mMt7, ∃ ix, mMw 7 q ix = true := List.forall_mem_cons.mpr ⟨⟨_, mK_7_26⟩, List.forall_mem_cons.mpr ⟨⟨_, mK_7_30⟩, List.forall_mem_cons.mpr ⟨⟨_, mK_7_34⟩, List.forall_mem_cons.mpr ⟨⟨_, mK_7_3⟩, fun _ h => absurd h List.not_mem_nil⟩⟩⟩⟩
theorem mMt_cd7 : ∀ q ∈ mMt7, mCode q.2.2.2 ∈ lw_tbl := List.forall_mem_cons.mpr ⟨mCd_X7_cut, List.forall_mem_cons.mpr ⟨mCd_X7_number, List.forall_mem_cons.mpr ⟨mCd_X9_isFace, List.forall_mem_cons.mpr ⟨mCd_X0_init, fun _ h => absurd h List.not_mem_nil⟩⟩⟩⟩
theorem mK_8_33 : mMw 8 (33, 1, 1, mX7_face) (1367, 169, 1364, 1366, 98) = true := by decide +kernel
theorem mK_8_37 : mMw 8 (37, 1, 2, mX2_weight) (484, 163, 1368, 483, 10) = true := by decide +kernel
theorem mK_8_41 : mMw 8 (41, 1, 1, mX2_total) (492, 163, 1369, 491, 12) = true := by decide +kernel
theorem mK_8_48 : mMw 8 (48, 0, 3, mX8_totalBehind) (1396, 167, 1393, 1395, 101) = true := by decide +kernel
theorem mK_8_52 : mMw 8 (52, 0, 1, mX8_begin) (1400, 167, 1397, 1399, 102) = true := by decide +kernel
theorem mK_8_56 : mMw 8 (56, 1, 1, mX2_hasHand) (815, 163, 1402, 814, 44) = true := by decide +kernel
theorem mK_8_60 : mMw 8 (60, 1, 1, mX2_isSalt) (797, 163, 1403, 796, 42) = true := by decide +kernel
theorem mK_8_68 : mMw 8 (68, 1, 1, mX2_heat) (820, 163, 1401, 819, 45) = true := by decide +kernel
theorem mK_8_44 : mMw 8 (44, 3, 2, mX9_power) (1250, 160, 1370, 1249, 0) = true := by decide +kernel
theorem mK_8_63 : mMw 8 (63, 10, 2, mJ9_min_7cf53) (0, 0, 1404, 0, 0) = true := by decide +kernel
theorem mK_8_3 : mMw 8 (3, 6, 0, mX0_init) (348, 0, 0, 0, 0) = true := by decide +kernel
theorem mMt_ok8 : ∀ q ∈ mMt8, ∃ ix, mMw 8 q ix = true := List.forall_mem_cons.mpr ⟨⟨_, mK_8_33⟩, List.forall_mem_cons.mpr ⟨⟨_, mK_8_37⟩, List.forall_mem_cons.mpr ⟨⟨_, mK_8_41⟩, List.forall_mem_cons.mpr ⟨⟨_, mK_8_48⟩, List.forall_mem_cons.mpr ⟨⟨_, mK_8_52⟩, List.forall_mem_cons.mpr ⟨⟨_, mK_8_56⟩, List.forall_mem_cons.mpr ⟨⟨_, mK_8_60⟩, List.forall_mem_cons.mpr ⟨⟨_, mK_8_68⟩, List.forall_mem_cons.mpr ⟨⟨_, mK_8_44⟩, List.forall_mem_cons.mpr ⟨⟨_, mK_8_63⟩, List.forall_mem_cons.mpr ⟨⟨_, mK_8_3⟩, fun _ h => absurd h List.not_mem_nil⟩⟩⟩⟩⟩⟩⟩⟩⟩⟩⟩
theorem mMt_cd8 : ∀ q ∈ mMt8, mCode q.2.2.2 ∈ lw_tbl := List.forall_mem_cons.mpr ⟨mCd_X7_face, List.forall_mem_cons.mpr ⟨mCd_X2_weight, List.forall_mem_cons.mpr ⟨mCd_X2_total, List.forall_mem_cons.mpr ⟨mCd_X8_totalBehind, List.forall_mem_cons.mpr ⟨mCd_X8_begin, List.forall_mem_cons.mpr ⟨mCd_X2_hasHand, List.forall_mem_cons.mpr ⟨mCd_X2_isSalt, List.forall_mem_cons.mpr ⟨mCd_X2_heat, List.forall_mem_cons.mpr ⟨mCd_X9_power, List.forall_mem_cons.mpr ⟨mCd_J9_min_7cf53, List.forall_mem_cons.mpr ⟨mCd_X0_init, fun _ h => absurd h List.not_mem_nil⟩⟩⟩⟩⟩⟩⟩⟩⟩⟩⟩
end
section
theorem mK_9_80 : mMw 9 (80, 1, 0, mX6_hasRoomForFeed) (431, 161, 428, 430, 0) = true := by decide +kernel
theorem mK_9_84 : mMw 9 (84, 1, 1, mX6_put) (435, 161, 432, 434, 1) = true := by decide +kernel
theorem mK_9_99 : mMw 9 (99, 1, 1, mX5_read) (639, 162, 636, 638, 25) = true := by decide +kernel
theorem mK_9_105 : mMw 9 (105, 1, 1, mX2_begin) (752, 163, 749, 751, 38) = true := by decide +kernel
theorem mK_9_115 : mMw 9 (115, 0, 1, mX9_needDie) (767, 160, 764, 766, 39) = true := by decide +kernel
theorem mK_9_118 : mMw 9 (118, 0, 3, mX9_needWhat) (791, 160, 788, 790, 41) = true := by decide +kernel
theorem mK_9_122 : mMw 9 (122, 1, 1, mX2_total) (492, 163, 793, 491, 12) = true := by decide +kernel
theorem mK_9_126 : mMw 9 (126, 1, 1, mX2_isSalt) (797, 163, 794, 796, 42) = true := by decide +kernel
theorem mK_9_130 : mMw 9 (130, 1, 1, mX2_isGone) (488, 163, 798, 487, 11) = true := by decide +kernel
theorem mK_9_133 : mMw 9 (133, 1, 1, mX3_throwsOfDie) (529, 168, 799, 528, 17) = true := by decide +kernel
theorem mK_9_136 : mMw 9 (136, 1, 2, mX2_weight) (484, 163, 800, 483, 10) = true := by decide +kernel
theorem mK_9_140 : mMw 9 (140, 0, 1, mX9_needHand) (811, 160, 808, 810, 43) = true := by decide +kernel
theorem mK_9_143 : mMw 9 (143, 1, 1, mX2_heat) (820, 163, 817, 819, 45) = true := by decide +kernel
theorem mK_9_146 : mMw 9 (146, 1, 1, mX2_dieByLot) (825, 163, 822, 824, 46) = true := by decide +kernel
theorem mK_9_149 : mMw 9 (149, 1, 1, mX3_throwsOfHand) (829, 168, 826, 828, 47) = true := by decide +kernel
theorem mK_9_152 : mMw 9 (152, 1, 1, mX2_makeSalt) (844, 163, 841, 843, 49) = true := by decide +kernel
theorem mK_9_155 : mMw 9 (155, 0, 1, mX9_needNotGone) (857, 160, 854, 856, 50) = true := by decide +kernel
theorem mK_9_158 : mMw 9 (158, 0, 0, mX9_needRoomForThrow) (877, 160, 874, 876, 51) = true := by decide +kernel
theorem mK_9_161 : mMw 9 (161, 1, 1, mX1_begin) (447, 164, 444, 446, 2) = true := by decide +kernel
theorem mK_9_163 : mMw 9 (163, 1, 0, mX1_draw) (455, 164, 883, 454, 4) = true := by decide +kernel
theorem mK_9_167 : mMw 9 (167, 1, 2, mX2_faceByDraw) (887, 163, 884, 886, 53) = true := by decide +kernel
theorem mK_9_170 : mMw 9 (170, 1, 3, mX2_throwFace) (891, 163, 888, 890, 54) = true := by decide +kernel
theorem mK_9_173 : mMw 9 (173, 0, 1, mX9_needFace) (916, 160, 913, 915, 56) = true := by decide +kernel
theorem mK_9_176 : mMw 9 (176, 1, 3, mX2_whyNot) (922, 163, 919, 921, 57) = true := by decide +kernel
theorem mK_9_190 : mMw 9 (190, 1, 1, mX2_undo) (935, 163, 932, 934, 58) = true := by decide +kernel
theorem mK_9_198 : mMw 9 (198, 1, 1, mX2_dieOfThrow) (533, 163, 944, 532, 18) = true := by decide +kernel
theorem mK_9_201 : mMw 9 (201, 1, 1, mX2_handOfThrow) (833, 163, 945, 832, 48) = true := by decide +kernel
theorem mK_9_204 : mMw 9 (204, 1, 1, mX2_faceOfThrow) (545, 163, 946, 544, 21) = true := by decide +kernel
theorem mK_9_217 : mMw 9 (217, 1, 0, mX2_hasRoomForThrow) (881, 163, 878, 880, 52) = true := by decide +kernel
theorem mK_9_220 : mMw 9 (220, 0, 1, mX9_neededTray) (966, 160, 963, 965, 59) = true := by decide +kernel
theorem mK_9_224 : mMw 9 (224, 0, 1, mX9_throwTold) (976, 160, 973, 975, 61) = true := by decide +kernel
theorem mK_9_231 : mMw 9 (231, 1, 1, mX7_number) (980, 169, 977, 979, 62) = true := by decide +kernel
theorem mK_9_235 : mMw 9 (235, 1, 1, mX2_whyNotTold) (984, 163, 981, 983, 63) = true := by decide +kernel
theorem mK_9_239 : mMw 9 (239, 1, 0, mX2_allTotals) (559, 163, 556, 558, 23) = true := by decide +kernel
theorem mK_9_242 : mMw 9 (242, 0, 2, mX9_needMinutes) (1009, 160, 1006, 1008, 65) = true := by decide +kernel
theorem mK_9_246 : mMw 9 (246, 1, 2, mX2_feedAnts) (1014, 163, 1011, 1013, 66) = true := by decide +kernel
theorem mK_9_249 : mMw 9 (249, 1, 3, mX2_weightAfterAnts) (1029, 163, 1026, 1028, 68) = true := by decide +kernel
theorem mK_9_252 : mMw 9 (252, 1, 1, mX2_lastFaceForAnts) (1050, 163, 1047, 1049, 69) = true := by decide +kernel
theorem mK_9_257 : mMw 9 (257, 1, 3, mX2_wear) (901, 163, 1059, 900, 55) = true := by decide +kernel
theorem mK_9_260 : mMw 9 (260, 1, 1, mX2_cool) (1070, 163, 1067, 1069, 70) = true := by decide +kernel
theorem mK_9_263 : mMw 9 (263, 1, 1, mX2_drawLots) (451, 163, 448, 450, 3) = true := by decide +kernel
theorem mK_9_267 : mMw 9 (267, 0, 1, mX9_needSetNotGone) (1081, 160, 1078, 1080, 71) = true := by decide +kernel
theorem mK_9_270 : mMw 9 (270, 1, 1, mX4_wholeOf) (1094, 165, 1091, 1093, 74) = true := by decide +kernel
theorem mK_9_273 : mMw 9 (273, 1, 2, mX4_waysOfSum) (1110, 165, 1107, 1109, 75) = true := by decide +kernel
theorem mK_9_277 : mMw 9 (277, 1, 2, mX4_waysOfSumOrMore) (1133, 165, 1130, 1132, 78) = true := by decide +kernel
theorem mK_9_280 : mMw 9 (280, 1, 1, mX4_waysOfOneFace) (1145, 165, 1142, 1144, 79) = true := by decide +kernel
theorem mK_9_283 : mMw 9 (283, 1, 1, mX4_likeliestSum) (1156, 165, 1153, 1155, 80) = true := by decide +kernel
theorem mK_9_286 : mMw 9 (286, 1, 1, mX4_possibleSums) (1167, 165, 1164, 1166, 81) = true := by decide +kernel
theorem mK_9_289 : mMw 9 (289, 0, 1, mX9_needSet) (1085, 160, 1082, 1084, 72) = true := by decide +kernel
theorem mK_9_292 : mMw 9 (292, 0, 1, mX9_needNoneGone) (1090, 160, 1087, 1089, 73) = true := by decide +kernel
theorem mK_9_297 : mMw 9 (297, 1, 1, mX4_allSumsWeighed) (1179, 165, 1176, 1178, 82) = true := by decide +kernel
theorem mK_9_300 : mMw 9 (300, 0, 1, mX9_needOneToThree) (1190, 160, 1187, 1189, 83) = true := by decide +kernel
theorem mK_9_303 : mMw 9 (303, 1, 2, mX4_bestSetFor) (1195, 165, 1192, 1194, 84) = true := by decide +kernel
theorem mK_9_306 : mMw 9 (306, 1, 2, mX4_waysOfUnlikeFaces) (1214, 165, 1211, 1213, 85) = true := by decide +kernel
theorem mK_9_310 : mMw 9 (310, 0, 2, mX9_needThrowsUpToEight) (1246, 160, 1243, 1245, 87) = true := by decide +kernel
theorem mK_9_317 : mMw 9 (317, 1, 2, mX4_waysOfEveryFace) (1261, 165, 1258, 1260, 88) = true := by decide +kernel
theorem mK_9_326 : mMw 9 (326, 0, 2, mX9_needTwoDice) (1283, 160, 1280, 1282, 89) = true := by decide +kernel
theorem mK_9_329 : mMw 9 (329, 1, 2, mX0_waysToBeat) (480, 166, 1284, 479, 9) = true := by decide +kernel
theorem mK_9_332 : mMw 9 (332, 1, 2, mX0_waysToTie) (1295, 166, 1292, 1294, 90) = true := by decide +kernel
theorem mK_9_335 : mMw 9 (335, 1, 0, mX0_strongestDie) (468, 166, 465, 467, 6) = true := by decide +kernel
theorem mK_9_338 : mMw 9 (338, 1, 1, mX0_ringAt) (501, 166, 498, 500, 13) = true := by decide +kernel
theorem mK_9_345 : mMw 9 (345, 1, 3, mX4_waysOfMore) (1316, 165, 1313, 1315, 91) = true := by decide +kernel
theorem mK_9_349 : mMw 9 (349, 1, 0, mX0_evenestTwo) (509, 166, 506, 508, 14) = true := by decide +kernel
theorem mK_9_354 : mMw 9 (354, 1, 2, mX4_leastFaceToStop) (1332, 165, 1329, 1331, 93) = true := by decide +kernel
theorem mK_9_357 : mMw 9 (357, 1, 2, mX4_bestByStopping) (1336, 165, 1341, 1335, 94) = true := by decide +kernel
theorem mK_9_360 : mMw 9 (360, 0, 1, mX9_needFaces) (1352, 160, 1349, 1351, 95) = true := by decide +kernel
theorem mK_9_364 : mMw 9 (364, 1, 1, mX8_likeliestDie) (1363, 167, 1360, 1362, 97) = true := by decide +kernel
theorem mK_9_367 : mMw 9 (367, 1, 1, mX8_rowsOfDice) (1381, 167, 1378, 1380, 99) = true := by decide +kernel
theorem mK_9_370 : mMw 9 (370, 1, 4, mX8_rowOfHands) (1392, 167, 1389, 1391, 100) = true := by decide +kernel
theorem mK_9_374 : mMw 9 (374, 1, 2, mX3_timesShown) (541, 168, 1412, 540, 20) = true := by decide +kernel
theorem mK_9_377 : mMw 9 (377, 1, 1, mX3_longestRow) (1423, 168, 1420, 1422, 103) = true := by decide +kernel
theorem mK_9_380 : mMw 9 (380, 1, 1, mX3_howFarOff) (525, 168, 1432, 524, 16) = true := by decide +kernel
theorem mK_9_383 : mMw 9 (383, 1, 0, mX3_farthestOff) (521, 168, 518, 520, 15) = true := by decide +kernel
theorem mK_9_386 : mMw 9 (386, 0, 1, mX9_anyTray) (970, 160, 967, 969, 60) = true := by decide +kernel
theorem mK_9_391 : mMw 9 (391, 1, 2, mX7_lay) (1444, 169, 1441, 1443, 104) = true := by decide +kernel
theorem mK_9_399 : mMw 9 (399, 1, 2, mX7_put) (1472, 169, 1469, 1471, 105) = true := by decide +kernel
theorem mK_9_407 : mMw 9 (407, 0, 1, mX9_needImagePlace) (1495, 160, 1492, 1494, 107) = true := by decide +kernel
theorem mK_9_410 : mMw 9 (410, 1, 1, mX2_copyFrom) (1500, 163, 1497, 1499, 108) = true := by decide +kernel
theorem mK_9_418 : mMw 9 (418, 1, 0, mX2_goneDice) (554, 163, 551, 553, 22) = true := by decide +kernel
theorem mK_9_421 : mMw 9 (421, 1, 1, mX2_hasDie) (771, 163, 768, 770, 40) = true := by decide +kernel
theorem mK_9_426 : mMw 9 (426, 1, 1, mX2_hasHand) (815, 163, 812, 814, 44) = true := by decide +kernel
theorem mK_9_453 : mMw 9 (453, 1, 0, mX7_holdsToldFaces) (1356, 169, 1353, 1355, 96) = true := by decide +kernel
theorem mK_9_468 : mMw 9 (468, 1, 1, mX2_throwToldOne) (990, 163, 987, 989, 64) = true := by decide +kernel
theorem mK_9_313 : mMw 9 (313, 2, 2, mX9_power) (1250, 160, 1248, 1249, 0) = true := by decide +kernel
theorem mK_9_322 : mMw 9 (322, 2, 5, mX9_waysToGoal) (1272, 160, 1270, 1271, 0) = true := by decide +kernel
theorem mK_9_341 : mMw 9 (341, 2, 5, mX9_waysToLead) (1305, 160, 1303, 1304, 0) = true := by decide +kernel
theorem mK_9_402 : mMw 9 (402, 10, 2, mJ9_min_7cf53) (0, 0, 1484, 0, 0) = true := by decide +kernel
theorem mK_9_435 : mMw 9 (435, 2, 1, mX9_isFace) (894, 160, 917, 893, 0) = true := by decide +kernel
theorem mK_9_3 : mMw 9 (3, 6, 0, mX0_init) (190, 0, 0, 0, 0) = true := by decide +kernel
theorem mK_9_11 : mMw 9 (11, 5, 0, mX6_init) (197, 161, 195, 196, 0) = true := by decide +kernel
theorem mK_9_18 : mMw 9 (18, 5, 1, mX5_init) (212, 162, 210, 211, 0) = true := by decide +kernel
theorem mK_9_27 : mMw 9 (27, 5, 0, mX2_init) (266, 163, 264, 265, 0) = true := by decide +kernel
theorem mK_9_34 : mMw 9 (34, 5, 0, mX1_init) (307, 164, 305, 306, 0) = true := by decide +kernel
theorem mK_9_41 : mMw 9 (41, 5, 1, mX4_init) (317, 165, 315, 316, 0) = true := by decide +kernel
theorem mK_9_50 : mMw 9 (50, 5, 1, mX0_init) (337, 166, 335, 336, 0) = true := by decide +kernel
theorem mK_9_57 : mMw 9 (57, 5, 1, mX8_init) (347, 167, 345, 346, 0) = true := by decide +kernel
theorem mK_9_64 : mMw 9 (64, 5, 1, mX3_init) (363, 168, 361, 362, 0) = true := by decide +kernel
theorem mK_9_75 : mMw 9 (75, 5, 0, mX7_init) (374, 169, 372, 373, 0) = true := by decide +kernel
theorem mMt_ok9 : ∀ q ∈ mMt9, ∃ ix, mMw 9 q ix = true := List.forall_mem_cons.mpr ⟨⟨_, mK_9_80⟩, List.forall_mem_cons.mpr ⟨⟨_, mK_9_84⟩, List.forall_mem_cons.mpr ⟨⟨_, mK_9_99⟩, List.forall_mem_cons.mpr ⟨⟨_, mK_9_105⟩, List.forall_mem_cons.mpr ⟨⟨_, mK_9_115⟩, List.forall_mem_cons.mpr ⟨⟨_, mK_9_118⟩, List.forall_mem_cons.mpr ⟨⟨_, mK_9_122⟩, List.forall_mem_cons.mpr ⟨⟨_, mK_9_126⟩, List.forall_mem_cons.mpr ⟨⟨_, mK_9_130⟩, List.forall_mem_cons.mpr ⟨⟨_, mK_9_133⟩, List.forall_mem_cons.mpr ⟨⟨_, mK_9_136⟩, List.forall_mem_cons.mpr ⟨⟨_, mK_9_140⟩, List.forall_mem_cons.mpr ⟨⟨_, mK_9_143⟩, List.forall_mem_cons.mpr ⟨⟨_, mK_9_146⟩, List.forall_mem_cons.mpr ⟨⟨_, mK_9_149⟩, List.forall_mem_cons.mpr ⟨⟨_, mK_9_152⟩, List.forall_mem_cons.mpr ⟨⟨_, mK_9_155⟩, List.forall_mem_cons.mpr ⟨⟨_, mK_9_158⟩, List.forall_mem_cons.mpr ⟨⟨_, mK_9_161⟩, List.forall_mem_cons.mpr ⟨⟨_, mK_9_163⟩, List.forall_mem_cons.mpr ⟨⟨_, mK_9_167⟩, List.forall_mem_cons.mpr ⟨⟨_, mK_9_170⟩, List.forall_mem_cons.mpr ⟨⟨_, mK_9_173⟩, List.forall_mem_cons.mpr ⟨⟨_, mK_9_176⟩, List.forall_mem_cons.mpr ⟨⟨_, mK_9_190⟩, List.forall_mem_cons.mpr ⟨⟨_, mK_9_198⟩, List.forall_mem_cons.mpr ⟨⟨_, mK_9_201⟩, List.forall_mem_cons.mpr ⟨⟨_, mK_9_204⟩, List.forall_mem_cons.mpr ⟨⟨_, mK_9_217⟩, List.forall_mem_cons.mpr ⟨⟨_, mK_9_220⟩, List.forall_mem_cons.mpr ⟨⟨_, mK_9_224⟩, List.forall_mem_cons.mpr ⟨⟨_, mK_9_231⟩, List.forall_mem_cons.mpr ⟨⟨_, mK_9_235⟩, List.forall_mem_cons.mpr ⟨⟨_, mK_9_239⟩, List.forall_mem_cons.mpr ⟨⟨_, mK_9_242⟩, List.forall_mem_cons.mpr ⟨⟨_, mK_9_246⟩, List.forall_mem_cons.mpr ⟨⟨_, mK_9_249⟩, List.forall_mem_cons.mpr ⟨⟨_, mK_9_252⟩, List.forall_mem_cons.mpr ⟨⟨_, mK_9_257⟩, List.forall_mem_cons.mpr ⟨⟨_, mK_9_260⟩, List.forall_mem_cons.mpr ⟨⟨_, mK_9_263⟩, List.forall_mem_cons.mpr ⟨⟨_, mK_9_267⟩, List.forall_mem_cons.mpr ⟨⟨_, mK_9_270⟩, List.forall_mem_cons.mpr ⟨⟨_, mK_9_273⟩, List.forall_mem_cons.mpr ⟨⟨_, mK_9_277⟩, List.forall_mem_cons.mpr ⟨⟨_, mK_9_280⟩, List.forall_mem_cons.mpr ⟨⟨_, mK_9_283⟩, List.forall_mem_cons.mpr ⟨⟨_, mK_9_286⟩, List.forall_mem_cons.mpr ⟨⟨_, mK_9_289⟩, List.forall_mem_cons.mpr ⟨⟨_, mK_9_292⟩, List.forall_mem_cons.mpr ⟨⟨_, mK_9_297⟩, List.forall_mem_cons.mpr ⟨⟨_, mK_9_300⟩, List.forall_mem_cons.mpr ⟨⟨_, mK_9_303⟩, List.forall_mem_cons.mpr ⟨⟨_, mK_9_306⟩, List.forall_mem_cons.mpr ⟨⟨_, mK_9_310⟩, List.forall_mem_cons.mpr ⟨⟨_, mK_9_317⟩, List.forall_mem_cons.mpr ⟨⟨_, mK_9_326⟩, List.forall_mem_cons.mpr ⟨⟨_, mK_9_329⟩, List.forall_mem_cons.mpr ⟨⟨_, mK_9_332⟩, List.forall_mem_cons.mpr ⟨⟨_, mK_9_335⟩, List.forall_mem_cons.mpr ⟨⟨_, mK_9_338⟩, List.forall_mem_cons.mpr ⟨⟨_, mK_9_345⟩, List.forall_mem_cons.mpr ⟨⟨_, mK_9_349⟩, List.forall_mem_cons.mpr ⟨⟨_, mK_9_354⟩, List.forall_mem_cons.mpr ⟨⟨_, mK_9_357⟩, List.forall_mem_cons.mpr ⟨⟨_, mK_9_360⟩, List.forall_mem_cons.mpr ⟨⟨_, mK_9_364⟩, List.forall_mem_cons.mpr ⟨⟨_, mK_9_367⟩, List.forall_mem_cons.mpr ⟨⟨_, mK_9_370⟩, List.forall_mem_cons.mpr ⟨⟨_, mK_9_374⟩, List.forall_mem_cons.mpr ⟨⟨_, mK_9_377⟩, List.forall_mem_cons.mpr ⟨⟨_, mK_9_380⟩, List.forall_mem_cons.mpr ⟨⟨_, mK_9_383⟩, List.forall_mem_cons.mpr ⟨⟨_, mK_9_386⟩, List.forall_mem_cons.mpr ⟨⟨_, mK_9_391⟩, List.forall_mem_cons.mpr ⟨⟨_, mK_9_399⟩, List.forall_mem_cons.mpr ⟨⟨_, mK_9_407⟩, List.forall_mem_cons.mpr ⟨⟨_, mK_9_410⟩, List.forall_mem_cons.mpr ⟨⟨_, mK_9_418⟩, List.forall_mem_cons.mpr ⟨⟨_, mK_9_421⟩, List.forall_mem_cons.mpr ⟨⟨_, mK_9_426⟩, List.forall_mem_cons.mpr ⟨⟨_, mK_9_453⟩, List.forall_mem_cons.mpr ⟨⟨_, mK_9_468⟩, List.forall_mem_cons.mpr ⟨⟨_, mK_9_313⟩, List.forall_mem_cons.mpr ⟨⟨_, mK_9_322⟩, List.forall_mem_cons.mpr ⟨⟨_, mK_9_341⟩, List.forall_mem_cons.mpr ⟨⟨_, mK_9_402⟩, List.forall_mem_cons.mpr ⟨⟨_, mK_9_435⟩, List.forall_mem_cons.mpr ⟨⟨_, mK_9_3⟩, List.forall_mem_cons.mpr ⟨⟨_, mK_9_11⟩, List.forall_mem_cons.mpr ⟨⟨_, mK_9_18⟩, List.forall_mem_cons.mpr ⟨⟨_, mK_9_27⟩, List.forall_mem_cons.mpr ⟨⟨_, mK_9_34⟩, List.forall_mem_cons.mpr ⟨⟨_, mK_9_41⟩, List.forall_mem_cons.mpr ⟨⟨_, mK_9_50⟩, List.forall_mem_cons.mpr ⟨⟨_, mK_9_57⟩, List.forall_mem_cons.mpr ⟨⟨_, mK_9_64⟩, List.forall_mem_cons.mpr ⟨⟨_, mK_9_75⟩, fun _ h => absurd h List.not_mem_nil⟩⟩⟩⟩⟩⟩⟩⟩⟩⟩⟩⟩⟩⟩⟩⟩⟩⟩⟩⟩⟩⟩⟩⟩⟩⟩⟩⟩⟩⟩⟩⟩⟩⟩⟩⟩⟩⟩⟩⟩⟩⟩⟩⟩⟩⟩⟩⟩⟩⟩⟩⟩⟩⟩⟩⟩⟩⟩⟩⟩⟩⟩⟩⟩⟩⟩⟩⟩⟩⟩⟩⟩⟩⟩⟩⟩⟩⟩⟩⟩⟩⟩⟩⟩⟩⟩⟩⟩⟩⟩⟩⟩⟩⟩⟩⟩⟩⟩
theorem mMt_cd9 : ∀ q ∈ mMt9, mCode q.2.2.2 ∈ lw_tbl := List.forall_mem_cons.mpr ⟨mCd_X6_hasRoomForFeed, List.forall_mem_cons.mpr ⟨mCd_X6_put, List.forall_mem_cons.mpr ⟨mCd_X5_read, List.forall_mem_cons.mpr ⟨mCd_X2_begin, List.forall_mem_cons.mpr ⟨mCd_X9_needDie, List.forall_mem_cons.mpr ⟨mCd_X9_needWhat, List.forall_mem_cons.mpr ⟨mCd_X2_total, List.forall_mem_cons.mpr ⟨mCd_X2_isSalt, List.forall_mem_cons.mpr ⟨mCd_X2_isGone, List.forall_mem_cons.mpr ⟨mCd_X3_throwsOfDie, List.forall_mem_cons.mpr ⟨mCd_X2_weight, List.forall_mem_cons.mpr ⟨mCd_X9_needHand, List.forall_mem_cons.mpr ⟨mCd_X2_heat, List.forall_mem_cons.mpr ⟨mCd_X2_dieByLot, List.forall_mem_cons.mpr ⟨mCd_X3_throwsOfHand, List.forall_mem_cons.mpr ⟨mCd_X2_makeSalt, List.forall_mem_cons.mpr ⟨mCd_X9_needNotGone, List.forall_mem_cons.mpr ⟨mCd_X9_needRoomForThrow, List.forall_mem_cons.mpr ⟨mCd_X1_begin, List.forall_mem_cons.mpr ⟨mCd_X1_draw, List.forall_mem_cons.mpr ⟨mCd_X2_faceByDraw, List.forall_mem_cons.mpr ⟨mCd_X2_throwFace, List.forall_mem_cons.mpr ⟨mCd_X9_needFace, List.forall_mem_cons.mpr ⟨mCd_X2_whyNot, List.forall_mem_cons.mpr ⟨mCd_X2_undo, List.forall_mem_cons.mpr ⟨mCd_X2_dieOfThrow, List.forall_mem_cons.mpr ⟨mCd_X2_handOfThrow, List.forall_mem_cons.mpr ⟨mCd_X2_faceOfThrow, List.forall_mem_cons.mpr ⟨mCd_X2_hasRoomForThrow, List.forall_mem_cons.mpr ⟨mCd_X9_neededTray, List.forall_mem_cons.mpr ⟨mCd_X9_throwTold, List.forall_mem_cons.mpr ⟨mCd_X7_number, List.forall_mem_cons.mpr ⟨mCd_X2_whyNotTold, List.forall_mem_cons.mpr ⟨mCd_X2_allTotals, List.forall_mem_cons.mpr ⟨mCd_X9_needMinutes, List.forall_mem_cons.mpr ⟨mCd_X2_feedAnts, List.forall_mem_cons.mpr ⟨mCd_X2_weightAfterAnts, List.forall_mem_cons.mpr ⟨mCd_X2_lastFaceForAnts, List.forall_mem_cons.mpr ⟨mCd_X2_wear, List.forall_mem_cons.mpr ⟨mCd_X2_cool, List.forall_mem_cons.mpr ⟨mCd_X2_drawLots, List.forall_mem_cons.mpr ⟨mCd_X9_needSetNotGone, List.forall_mem_cons.mpr ⟨mCd_X4_wholeOf, List.forall_mem_cons.mpr ⟨mCd_X4_waysOfSum, List.forall_mem_cons.mpr ⟨mCd_X4_waysOfSumOrMore, List.forall_mem_cons.mpr ⟨mCd_X4_waysOfOneFace, List.forall_mem_cons.mpr ⟨mCd_X4_likeliestSum, List.forall_mem_cons.mpr ⟨mCd_X4_possibleSums, List.forall_mem_cons.mpr ⟨mCd_X9_needSet, List.forall_mem_cons.mpr ⟨mCd_X9_needNoneGone, List.forall_mem_cons.mpr ⟨mCd_X4_allSumsWeighed, List.forall_mem_cons.mpr ⟨mCd_X9_needOneToThree, List.forall_mem_cons.mpr ⟨mCd_X4_bestSetFor, List.forall_mem_cons.mpr ⟨mCd_X4_waysOfUnlikeFaces, List.forall_mem_cons.mpr ⟨mCd_X9_needThrowsUpToEight, List.forall_mem_cons.mpr ⟨mCd_X4_waysOfEveryFace, List.forall_mem_cons.mpr ⟨mCd_X9_needTwoDice, List.forall_mem_cons.mpr ⟨mCd_X0_waysToBeat, List.forall_mem_cons.mpr ⟨mCd_X0_waysToTie, List.forall_mem_cons.mpr ⟨mCd_X0_strongestDie, List.forall_mem_cons.mpr ⟨mCd_X0_ringAt, List.forall_mem_cons.mpr ⟨mCd_X4_waysOfMore, List.forall_mem_cons.mpr ⟨mCd_X0_evenestTwo, List.forall_mem_cons.mpr ⟨mCd_X4_leastFaceToStop, List.forall_mem_cons.mpr ⟨mCd_X4_bestByStopping, List.forall_mem_cons.mpr ⟨mCd_X9_needFaces, List.forall_mem_cons.mpr ⟨mCd_X8_likeliestDie, List.forall_mem_cons.mpr ⟨mCd_X8_rowsOfDice, List.forall_mem_cons.mpr ⟨mCd_X8_rowOfHands, List.forall_mem_cons.mpr ⟨mCd_X3_timesShown, List.forall_mem_cons.mpr ⟨mCd_X3_longestRow, List.forall_mem_cons.mpr ⟨mCd_X3_howFarOff, List.forall_mem_cons.mpr ⟨mCd_X3_farthestOff, List.forall_mem_cons.mpr ⟨mCd_X9_anyTray, List.forall_mem_cons.mpr ⟨mCd_X7_lay, List.forall_mem_cons.mpr ⟨mCd_X7_put, List.forall_mem_cons.mpr ⟨mCd_X9_needImagePlace, List.forall_mem_cons.mpr ⟨mCd_X2_copyFrom, List.forall_mem_cons.mpr ⟨mCd_X2_goneDice, List.forall_mem_cons.mpr ⟨mCd_X2_hasDie, List.forall_mem_cons.mpr ⟨mCd_X2_hasHand, List.forall_mem_cons.mpr ⟨mCd_X7_holdsToldFaces, List.forall_mem_cons.mpr ⟨mCd_X2_throwToldOne, List.forall_mem_cons.mpr ⟨mCd_X9_power, List.forall_mem_cons.mpr ⟨mCd_X9_waysToGoal, List.forall_mem_cons.mpr ⟨mCd_X9_waysToLead, List.forall_mem_cons.mpr ⟨mCd_J9_min_7cf53, List.forall_mem_cons.mpr ⟨mCd_X9_isFace, List.forall_mem_cons.mpr ⟨mCd_X0_init, List.forall_mem_cons.mpr ⟨mCd_X6_init, List.forall_mem_cons.mpr ⟨mCd_X5_init, List.forall_mem_cons.mpr ⟨mCd_X2_init, List.forall_mem_cons.mpr ⟨mCd_X1_init, List.forall_mem_cons.mpr ⟨mCd_X4_init, List.forall_mem_cons.mpr ⟨mCd_X0_init, List.forall_mem_cons.mpr ⟨mCd_X8_init, List.forall_mem_cons.mpr ⟨mCd_X3_init, List.forall_mem_cons.mpr ⟨mCd_X7_init, fun _ h => absurd h List.not_mem_nil⟩⟩⟩⟩⟩⟩⟩⟩⟩⟩⟩⟩⟩⟩⟩⟩⟩⟩⟩⟩⟩⟩⟩⟩⟩⟩⟩⟩⟩⟩⟩⟩⟩⟩⟩⟩⟩⟩⟩⟩⟩⟩⟩⟩⟩⟩⟩⟩⟩⟩⟩⟩⟩⟩⟩⟩⟩⟩⟩⟩⟩⟩⟩⟩⟩⟩⟩⟩⟩⟩⟩⟩⟩⟩⟩⟩⟩⟩⟩⟩⟩⟩⟩⟩⟩⟩⟩⟩⟩⟩⟩⟩⟩⟩⟩⟩⟩⟩
end
section
theorem mK_10_87 : mMw 10 (87, 0, 1, mX10_see) (1630, 170, 1627, 1629, 111) = true := by decide +kernel
theorem mK_10_103 : mMw 10 (103, 9, 0, mJ0_length_8abf5) (677, 175, 1643, 675, 676) = true := by decide +kernel
theorem mK_10_108 : mMw 10 (108, 9, 1, mJ0_charAt_5068e) (687, 175, 1644, 685, 686) = true := by decide +kernel
theorem mK_10_112 : mMw 10 (112, 0, 1, mX10_isWord) (1642, 170, 1639, 1641, 113) = true := by decide +kernel
theorem mK_10_116 : mMw 10 (116, 0, 0, mX10_reads) (1623, 170, 1620, 1622, 110) = true := by decide +kernel
theorem mK_10_119 : mMw 10 (119, 0, 1, mX10_blames) (1652, 170, 1649, 1651, 115) = true := by decide +kernel
theorem mK_10_127 : mMw 10 (127, 0, 2, mX10_number) (1656, 170, 1653, 1655, 116) = true := by decide +kernel
theorem mK_10_133 : mMw 10 (133, 0, 1, mX10_took) (1661, 170, 1658, 1660, 117) = true := by decide +kernel
theorem mK_10_138 : mMw 10 (138, 0, 0, mX10_readDie) (1648, 170, 1645, 1647, 114) = true := by decide +kernel
theorem mK_10_143 : mMw 10 (143, 0, 0, mX10_readHand) (1666, 170, 1663, 1665, 118) = true := by decide +kernel
theorem mK_10_148 : mMw 10 (148, 0, 1, mX10_fails) (1619, 170, 1616, 1618, 109) = true := by decide +kernel
theorem mK_10_151 : mMw 10 (151, 0, 0, mX10_readLine) (1637, 170, 1634, 1636, 112) = true := by decide +kernel
theorem mK_10_157 : mMw 10 (157, 0, 0, mX10_dice) (1683, 170, 1680, 1682, 120) = true := by decide +kernel
theorem mK_10_160 : mMw 10 (160, 0, 0, mX10_hands) (1724, 170, 1721, 1723, 129) = true := by decide +kernel
theorem mK_10_165 : mMw 10 (165, 0, 2, mX10_weight) (1688, 170, 1685, 1687, 121) = true := by decide +kernel
theorem mK_10_168 : mMw 10 (168, 0, 1, mX10_total) (1692, 170, 1689, 1691, 122) = true := by decide +kernel
theorem mK_10_171 : mMw 10 (171, 0, 0, mX10_throwsNow) (1708, 170, 1705, 1707, 126) = true := by decide +kernel
theorem mK_10_174 : mMw 10 (174, 0, 2, mX10_pastOf) (1712, 170, 1709, 1711, 127) = true := by decide +kernel
theorem mK_10_177 : mMw 10 (177, 0, 1, mX10_isDie) (1679, 170, 1676, 1678, 119) = true := by decide +kernel
theorem mK_10_183 : mMw 10 (183, 0, 1, mX10_isSalt) (1696, 170, 1693, 1695, 123) = true := by decide +kernel
theorem mK_10_186 : mMw 10 (186, 0, 1, mX10_isGone) (1700, 170, 1697, 1699, 124) = true := by decide +kernel
theorem mK_10_189 : mMw 10 (189, 0, 2, mX10_times) (1704, 170, 1701, 1703, 125) = true := by decide +kernel
theorem mK_10_192 : mMw 10 (192, 0, 1, mX10_isHand) (1720, 170, 1717, 1719, 128) = true := by decide +kernel
theorem mK_10_209 : mMw 10 (209, 0, 1, mX10_draw) (1737, 170, 1734, 1736, 130) = true := by decide +kernel
theorem mK_10_212 : mMw 10 (212, 0, 2, mX10_faceBy) (1742, 170, 1739, 1741, 131) = true := by decide +kernel
theorem mK_10_215 : mMw 10 (215, 0, 3, mX10_goes) (1746, 170, 1743, 1745, 132) = true := by decide +kernel
theorem mK_10_229 : mMw 10 (229, 0, 1, mX10_whyTold) (1792, 170, 1789, 1791, 135) = true := by decide +kernel
theorem mK_10_233 : mMw 10 (233, 0, 1, mX10_trayFault) (1777, 170, 1774, 1776, 133) = true := by decide +kernel
theorem mK_10_240 : mMw 10 (240, 0, 1, mX10_goesBy) (1788, 170, 1785, 1787, 134) = true := by decide +kernel
theorem mK_10_243 : mMw 10 (243, 0, 0, mX10_totals) (1797, 170, 1794, 1796, 136) = true := by decide +kernel
theorem mK_10_246 : mMw 10 (246, 0, 1, mX10_eatenNext) (1814, 170, 1811, 1813, 138) = true := by decide +kernel
theorem mK_10_251 : mMw 10 (251, 0, 1, mX10_eats) (1810, 170, 1807, 1809, 137) = true := by decide +kernel
theorem mK_10_254 : mMw 10 (254, 0, 1, mX10_laysRow) (1822, 170, 1819, 1821, 139) = true := by decide +kernel
theorem mK_10_257 : mMw 10 (257, 0, 1, mX10_putsRow) (1826, 170, 1823, 1825, 140) = true := by decide +kernel
theorem mK_10_266 : mMw 10 (266, 0, 1, mX10_laysWays) (1870, 170, 1867, 1869, 143) = true := by decide +kernel
theorem mK_10_269 : mMw 10 (269, 0, 1, mX10_setFault) (1855, 170, 1852, 1854, 141) = true := by decide +kernel
theorem mK_10_272 : mMw 10 (272, 0, 1, mX10_all) (1862, 170, 1859, 1861, 142) = true := by decide +kernel
theorem mK_10_278 : mMw 10 (278, 0, 2, mX10_atLeast) (1879, 170, 1876, 1878, 144) = true := by decide +kernel
theorem mK_10_282 : mMw 10 (282, 0, 1, mX10_laysUnlike) (1907, 170, 1904, 1906, 146) = true := by decide +kernel
theorem mK_10_288 : mMw 10 (288, 0, 2, mX10_unlikeOf) (1903, 170, 1900, 1902, 145) = true := by decide +kernel
theorem mK_10_305 : mMw 10 (305, 0, 2, mX10_twoFault) (1950, 170, 1947, 1949, 147) = true := by decide +kernel
theorem mK_10_308 : mMw 10 (308, 0, 2, mX10_beatsOf) (1954, 170, 1951, 1953, 148) = true := by decide +kernel
theorem mK_10_311 : mMw 10 (311, 0, 2, mX10_tiesOf) (1962, 170, 1959, 1961, 149) = true := by decide +kernel
theorem mK_10_314 : mMw 10 (314, 0, 2, mX10_isBetter) (1970, 170, 1967, 1969, 150) = true := by decide +kernel
theorem mK_10_317 : mMw 10 (317, 0, 3, mX10_isRing) (1978, 170, 1975, 1977, 151) = true := by decide +kernel
theorem mK_10_321 : mMw 10 (321, 0, 5, mX10_games) (1986, 170, 1983, 1985, 152) = true := by decide +kernel
theorem mK_10_325 : mMw 10 (325, 0, 4, mX10_moreOf) (1994, 170, 1991, 1993, 153) = true := by decide +kernel
theorem mK_10_337 : mMw 10 (337, 0, 1, mX10_facesFault) (2013, 170, 2010, 2012, 154) = true := by decide +kernel
theorem mK_10_340 : mMw 10 (340, 0, 2, mX10_faceTold) (2017, 170, 2014, 2016, 155) = true := by decide +kernel
theorem mK_10_343 : mMw 10 (343, 0, 4, mX10_wears) (2029, 170, 2026, 2028, 156) = true := by decide +kernel
theorem mK_10_347 : mMw 10 (347, 0, 1, mX10_offOf) (2045, 170, 2042, 2044, 157) = true := by decide +kernel
theorem mK_10_350 : mMw 10 (350, 0, 3, mX10_cut) (2061, 170, 2058, 2060, 158) = true := by decide +kernel
theorem mK_10_61 : mMw 10 (61, 2, 1, mX10_begins) (1517, 170, 1515, 1516, 0) = true := by decide +kernel
theorem mK_10_83 : mMw 10 (83, 2, 1, mX10_isLetter) (1626, 170, 1624, 1625, 0) = true := by decide +kernel
theorem mK_10_91 : mMw 10 (91, 2, 1, mX10_isDigit) (1633, 170, 1631, 1632, 0) = true := by decide +kernel
theorem mK_10_123 : mMw 10 (123, 2, 3, mX10_within) (1615, 170, 1613, 1614, 0) = true := by decide +kernel
theorem mK_10_201 : mMw 10 (201, 11, 2, mJ9_max_7cf53) (0, 0, 1747, 0, 0) = true := by decide +kernel
theorem mK_10_206 : mMw 10 (206, 10, 2, mJ9_min_7cf53) (0, 0, 1748, 0, 0) = true := by decide +kernel
theorem mK_10_219 : mMw 10 (219, 2, 1, mX10_isFace) (1755, 170, 1753, 1754, 0) = true := by decide +kernel
theorem mK_10_224 : mMw 10 (224, 2, 1, mX10_isTray) (1780, 170, 1778, 1779, 0) = true := by decide +kernel
theorem mK_10_236 : mMw 10 (236, 2, 2, mX10_copies) (1784, 170, 1782, 1783, 0) = true := by decide +kernel
theorem mK_10_262 : mMw 10 (262, 2, 2, mX10_has) (1858, 170, 1856, 1857, 0) = true := by decide +kernel
theorem mK_10_285 : mMw 10 (285, 2, 1, mX10_isRow) (1910, 170, 1908, 1909, 0) = true := by decide +kernel
theorem mK_10_294 : mMw 10 (294, 2, 2, mX10_power) (1926, 170, 1924, 1925, 0) = true := by decide +kernel
theorem mK_10_302 : mMw 10 (302, 2, 1, mX10_size) (1942, 170, 1940, 1941, 0) = true := by decide +kernel
theorem mK_10_329 : mMw 10 (329, 12, 1, mJ9_abs_0f7a4) (0, 0, 1999, 0, 0) = true := by decide +kernel
theorem mK_10_334 : mMw 10 (334, 13, 2, mJ9_max_f86c9) (0, 0, 2005, 0, 0) = true := by decide +kernel
theorem mK_10_1 : mMw 10 (1, 6, 0, mX0_init) (1514, 0, 0, 0, 0) = true := by decide +kernel
theorem mMt_ok10 : ∀ q ∈ mMt10, ∃ ix, mMw 10 q ix = true := List.forall_mem_cons.mpr ⟨⟨_, mK_10_87⟩, List.forall_mem_cons.mpr ⟨⟨_, mK_10_103⟩, List.forall_mem_cons.mpr ⟨⟨_, mK_10_108⟩, List.forall_mem_cons.mpr ⟨⟨_, mK_10_112⟩, List.forall_mem_cons.mpr ⟨⟨_, mK_10_116⟩, List.forall_mem_cons.mpr ⟨⟨_, mK_10_119⟩, List.forall_mem_cons.mpr ⟨⟨_, mK_10_127⟩, List.forall_mem_cons.mpr ⟨⟨_, mK_10_133⟩, List.forall_mem_cons.mpr ⟨⟨_, mK_10_138⟩, List.forall_mem_cons.mpr ⟨⟨_, mK_10_143⟩, List.forall_mem_cons.mpr ⟨⟨_, mK_10_148⟩, List.forall_mem_cons.mpr ⟨⟨_, mK_10_151⟩, List.forall_mem_cons.mpr ⟨⟨_, mK_10_157⟩, List.forall_mem_cons.mpr ⟨⟨_, mK_10_160⟩, List.forall_mem_cons.mpr ⟨⟨_, mK_10_165⟩, List.forall_mem_cons.mpr ⟨⟨_, mK_10_168⟩, List.forall_mem_cons.mpr ⟨⟨_, mK_10_171⟩, List.forall_mem_cons.mpr ⟨⟨_, mK_10_174⟩, List.forall_mem_cons.mpr ⟨⟨_, mK_10_177⟩, List.forall_mem_cons.mpr ⟨⟨_, mK_10_183⟩, List.forall_mem_cons.mpr ⟨⟨_, mK_10_186⟩, List.forall_mem_cons.mpr ⟨⟨_, mK_10_189⟩, List.forall_mem_cons.mpr ⟨⟨_, mK_10_192⟩, List.forall_mem_cons.mpr ⟨⟨_, mK_10_209⟩, List.forall_mem_cons.mpr ⟨⟨_, mK_10_212⟩, List.forall_mem_cons.mpr ⟨⟨_, mK_10_215⟩, List.forall_mem_cons.mpr ⟨⟨_, mK_10_229⟩, List.forall_mem_cons.mpr ⟨⟨_, mK_10_233⟩, List.forall_mem_cons.mpr ⟨⟨_, mK_10_240⟩, List.forall_mem_cons.mpr ⟨⟨_, mK_10_243⟩, List.forall_mem_cons.mpr ⟨⟨_, mK_10_246⟩, List.forall_mem_cons.mpr ⟨⟨_, mK_10_251⟩, List.forall_mem_cons.mpr ⟨⟨_, mK_10_254⟩, List.forall_mem_cons.mpr ⟨⟨_, mK_10_257⟩, List.forall_mem_cons.mpr ⟨⟨_, mK_10_266⟩, List.forall_mem_cons.mpr ⟨⟨_, mK_10_269⟩, List.forall_mem_cons.mpr ⟨⟨_, mK_10_272⟩, List.forall_mem_cons.mpr ⟨⟨_, mK_10_278⟩, List.forall_mem_cons.mpr ⟨⟨_, mK_10_282⟩, List.forall_mem_cons.mpr ⟨⟨_, mK_10_288⟩, List.forall_mem_cons.mpr ⟨⟨_, mK_10_305⟩, List.forall_mem_cons.mpr ⟨⟨_, mK_10_308⟩, List.forall_mem_cons.mpr ⟨⟨_, mK_10_311⟩, List.forall_mem_cons.mpr ⟨⟨_, mK_10_314⟩, List.forall_mem_cons.mpr ⟨⟨_, mK_10_317⟩, List.forall_mem_cons.mpr ⟨⟨_, mK_10_321⟩, List.forall_mem_cons.mpr ⟨⟨_, mK_10_325⟩, List.forall_mem_cons.mpr ⟨⟨_, mK_10_337⟩, List.forall_mem_cons.mpr ⟨⟨_, mK_10_340⟩, List.forall_mem_cons.mpr ⟨⟨_, mK_10_343⟩, List.forall_mem_cons.mpr ⟨⟨_, mK_10_347⟩, List.forall_mem_cons.mpr ⟨⟨_, mK_10_350⟩, List.forall_mem_cons.mpr ⟨⟨_, mK_10_61⟩, List.forall_mem_cons.mpr ⟨⟨_, mK_10_83⟩, List.forall_mem_cons.mpr ⟨⟨_, mK_10_91⟩, List.forall_mem_cons.mpr ⟨⟨_, mK_10_123⟩, List.forall_mem_cons.mpr ⟨⟨_, mK_10_201⟩, List.forall_mem_cons.mpr ⟨⟨_, mK_10_206⟩, List.forall_mem_cons.mpr ⟨⟨_, mK_10_219⟩, List.forall_mem_cons.mpr ⟨⟨_, mK_10_224⟩, List.forall_mem_cons.mpr ⟨⟨_, mK_10_236⟩, List.forall_mem_cons.mpr ⟨⟨_, mK_10_262⟩, List.forall_mem_cons.mpr ⟨⟨_, mK_10_285⟩, List.forall_mem_cons.mpr ⟨⟨_, mK_10_294⟩, List.forall_mem_cons.mpr ⟨⟨_, mK_10_302⟩, List.forall_mem_cons.mpr ⟨⟨_, mK_10_329⟩, List.forall_mem_cons.mpr ⟨⟨_, mK_10_334⟩, List.forall_mem_cons.mpr ⟨⟨_, mK_10_1⟩, fun _ h => absurd h List.not_mem_nil⟩⟩⟩⟩⟩⟩⟩⟩⟩⟩⟩⟩⟩⟩⟩⟩⟩⟩⟩⟩⟩⟩⟩⟩⟩⟩⟩⟩⟩⟩⟩⟩⟩⟩⟩⟩⟩⟩⟩⟩⟩⟩⟩⟩⟩⟩⟩⟩⟩⟩⟩⟩⟩⟩⟩⟩⟩⟩⟩⟩⟩⟩⟩⟩⟩⟩⟩⟩
theorem mMt_cd10 : ∀ q ∈ mMt10, mCode q.2.2.2 ∈ lw_tbl := List.forall_mem_cons.mpr ⟨mCd_X10_see, List.forall_mem_cons.mpr ⟨mCd_J0_length_8abf5, List.forall_mem_cons.mpr ⟨mCd_J0_charAt_5068e, List.forall_mem_cons.mpr ⟨mCd_X10_isWord, List.forall_mem_cons.mpr ⟨mCd_X10_reads, List.forall_mem_cons.mpr ⟨mCd_X10_blames, List.forall_mem_cons.mpr ⟨mCd_X10_number, List.forall_mem_cons.mpr ⟨mCd_X10_took, List.forall_mem_cons.mpr ⟨mCd_X10_readDie, List.forall_mem_cons.mpr ⟨mCd_X10_readHand, List.forall_mem_cons.mpr ⟨mCd_X10_fails, List.forall_mem_cons.mpr ⟨mCd_X10_readLine, List.forall_mem_cons.mpr ⟨mCd_X10_dice, List.forall_mem_cons.mpr ⟨mCd_X10_hands, List.forall_mem_cons.mpr ⟨mCd_X10_weight, List.forall_mem_cons.mpr ⟨mCd_X10_total, List.forall_mem_cons.mpr ⟨mCd_X10_throwsNow, List.forall_mem_cons.mpr ⟨mCd_X10_pastOf, List.forall_mem_cons.mpr ⟨mCd_X10_isDie, List.forall_mem_cons.mpr ⟨mCd_X10_isSalt, List.forall_mem_cons.mpr ⟨mCd_X10_isGone, List.forall_mem_cons.mpr ⟨mCd_X10_times, List.forall_mem_cons.mpr ⟨mCd_X10_isHand, List.forall_mem_cons.mpr ⟨mCd_X10_draw, List.forall_mem_cons.mpr ⟨mCd_X10_faceBy, List.forall_mem_cons.mpr ⟨mCd_X10_goes, List.forall_mem_cons.mpr ⟨mCd_X10_whyTold, List.forall_mem_cons.mpr ⟨mCd_X10_trayFault, List.forall_mem_cons.mpr ⟨mCd_X10_goesBy, List.forall_mem_cons.mpr ⟨mCd_X10_totals, List.forall_mem_cons.mpr ⟨mCd_X10_eatenNext, List.forall_mem_cons.mpr ⟨mCd_X10_eats, List.forall_mem_cons.mpr ⟨mCd_X10_laysRow, List.forall_mem_cons.mpr ⟨mCd_X10_putsRow, List.forall_mem_cons.mpr ⟨mCd_X10_laysWays, List.forall_mem_cons.mpr ⟨mCd_X10_setFault, List.forall_mem_cons.mpr ⟨mCd_X10_all, List.forall_mem_cons.mpr ⟨mCd_X10_atLeast, List.forall_mem_cons.mpr ⟨mCd_X10_laysUnlike, List.forall_mem_cons.mpr ⟨mCd_X10_unlikeOf, List.forall_mem_cons.mpr ⟨mCd_X10_twoFault, List.forall_mem_cons.mpr ⟨mCd_X10_beatsOf, List.forall_mem_cons.mpr ⟨mCd_X10_tiesOf, List.forall_mem_cons.mpr ⟨mCd_X10_isBetter, List.forall_mem_cons.mpr ⟨mCd_X10_isRing, List.forall_mem_cons.mpr ⟨mCd_X10_games, List.forall_mem_cons.mpr ⟨mCd_X10_moreOf, List.forall_mem_cons.mpr ⟨mCd_X10_facesFault, List.forall_mem_cons.mpr ⟨mCd_X10_faceTold, List.forall_mem_cons.mpr ⟨mCd_X10_wears, List.forall_mem_cons.mpr ⟨mCd_X10_offOf, List.forall_mem_cons.mpr ⟨mCd_X10_cut, List.forall_mem_cons.mpr ⟨mCd_X10_begins, List.forall_mem_cons.mpr ⟨mCd_X10_isLetter, List.forall_mem_cons.mpr ⟨mCd_X10_isDigit, List.forall_mem_cons.mpr ⟨mCd_X10_within, List.forall_mem_cons.mpr ⟨mCd_J9_max_7cf53, List.forall_mem_cons.mpr ⟨mCd_J9_min_7cf53, List.forall_mem_cons.mpr ⟨mCd_X10_isFace, List.forall_mem_cons.mpr ⟨mCd_X10_isTray, List.forall_mem_cons.mpr ⟨mCd_X10_copies, List.forall_mem_cons.mpr ⟨mCd_X10_has, List.forall_mem_cons.mpr ⟨mCd_X10_isRow, List.forall_mem_cons.mpr ⟨mCd_X10_power, List.forall_mem_cons.mpr ⟨mCd_X10_size, List.forall_mem_cons.mpr ⟨mCd_J9_abs_0f7a4, List.forall_mem_cons.mpr ⟨mCd_J9_max_f86c9, List.forall_mem_cons.mpr ⟨mCd_X0_init, fun _ h => absurd h List.not_mem_nil⟩⟩⟩⟩⟩⟩⟩⟩⟩⟩⟩⟩⟩⟩⟩⟩⟩⟩⟩⟩⟩⟩⟩⟩⟩⟩⟩⟩⟩⟩⟩⟩⟩⟩⟩⟩⟩⟩⟩⟩⟩⟩⟩⟩⟩⟩⟩⟩⟩⟩⟩⟩⟩⟩⟩⟩⟩⟩⟩⟩⟩⟩⟩⟩⟩⟩⟩⟩
end
section
theorem mK_11_7 : mMw 11 (7, 0, 1, mX9_table) (567, 160, 564, 565, 566) = true := by decide +kernel
theorem mK_11_15 : mMw 11 (15, 0, 2, mX9_die) (763, 160, 760, 761, 762) = true := by decide +kernel
theorem mK_11_21 : mMw 11 (21, 0, 2, mX9_hand) (807, 160, 804, 805, 806) = true := by decide +kernel
theorem mK_11_24 : mMw 11 (24, 0, 1, mX9_salts) (840, 160, 837, 838, 839) = true := by decide +kernel
theorem mK_11_28 : mMw 11 (28, 0, 3, mX9_cast) (853, 160, 850, 851, 852) = true := by decide +kernel
theorem mK_11_34 : mMw 11 (34, 0, 3, mX9_shows) (912, 160, 909, 910, 911) = true := by decide +kernel
theorem mK_11_37 : mMw 11 (37, 0, 1, mX9_back) (930, 160, 927, 928, 929) = true := by decide +kernel
theorem mK_11_40 : mMw 11 (40, 0, 2, mX9_past) (942, 160, 939, 940, 941) = true := by decide +kernel
theorem mK_11_43 : mMw 11 (43, 0, 2, mX9_evening) (953, 160, 950, 951, 952) = true := by decide +kernel
theorem mK_11_46 : mMw 11 (46, 0, 2, mX9_judge) (962, 160, 959, 960, 961) = true := by decide +kernel
theorem mK_11_49 : mMw 11 (49, 0, 1, mX9_perform) (998, 160, 995, 996, 997) = true := by decide +kernel
theorem mK_11_52 : mMw 11 (52, 0, 1, mX9_ants) (1005, 160, 1002, 1003, 1004) = true := by decide +kernel
theorem mK_11_55 : mMw 11 (55, 0, 3, mX9_eaten) (1025, 160, 1022, 1023, 1024) = true := by decide +kernel
theorem mK_11_58 : mMw 11 (58, 0, 1, mX9_lasts) (1039, 160, 1036, 1037, 1038) = true := by decide +kernel
theorem mK_11_61 : mMw 11 (61, 0, 1, mX9_lastFace) (1046, 160, 1043, 1044, 1045) = true := by decide +kernel
theorem mK_11_64 : mMw 11 (64, 0, 1, mX9_rain) (1057, 160, 1054, 1055, 1056) = true := by decide +kernel
theorem mK_11_67 : mMw 11 (67, 0, 1, mX9_fan) (1066, 160, 1063, 1064, 1065) = true := by decide +kernel
theorem mK_11_70 : mMw 11 (70, 0, 1, mX9_whole) (1077, 160, 1074, 1075, 1076) = true := by decide +kernel
theorem mK_11_74 : mMw 11 (74, 0, 2, mX9_sum) (1106, 160, 1103, 1104, 1105) = true := by decide +kernel
theorem mK_11_78 : mMw 11 (78, 0, 2, mX9_least) (1129, 160, 1126, 1127, 1128) = true := by decide +kernel
theorem mK_11_81 : mMw 11 (81, 0, 1, mX9_alike) (1141, 160, 1138, 1139, 1140) = true := by decide +kernel
theorem mK_11_84 : mMw 11 (84, 0, 1, mX9_mode) (1152, 160, 1149, 1150, 1151) = true := by decide +kernel
theorem mK_11_87 : mMw 11 (87, 0, 1, mX9_sums) (1163, 160, 1160, 1161, 1162) = true := by decide +kernel
theorem mK_11_90 : mMw 11 (90, 0, 2, mX9_mean) (1174, 160, 1171, 1172, 1173) = true := by decide +kernel
theorem mK_11_93 : mMw 11 (93, 0, 2, mX9_bestSet) (1186, 160, 1183, 1184, 1185) = true := by decide +kernel
theorem mK_11_96 : mMw 11 (96, 0, 1, mX9_unlike) (1210, 160, 1207, 1208, 1209) = true := by decide +kernel
theorem mK_11_99 : mMw 11 (99, 0, 1, mX9_run) (1228, 160, 1225, 1226, 1227) = true := by decide +kernel
theorem mK_11_102 : mMw 11 (102, 0, 1, mX9_cannot) (1235, 160, 1232, 1233, 1234) = true := by decide +kernel
theorem mK_11_105 : mMw 11 (105, 0, 3, mX9_once) (1242, 160, 1239, 1240, 1241) = true := by decide +kernel
theorem mK_11_109 : mMw 11 (109, 0, 2, mX9_allFaces) (1257, 160, 1254, 1255, 1256) = true := by decide +kernel
theorem mK_11_112 : mMw 11 (112, 0, 4, mX9_coins) (1268, 160, 1265, 1266, 1267) = true := by decide +kernel
theorem mK_11_116 : mMw 11 (116, 0, 2, mX9_beats) (1279, 160, 1276, 1277, 1278) = true := by decide +kernel
theorem mK_11_119 : mMw 11 (119, 0, 2, mX9_ties) (1291, 160, 1288, 1289, 1290) = true := by decide +kernel
theorem mK_11_122 : mMw 11 (122, 0, 3, mX9_series) (1302, 160, 1299, 1300, 1301) = true := by decide +kernel
theorem mK_11_125 : mMw 11 (125, 0, 3, mX9_more) (1312, 160, 1309, 1310, 1311) = true := by decide +kernel
theorem mK_11_128 : mMw 11 (128, 0, 3, mX9_stopping) (1327, 160, 1324, 1325, 1326) = true := by decide +kernel
theorem mK_11_131 : mMw 11 (131, 0, 1, mX9_likelier) (1348, 160, 1345, 1346, 1347) = true := by decide +kernel
theorem mK_11_134 : mMw 11 (134, 0, 1, mX9_fits) (1377, 160, 1374, 1375, 1376) = true := by decide +kernel
theorem mK_11_137 : mMw 11 (137, 0, 4, mX9_worn) (1388, 160, 1385, 1386, 1387) = true := by decide +kernel
theorem mK_11_141 : mMw 11 (141, 0, 2, mX9_tally) (1411, 160, 1408, 1409, 1410) = true := by decide +kernel
theorem mK_11_144 : mMw 11 (144, 0, 1, mX9_streak) (1419, 160, 1416, 1417, 1418) = true := by decide +kernel
theorem mK_11_147 : mMw 11 (147, 0, 1, mX9_off) (1431, 160, 1428, 1429, 1430) = true := by decide +kernel
theorem mK_11_150 : mMw 11 (150, 0, 3, mX9_tray) (1439, 160, 1436, 1437, 1438) = true := by decide +kernel
theorem mK_11_154 : mMw 11 (154, 0, 3, mX9_write) (1452, 160, 1449, 1450, 1451) = true := by decide +kernel
theorem mK_11_160 : mMw 11 (160, 0, 1, mX9_pour) (1483, 160, 1480, 1481, 1482) = true := by decide +kernel
theorem mK_11_163 : mMw 11 (163, 0, 1, mX9_image) (1491, 160, 1488, 1489, 1490) = true := by decide +kernel
theorem mK_11_167 : mMw 11 (167, 0, 1, mX9_restore) (1507, 160, 1504, 1505, 1506) = true := by decide +kernel
theorem mK_11_174 : mMw 11 (174, 0, 5, mX9_feed) (427, 160, 424, 425, 426) = true := by decide +kernel
theorem mK_11_178 : mMw 11 (178, 0, 5, mX10_feed) (1608, 170, 1605, 1606, 1607) = true := by decide +kernel
theorem mK_11_184 : mMw 11 (184, 0, 1, mX10_table) (1612, 170, 1609, 1610, 1611) = true := by decide +kernel
theorem mK_11_185 : mMw 11 (185, 0, 0, mX10_thrown) (1604, 170, 1601, 1602, 1603) = true := by decide +kernel
theorem mK_11_189 : mMw 11 (189, 0, 1, mX9_fault) (439, 160, 436, 437, 438) = true := by decide +kernel
theorem mK_11_192 : mMw 11 (192, 0, 1, mX10_fault) (1671, 170, 1668, 1669, 1670) = true := by decide +kernel
theorem mK_11_196 : mMw 11 (196, 0, 2, mX10_die) (1675, 170, 1672, 1673, 1674) = true := by decide +kernel
theorem mK_11_199 : mMw 11 (199, 0, 2, mX10_hand) (1716, 170, 1713, 1714, 1715) = true := by decide +kernel
theorem mK_11_202 : mMw 11 (202, 0, 1, mX10_salts) (1729, 170, 1726, 1727, 1728) = true := by decide +kernel
theorem mK_11_206 : mMw 11 (206, 0, 3, mX10_cast) (1733, 170, 1730, 1731, 1732) = true := by decide +kernel
theorem mK_11_209 : mMw 11 (209, 0, 3, mX10_shows) (1752, 170, 1749, 1750, 1751) = true := by decide +kernel
theorem mK_11_212 : mMw 11 (212, 0, 1, mX10_back) (1760, 170, 1757, 1758, 1759) = true := by decide +kernel
theorem mK_11_215 : mMw 11 (215, 0, 2, mX10_past) (1764, 170, 1761, 1762, 1763) = true := by decide +kernel
theorem mK_11_218 : mMw 11 (218, 0, 2, mX10_evening) (1768, 170, 1765, 1766, 1767) = true := by decide +kernel
theorem mK_11_221 : mMw 11 (221, 0, 2, mX10_judge) (1773, 170, 1770, 1771, 1772) = true := by decide +kernel
theorem mK_11_224 : mMw 11 (224, 0, 1, mX10_perform) (1801, 170, 1798, 1799, 1800) = true := by decide +kernel
theorem mK_11_227 : mMw 11 (227, 0, 1, mX10_ants) (1805, 170, 1802, 1803, 1804) = true := by decide +kernel
theorem mK_11_230 : mMw 11 (230, 0, 3, mX10_eaten) (1818, 170, 1815, 1816, 1817) = true := by decide +kernel
theorem mK_11_233 : mMw 11 (233, 0, 1, mX10_lasts) (1830, 170, 1827, 1828, 1829) = true := by decide +kernel
theorem mK_11_236 : mMw 11 (236, 0, 1, mX10_lastFace) (1834, 170, 1831, 1832, 1833) = true := by decide +kernel
theorem mK_11_239 : mMw 11 (239, 0, 1, mX10_rain) (1838, 170, 1835, 1836, 1837) = true := by decide +kernel
theorem mK_11_242 : mMw 11 (242, 0, 1, mX10_fan) (1843, 170, 1840, 1841, 1842) = true := by decide +kernel
theorem mK_11_243 : mMw 11 (243, 0, 1, mX9_lot) (443, 160, 440, 441, 442) = true := by decide +kernel
theorem mK_11_246 : mMw 11 (246, 0, 1, mX10_lot) (1847, 170, 1844, 1845, 1846) = true := by decide +kernel
theorem mK_11_249 : mMw 11 (249, 0, 1, mX10_whole) (1851, 170, 1848, 1849, 1850) = true := by decide +kernel
theorem mK_11_252 : mMw 11 (252, 0, 2, mX10_sum) (1866, 170, 1863, 1864, 1865) = true := by decide +kernel
theorem mK_11_255 : mMw 11 (255, 0, 2, mX10_least) (1875, 170, 1872, 1873, 1874) = true := by decide +kernel
theorem mK_11_258 : mMw 11 (258, 0, 1, mX10_alike) (1883, 170, 1880, 1881, 1882) = true := by decide +kernel
theorem mK_11_261 : mMw 11 (261, 0, 1, mX10_mode) (1887, 170, 1884, 1885, 1886) = true := by decide +kernel
theorem mK_11_264 : mMw 11 (264, 0, 1, mX10_sums) (1891, 170, 1888, 1889, 1890) = true := by decide +kernel
theorem mK_11_267 : mMw 11 (267, 0, 2, mX10_mean) (1895, 170, 1892, 1893, 1894) = true := by decide +kernel
theorem mK_11_270 : mMw 11 (270, 0, 2, mX10_bestSet) (1939, 170, 1936, 1937, 1938) = true := by decide +kernel
theorem mK_11_273 : mMw 11 (273, 0, 1, mX10_unlike) (1899, 170, 1896, 1897, 1898) = true := by decide +kernel
theorem mK_11_276 : mMw 11 (276, 0, 1, mX10_run) (1914, 170, 1911, 1912, 1913) = true := by decide +kernel
theorem mK_11_279 : mMw 11 (279, 0, 1, mX10_cannot) (1918, 170, 1915, 1916, 1917) = true := by decide +kernel
theorem mK_11_282 : mMw 11 (282, 0, 3, mX10_once) (1922, 170, 1919, 1920, 1921) = true := by decide +kernel
theorem mK_11_285 : mMw 11 (285, 0, 2, mX10_allFaces) (1930, 170, 1927, 1928, 1929) = true := by decide +kernel
theorem mK_11_289 : mMw 11 (289, 0, 4, mX10_coins) (1934, 170, 1931, 1932, 1933) = true := by decide +kernel
theorem mK_11_292 : mMw 11 (292, 0, 2, mX10_beats) (1946, 170, 1943, 1944, 1945) = true := by decide +kernel
theorem mK_11_295 : mMw 11 (295, 0, 2, mX10_ties) (1958, 170, 1955, 1956, 1957) = true := by decide +kernel
theorem mK_11_296 : mMw 11 (296, 0, 0, mX9_strongest) (464, 160, 461, 462, 463) = true := by decide +kernel
theorem mK_11_299 : mMw 11 (299, 0, 0, mX10_strongest) (1966, 170, 1963, 1964, 1965) = true := by decide +kernel
theorem mK_11_300 : mMw 11 (300, 0, 1, mX9_ring) (497, 160, 494, 495, 496) = true := by decide +kernel
theorem mK_11_303 : mMw 11 (303, 0, 1, mX10_ring) (1974, 170, 1971, 1972, 1973) = true := by decide +kernel
theorem mK_11_306 : mMw 11 (306, 0, 3, mX10_series) (1982, 170, 1979, 1980, 1981) = true := by decide +kernel
theorem mK_11_309 : mMw 11 (309, 0, 3, mX10_more) (1990, 170, 1987, 1988, 1989) = true := by decide +kernel
theorem mK_11_310 : mMw 11 (310, 0, 0, mX9_evenest) (505, 160, 502, 503, 504) = true := by decide +kernel
theorem mK_11_313 : mMw 11 (313, 0, 0, mX10_evenest) (1998, 170, 1995, 1996, 1997) = true := by decide +kernel
theorem mK_11_316 : mMw 11 (316, 0, 3, mX10_stopping) (2003, 170, 2000, 2001, 2002) = true := by decide +kernel
theorem mK_11_319 : mMw 11 (319, 0, 1, mX10_likelier) (2009, 170, 2006, 2007, 2008) = true := by decide +kernel
theorem mK_11_322 : mMw 11 (322, 0, 1, mX10_fits) (2021, 170, 2018, 2019, 2020) = true := by decide +kernel
theorem mK_11_325 : mMw 11 (325, 0, 4, mX10_worn) (2025, 170, 2022, 2023, 2024) = true := by decide +kernel
theorem mK_11_328 : mMw 11 (328, 0, 2, mX10_tally) (2033, 170, 2030, 2031, 2032) = true := by decide +kernel
theorem mK_11_331 : mMw 11 (331, 0, 1, mX10_streak) (2037, 170, 2034, 2035, 2036) = true := by decide +kernel
theorem mK_11_334 : mMw 11 (334, 0, 1, mX10_off) (2041, 170, 2038, 2039, 2040) = true := by decide +kernel
theorem mK_11_335 : mMw 11 (335, 0, 0, mX9_loaded) (517, 160, 514, 515, 516) = true := by decide +kernel
theorem mK_11_338 : mMw 11 (338, 0, 0, mX10_loaded) (2049, 170, 2046, 2047, 2048) = true := by decide +kernel
theorem mK_11_342 : mMw 11 (342, 0, 3, mX10_tray) (2053, 170, 2050, 2051, 2052) = true := by decide +kernel
theorem mK_11_348 : mMw 11 (348, 0, 3, mX10_write) (2057, 170, 2054, 2055, 2056) = true := by decide +kernel
theorem mK_11_351 : mMw 11 (351, 0, 1, mX10_pour) (2065, 170, 2062, 2063, 2064) = true := by decide +kernel
theorem mK_11_355 : mMw 11 (355, 0, 1, mX10_image) (2069, 170, 2066, 2067, 2068) = true := by decide +kernel
theorem mK_11_358 : mMw 11 (358, 0, 1, mX10_restore) (2073, 170, 2070, 2071, 2072) = true := by decide +kernel
theorem mK_11_359 : mMw 11 (359, 0, 1, mX9_count) (550, 160, 547, 548, 549) = true := by decide +kernel
theorem mK_11_362 : mMw 11 (362, 0, 1, mX10_count) (2077, 170, 2074, 2075, 2076) = true := by decide +kernel
theorem mK_11_179 : mMw 11 (179, 8, 3, mL_table) (562, 159, 560, 561, 0) = true := by decide +kernel
theorem mK_11_193 : mMw 11 (193, 8, 4, mL_die) (758, 159, 756, 757, 0) = true := by decide +kernel
theorem mK_11_197 : mMw 11 (197, 8, 4, mL_hand) (803, 159, 801, 802, 0) = true := by decide +kernel
theorem mK_11_200 : mMw 11 (200, 8, 3, mL_salts) (836, 159, 834, 835, 0) = true := by decide +kernel
theorem mK_11_203 : mMw 11 (203, 8, 5, mL_cast) (848, 159, 846, 847, 0) = true := by decide +kernel
theorem mK_11_207 : mMw 11 (207, 8, 5, mL_shows) (908, 159, 906, 907, 0) = true := by decide +kernel
theorem mK_11_210 : mMw 11 (210, 8, 3, mL_back) (926, 159, 924, 925, 0) = true := by decide +kernel
theorem mK_11_213 : mMw 11 (213, 8, 4, mL_past) (938, 159, 936, 937, 0) = true := by decide +kernel
theorem mK_11_216 : mMw 11 (216, 8, 4, mL_evening) (949, 159, 947, 948, 0) = true := by decide +kernel
theorem mK_11_219 : mMw 11 (219, 8, 4, mL_judge) (958, 159, 956, 957, 0) = true := by decide +kernel
theorem mK_11_222 : mMw 11 (222, 8, 3, mL_perform) (994, 159, 992, 993, 0) = true := by decide +kernel
theorem mK_11_225 : mMw 11 (225, 8, 3, mL_ants) (1001, 159, 999, 1000, 0) = true := by decide +kernel
theorem mK_11_228 : mMw 11 (228, 8, 5, mL_eaten) (1021, 159, 1019, 1020, 0) = true := by decide +kernel
theorem mK_11_231 : mMw 11 (231, 8, 3, mL_lasts) (1035, 159, 1033, 1034, 0) = true := by decide +kernel
theorem mK_11_234 : mMw 11 (234, 8, 3, mL_lastFace) (1042, 159, 1040, 1041, 0) = true := by decide +kernel
theorem mK_11_237 : mMw 11 (237, 8, 3, mL_rain) (1053, 159, 1051, 1052, 0) = true := by decide +kernel
theorem mK_11_240 : mMw 11 (240, 8, 3, mL_fan) (1062, 159, 1060, 1061, 0) = true := by decide +kernel
theorem mK_11_247 : mMw 11 (247, 8, 3, mL_whole) (1073, 159, 1071, 1072, 0) = true := by decide +kernel
theorem mK_11_250 : mMw 11 (250, 8, 4, mL_sum) (1102, 159, 1100, 1101, 0) = true := by decide +kernel
theorem mK_11_253 : mMw 11 (253, 8, 4, mL_least) (1125, 159, 1123, 1124, 0) = true := by decide +kernel
theorem mK_11_256 : mMw 11 (256, 8, 3, mL_alike) (1137, 159, 1135, 1136, 0) = true := by decide +kernel
theorem mK_11_259 : mMw 11 (259, 8, 3, mL_mode) (1148, 159, 1146, 1147, 0) = true := by decide +kernel
theorem mK_11_262 : mMw 11 (262, 8, 3, mL_sums) (1159, 159, 1157, 1158, 0) = true := by decide +kernel
theorem mK_11_265 : mMw 11 (265, 8, 4, mL_mean) (1170, 159, 1168, 1169, 0) = true := by decide +kernel
theorem mK_11_268 : mMw 11 (268, 8, 4, mL_bestSet) (1182, 159, 1180, 1181, 0) = true := by decide +kernel
theorem mK_11_271 : mMw 11 (271, 8, 3, mL_unlike) (1206, 159, 1204, 1205, 0) = true := by decide +kernel
theorem mK_11_274 : mMw 11 (274, 8, 3, mL_run) (1224, 159, 1222, 1223, 0) = true := by decide +kernel
theorem mK_11_277 : mMw 11 (277, 8, 3, mL_cannot) (1231, 159, 1229, 1230, 0) = true := by decide +kernel
theorem mK_11_280 : mMw 11 (280, 8, 5, mL_once) (1238, 159, 1236, 1237, 0) = true := by decide +kernel
theorem mK_11_283 : mMw 11 (283, 8, 4, mL_allFaces) (1253, 159, 1251, 1252, 0) = true := by decide +kernel
theorem mK_11_286 : mMw 11 (286, 8, 6, mL_coins) (1264, 159, 1262, 1263, 0) = true := by decide +kernel
theorem mK_11_290 : mMw 11 (290, 8, 4, mL_beats) (1275, 159, 1273, 1274, 0) = true := by decide +kernel
theorem mK_11_293 : mMw 11 (293, 8, 4, mL_ties) (1287, 159, 1285, 1286, 0) = true := by decide +kernel
theorem mK_11_304 : mMw 11 (304, 8, 5, mL_series) (1298, 159, 1296, 1297, 0) = true := by decide +kernel
theorem mK_11_307 : mMw 11 (307, 8, 5, mL_more) (1308, 159, 1306, 1307, 0) = true := by decide +kernel
theorem mK_11_314 : mMw 11 (314, 8, 5, mL_stopping) (1323, 159, 1321, 1322, 0) = true := by decide +kernel
theorem mK_11_317 : mMw 11 (317, 8, 3, mL_likelier) (1344, 159, 1342, 1343, 0) = true := by decide +kernel
theorem mK_11_320 : mMw 11 (320, 8, 3, mL_fits) (1373, 159, 1371, 1372, 0) = true := by decide +kernel
theorem mK_11_323 : mMw 11 (323, 8, 6, mL_worn) (1384, 159, 1382, 1383, 0) = true := by decide +kernel
theorem mK_11_326 : mMw 11 (326, 8, 4, mL_tally) (1407, 159, 1405, 1406, 0) = true := by decide +kernel
theorem mK_11_329 : mMw 11 (329, 8, 3, mL_streak) (1415, 159, 1413, 1414, 0) = true := by decide +kernel
theorem mK_11_332 : mMw 11 (332, 8, 3, mL_off) (1427, 159, 1425, 1426, 0) = true := by decide +kernel
theorem mK_11_339 : mMw 11 (339, 8, 4, mL_tray) (1435, 159, 1433, 1434, 0) = true := by decide +kernel
theorem mK_11_345 : mMw 11 (345, 8, 5, mL_write) (1447, 159, 1445, 1446, 0) = true := by decide +kernel
theorem mK_11_349 : mMw 11 (349, 8, 3, mL_pour) (1479, 159, 1477, 1478, 0) = true := by decide +kernel
theorem mK_11_352 : mMw 11 (352, 8, 2, mL_image) (1487, 159, 1485, 1486, 0) = true := by decide +kernel
theorem mK_11_356 : mMw 11 (356, 8, 2, mL_restore) (1503, 159, 1501, 1502, 0) = true := by decide +kernel
theorem mK_11_170 : mMw 11 (170, 4, 0, mX9_init) (189, 160, 187, 188, 0) = true := by decide +kernel
theorem mK_11_173 : mMw 11 (173, 4, 0, mX10_init) (1513, 170, 1511, 1512, 0) = true := by decide +kernel
theorem mMt_ok11 : ∀ q ∈ mMt11, ∃ ix, mMw 11 q ix = true := List.forall_mem_cons.mpr ⟨⟨_, mK_11_7⟩, List.forall_mem_cons.mpr ⟨⟨_, mK_11_15⟩, List.forall_mem_cons.mpr ⟨⟨_, mK_11_21⟩, List.forall_mem_cons.mpr ⟨⟨_, mK_11_24⟩, List.forall_mem_cons.mpr ⟨⟨_, mK_11_28⟩, List.forall_mem_cons.mpr ⟨⟨_, mK_11_34⟩, List.forall_mem_cons.mpr ⟨⟨_, mK_11_37⟩, List.forall_mem_cons.mpr ⟨⟨_, mK_11_40⟩, List.forall_mem_cons.mpr ⟨⟨_, mK_11_43⟩, List.forall_mem_cons.mpr ⟨⟨_, mK_11_46⟩, List.forall_mem_cons.mpr ⟨⟨_, mK_11_49⟩, List.forall_mem_cons.mpr ⟨⟨_, mK_11_52⟩, List.forall_mem_cons.mpr ⟨⟨_, mK_11_55⟩, List.forall_mem_cons.mpr ⟨⟨_, mK_11_58⟩, List.forall_mem_cons.mpr ⟨⟨_, mK_11_61⟩, List.forall_mem_cons.mpr ⟨⟨_, mK_11_64⟩, List.forall_mem_cons.mpr ⟨⟨_, mK_11_67⟩, List.forall_mem_cons.mpr ⟨⟨_, mK_11_70⟩, List.forall_mem_cons.mpr ⟨⟨_, mK_11_74⟩, List.forall_mem_cons.mpr ⟨⟨_, mK_11_78⟩, List.forall_mem_cons.mpr ⟨⟨_, mK_11_81⟩, List.forall_mem_cons.mpr ⟨⟨_, mK_11_84⟩, List.forall_mem_cons.mpr ⟨⟨_, mK_11_87⟩, List.forall_mem_cons.mpr ⟨⟨_, mK_11_90⟩, List.forall_mem_cons.mpr ⟨⟨_, mK_11_93⟩, List.forall_mem_cons.mpr ⟨⟨_, mK_11_96⟩, List.forall_mem_cons.mpr ⟨⟨_, mK_11_99⟩, List.forall_mem_cons.mpr ⟨⟨_, mK_11_102⟩, List.forall_mem_cons.mpr ⟨⟨_, mK_11_105⟩, List.forall_mem_cons.mpr ⟨⟨_, mK_11_109⟩, List.forall_mem_cons.mpr ⟨⟨_, mK_11_112⟩, List.forall_mem_cons.mpr ⟨⟨_, mK_11_116⟩, List.forall_mem_cons.mpr ⟨⟨_, mK_11_119⟩, List.forall_mem_cons.mpr ⟨⟨_, mK_11_122⟩, List.forall_mem_cons.mpr ⟨⟨_, mK_11_125⟩, List.forall_mem_cons.mpr ⟨⟨_, mK_11_128⟩, List.forall_mem_cons.mpr ⟨⟨_, mK_11_131⟩, List.forall_mem_cons.mpr ⟨⟨_, mK_11_134⟩, List.forall_mem_cons.mpr ⟨⟨_, mK_11_137⟩, List.forall_mem_cons.mpr ⟨⟨_, mK_11_141⟩, List.forall_mem_cons.mpr ⟨⟨_, mK_11_144⟩, List.forall_mem_cons.mpr ⟨⟨_, mK_11_147⟩, List.forall_mem_cons.mpr ⟨⟨_, mK_11_150⟩, List.forall_mem_cons.mpr ⟨⟨_, mK_11_154⟩, List.forall_mem_cons.mpr ⟨⟨_, mK_11_160⟩, List.forall_mem_cons.mpr ⟨⟨_, mK_11_163⟩, List.forall_mem_cons.mpr ⟨⟨_, mK_11_167⟩, List.forall_mem_cons.mpr ⟨⟨_, mK_11_174⟩, List.forall_mem_cons.mpr ⟨⟨_, mK_11_178⟩, List.forall_mem_cons.mpr ⟨⟨_, mK_11_184⟩, List.forall_mem_cons.mpr ⟨⟨_, mK_11_185⟩, List.forall_mem_cons.mpr ⟨⟨_, mK_11_189⟩, List.forall_mem_cons.mpr ⟨⟨_, mK_11_192⟩, List.forall_mem_cons.mpr ⟨⟨_, mK_11_196⟩, List.forall_mem_cons.mpr ⟨⟨_, mK_11_199⟩, List.forall_mem_cons.mpr ⟨⟨_, mK_11_202⟩, List.forall_mem_cons.mpr ⟨⟨_, mK_11_206⟩, List.forall_mem_cons.mpr ⟨⟨_, mK_11_209⟩, List.forall_mem_cons.mpr ⟨⟨_, mK_11_212⟩, List.forall_mem_cons.mpr ⟨⟨_, mK_11_215⟩, List.forall_mem_cons.mpr ⟨⟨_, mK_11_218⟩, List.forall_mem_cons.mpr ⟨⟨_, mK_11_221⟩, List.forall_mem_cons.mpr ⟨⟨_, mK_11_224⟩, List.forall_mem_cons.mpr ⟨⟨_, mK_11_227⟩, List.forall_mem_cons.mpr ⟨⟨_, mK_11_230⟩, List.forall_mem_cons.mpr ⟨⟨_, mK_11_233⟩, List.forall_mem_cons.mpr ⟨⟨_, mK_11_236⟩, List.forall_mem_cons.mpr ⟨⟨_, mK_11_239⟩, List.forall_mem_cons.mpr ⟨⟨_, mK_11_242⟩, List.forall_mem_cons.mpr ⟨⟨_, mK_11_243⟩, List.forall_mem_cons.mpr ⟨⟨_, mK_11_246⟩, List.forall_mem_cons.mpr ⟨⟨_, mK_11_249⟩, List.forall_mem_cons.mpr ⟨⟨_, mK_11_252⟩, List.forall_mem_cons.mpr ⟨⟨_, mK_11_255⟩, List.forall_mem_cons.mpr ⟨⟨_, mK_11_258⟩, List.forall_mem_cons.mpr ⟨⟨_, mK_11_261⟩, List.forall_mem_cons.mpr ⟨⟨_, mK_11_264⟩, List.forall_mem_cons.mpr ⟨⟨_, mK_11_267⟩, List.forall_mem_cons.mpr ⟨⟨_, mK_11_270⟩, List.forall_mem_cons.mpr ⟨⟨_, mK_11_273⟩, List.forall_mem_cons.mpr ⟨⟨_, mK_11_276⟩, List.forall_mem_cons.mpr ⟨⟨_, mK_11_279⟩, List.forall_mem_cons.mpr ⟨⟨_, mK_11_282⟩, List.forall_mem_cons.mpr ⟨⟨_, mK_11_285⟩, List.forall_mem_cons.mpr ⟨⟨_, mK_11_289⟩, List.forall_mem_cons.mpr ⟨⟨_, mK_11_292⟩, List.forall_mem_cons.mpr ⟨⟨_, mK_11_295⟩, List.forall_mem_cons.mpr ⟨⟨_, mK_11_296⟩, List.forall_mem_cons.mpr ⟨⟨_, mK_11_299⟩, List.forall_mem_cons.mpr ⟨⟨_, mK_11_300⟩, List.forall_mem_cons.mpr ⟨⟨_, mK_11_303⟩, List.forall_mem_cons.mpr ⟨⟨_, mK_11_306⟩, List.forall_mem_cons.mpr ⟨⟨_, mK_11_309⟩, List.forall_mem_cons.mpr ⟨⟨_, mK_11_310⟩, List.forall_mem_cons.mpr ⟨⟨_, mK_11_313⟩, List.forall_mem_cons.mpr ⟨⟨_, mK_11_316⟩, List.forall_mem_cons.mpr ⟨⟨_, mK_11_319⟩, List.forall_mem_cons.mpr ⟨⟨_, mK_11_322⟩, List.forall_mem_cons.mpr ⟨⟨_, mK_11_325⟩, List.forall_mem_cons.mpr ⟨⟨_, mK_11_328⟩, List.forall_mem_cons.mpr ⟨⟨_, mK_11_331⟩, List.forall_mem_cons.mpr ⟨⟨_, mK_11_334⟩, List.forall_mem_cons.mpr ⟨⟨_, mK_11_335⟩, List.forall_mem_cons.mpr ⟨⟨_, mK_11_338⟩, List.forall_mem_cons.mpr ⟨⟨_, mK_11_342⟩, List.forall_mem_cons.mpr ⟨⟨_, mK_11_348⟩, List.forall_mem_cons.mpr ⟨⟨_, mK_11_351⟩, List.forall_mem_cons.mpr ⟨⟨_, mK_11_355⟩, List.forall_mem_cons.mpr ⟨⟨_, mK_11_358⟩, List.forall_mem_cons.mpr ⟨⟨_, mK_11_359⟩, List.forall_mem_cons.mpr ⟨⟨_, mK_11_362⟩, List.forall_mem_cons.mpr ⟨⟨_, mK_11_179⟩, List.forall_mem_cons.mpr ⟨⟨_, mK_11_193⟩, List.forall_mem_cons.mpr ⟨⟨_, mK_11_197⟩, List.forall_mem_cons.mpr ⟨⟨_, mK_11_200⟩, List.forall_mem_cons.mpr ⟨⟨_, mK_11_203⟩, List.forall_mem_cons.mpr ⟨⟨_, mK_11_207⟩, List.forall_mem_cons.mpr ⟨⟨_, mK_11_210⟩, List.forall_mem_cons.mpr ⟨⟨_, mK_11_213⟩, List.forall_mem_cons.mpr ⟨⟨_, mK_11_216⟩, List.forall_mem_cons.mpr ⟨⟨_, mK_11_219⟩, List.forall_mem_cons.mpr ⟨⟨_, mK_11_222⟩, List.forall_mem_cons.mpr ⟨⟨_, mK_11_225⟩, List.forall_mem_cons.mpr ⟨⟨_, mK_11_228⟩, List.forall_mem_cons.mpr ⟨⟨_, mK_11_231⟩, List.forall_mem_cons.mpr ⟨⟨_, mK_11_234⟩, List.forall_mem_cons.mpr ⟨⟨_, mK_11_237⟩, List.forall_mem_cons.mpr ⟨⟨_, mK_11_240⟩, List.forall_mem_cons.mpr ⟨⟨_, mK_11_247⟩, List.forall_mem_cons.mpr ⟨⟨_, mK_11_250⟩, List.forall_mem_cons.mpr ⟨⟨_, mK_11_253⟩, List.forall_mem_cons.mpr ⟨⟨_, mK_11_256⟩, List.forall_mem_cons.mpr ⟨⟨_, mK_11_259⟩, List.forall_mem_cons.mpr ⟨⟨_, mK_11_262⟩, List.forall_mem_cons.mpr ⟨⟨_, mK_11_265⟩, List.forall_mem_cons.mpr ⟨⟨_, mK_11_268⟩, List.forall_mem_cons.mpr ⟨⟨_, mK_11_271⟩, List.forall_mem_cons.mpr ⟨⟨_, mK_11_274⟩, List.forall_mem_cons.mpr ⟨⟨_, mK_11_277⟩, List.forall_mem_cons.mpr ⟨⟨_, mK_11_280⟩, List.forall_mem_cons.mpr ⟨⟨_, mK_11_283⟩, List.forall_mem_cons.mpr ⟨⟨_, mK_11_286⟩, List.forall_mem_cons.mpr ⟨⟨_, mK_11_290⟩, List.forall_mem_cons.mpr ⟨⟨_, mK_11_293⟩, List.forall_mem_cons.mpr ⟨⟨_, mK_11_304⟩, List.forall_mem_cons.mpr ⟨⟨_, mK_11_307⟩, List.forall_mem_cons.mpr ⟨⟨_, mK_11_314⟩, List.forall_mem_cons.mpr ⟨⟨_, mK_11_317⟩, List.forall_mem_cons.mpr ⟨⟨_, mK_11_320⟩, List.forall_mem_cons.mpr ⟨⟨_, mK_11_323⟩, List.forall_mem_cons.mpr ⟨⟨_, mK_11_326⟩, List.forall_mem_cons.mpr ⟨⟨_, mK_11_329⟩, List.forall_mem_cons.mpr ⟨⟨_, mK_11_332⟩, List.forall_mem_cons.mpr ⟨⟨_, mK_11_339⟩, List.forall_mem_cons.mpr ⟨⟨_, mK_11_345⟩, List.forall_mem_cons.mpr ⟨⟨_, mK_11_349⟩, List.forall_mem_cons.mpr ⟨⟨_, mK_11_352⟩, List.forall_mem_cons.mpr ⟨⟨_, mK_11_356⟩, List.forall_mem_cons.mpr ⟨⟨_, mK_11_170⟩, List.forall_mem_cons.mpr ⟨⟨_, mK_11_173⟩, fun _ h => absurd h List.not_mem_nil⟩⟩⟩⟩⟩⟩⟩⟩⟩⟩⟩⟩⟩⟩⟩⟩⟩⟩⟩⟩⟩⟩⟩⟩⟩⟩⟩⟩⟩⟩⟩⟩⟩⟩⟩⟩⟩⟩⟩⟩⟩⟩⟩⟩⟩⟩⟩⟩⟩⟩⟩⟩⟩⟩⟩⟩⟩⟩⟩⟩⟩⟩⟩⟩⟩⟩⟩⟩⟩⟩⟩⟩⟩⟩⟩⟩⟩⟩⟩⟩⟩⟩⟩⟩⟩⟩⟩⟩⟩⟩⟩⟩⟩⟩⟩⟩⟩⟩⟩⟩⟩⟩⟩⟩⟩⟩⟩⟩⟩⟩⟩⟩⟩⟩⟩⟩⟩⟩⟩⟩⟩⟩⟩⟩⟩⟩⟩⟩⟩⟩⟩⟩⟩⟩⟩⟩⟩⟩⟩⟩⟩⟩⟩⟩⟩⟩⟩⟩⟩⟩⟩⟩⟩⟩⟩⟩⟩⟩⟩⟩
theorem mMt_cd11 : ∀ q ∈ mMt11, mCode q.2.2.2 ∈ lw_tbl := List.forall_mem_cons.mpr ⟨mCd_X9_table, List.forall_mem_cons.mpr ⟨mCd_X9_die, List.forall_mem_cons.mpr ⟨mCd_X9_hand, List.forall_mem_cons.mpr ⟨mCd_X9_salts, List.forall_mem_cons.mpr ⟨mCd_X9_cast, List.forall_mem_cons.mpr ⟨mCd_X9_shows, List.forall_mem_cons.mpr ⟨mCd_X9_back, List.forall_mem_cons.mpr ⟨mCd_X9_past, List.forall_mem_cons.mpr ⟨mCd_X9_evening, List.forall_mem_cons.mpr ⟨mCd_X9_judge, List.forall_mem_cons.mpr ⟨mCd_X9_perform, List.forall_mem_cons.mpr ⟨mCd_X9_ants, List.forall_mem_cons.mpr ⟨mCd_X9_eaten, List.forall_mem_cons.mpr ⟨mCd_X9_lasts, List.forall_mem_cons.mpr ⟨mCd_X9_lastFace, List.forall_mem_cons.mpr ⟨mCd_X9_rain, List.forall_mem_cons.mpr ⟨mCd_X9_fan, List.forall_mem_cons.mpr ⟨mCd_X9_whole, List.forall_mem_cons.mpr ⟨mCd_X9_sum, List.forall_mem_cons.mpr ⟨mCd_X9_least, List.forall_mem_cons.mpr ⟨mCd_X9_alike, List.forall_mem_cons.mpr ⟨mCd_X9_mode, List.forall_mem_cons.mpr ⟨mCd_X9_sums, List.forall_mem_cons.mpr ⟨mCd_X9_mean, List.forall_mem_cons.mpr ⟨mCd_X9_bestSet, List.forall_mem_cons.mpr ⟨mCd_X9_unlike, List.forall_mem_cons.mpr ⟨mCd_X9_run, List.forall_mem_cons.mpr ⟨mCd_X9_cannot, List.forall_mem_cons.mpr ⟨mCd_X9_once, List.forall_mem_cons.mpr ⟨mCd_X9_allFaces, List.forall_mem_cons.mpr ⟨mCd_X9_coins, List.forall_mem_cons.mpr ⟨mCd_X9_beats, List.forall_mem_cons.mpr ⟨mCd_X9_ties, List.forall_mem_cons.mpr ⟨mCd_X9_series, List.forall_mem_cons.mpr ⟨mCd_X9_more, List.forall_mem_cons.mpr ⟨mCd_X9_stopping, List.forall_mem_cons.mpr ⟨mCd_X9_likelier, List.forall_mem_cons.mpr ⟨mCd_X9_fits, List.forall_mem_cons.mpr ⟨mCd_X9_worn, List.forall_mem_cons.mpr ⟨mCd_X9_tally, List.forall_mem_cons.mpr ⟨mCd_X9_streak, List.forall_mem_cons.mpr ⟨mCd_X9_off, List.forall_mem_cons.mpr ⟨mCd_X9_tray, List.forall_mem_cons.mpr ⟨mCd_X9_write, List.forall_mem_cons.mpr ⟨mCd_X9_pour, List.forall_mem_cons.mpr ⟨mCd_X9_image, List.forall_mem_cons.mpr ⟨mCd_X9_restore, List.forall_mem_cons.mpr ⟨mCd_X9_feed, List.forall_mem_cons.mpr ⟨mCd_X10_feed, List.forall_mem_cons.mpr ⟨mCd_X10_table, List.forall_mem_cons.mpr ⟨mCd_X10_thrown, List.forall_mem_cons.mpr ⟨mCd_X9_fault, List.forall_mem_cons.mpr ⟨mCd_X10_fault, List.forall_mem_cons.mpr ⟨mCd_X10_die, List.forall_mem_cons.mpr ⟨mCd_X10_hand, List.forall_mem_cons.mpr ⟨mCd_X10_salts, List.forall_mem_cons.mpr ⟨mCd_X10_cast, List.forall_mem_cons.mpr ⟨mCd_X10_shows, List.forall_mem_cons.mpr ⟨mCd_X10_back, List.forall_mem_cons.mpr ⟨mCd_X10_past, List.forall_mem_cons.mpr ⟨mCd_X10_evening, List.forall_mem_cons.mpr ⟨mCd_X10_judge, List.forall_mem_cons.mpr ⟨mCd_X10_perform, List.forall_mem_cons.mpr ⟨mCd_X10_ants, List.forall_mem_cons.mpr ⟨mCd_X10_eaten, List.forall_mem_cons.mpr ⟨mCd_X10_lasts, List.forall_mem_cons.mpr ⟨mCd_X10_lastFace, List.forall_mem_cons.mpr ⟨mCd_X10_rain, List.forall_mem_cons.mpr ⟨mCd_X10_fan, List.forall_mem_cons.mpr ⟨mCd_X9_lot, List.forall_mem_cons.mpr ⟨mCd_X10_lot, List.forall_mem_cons.mpr ⟨mCd_X10_whole, List.forall_mem_cons.mpr ⟨mCd_X10_sum, List.forall_mem_cons.mpr ⟨mCd_X10_least, List.forall_mem_cons.mpr ⟨mCd_X10_alike, List.forall_mem_cons.mpr ⟨mCd_X10_mode, List.forall_mem_cons.mpr ⟨mCd_X10_sums, List.forall_mem_cons.mpr ⟨mCd_X10_mean, List.forall_mem_cons.mpr ⟨mCd_X10_bestSet, List.forall_mem_cons.mpr ⟨mCd_X10_unlike, List.forall_mem_cons.mpr ⟨mCd_X10_run, List.forall_mem_cons.mpr ⟨mCd_X10_cannot, List.forall_mem_cons.mpr ⟨mCd_X10_once, List.forall_mem_cons.mpr ⟨mCd_X10_allFaces, List.forall_mem_cons.mpr ⟨mCd_X10_coins, List.forall_mem_cons.mpr ⟨mCd_X10_beats, List.forall_mem_cons.mpr ⟨mCd_X10_ties, List.forall_mem_cons.mpr ⟨mCd_X9_strongest, List.forall_mem_cons.mpr ⟨mCd_X10_strongest, List.forall_mem_cons.mpr ⟨mCd_X9_ring, List.forall_mem_cons.mpr ⟨mCd_X10_ring, List.forall_mem_cons.mpr ⟨mCd_X10_series, List.forall_mem_cons.mpr ⟨mCd_X10_more, List.forall_mem_cons.mpr ⟨mCd_X9_evenest, List.forall_mem_cons.mpr ⟨mCd_X10_evenest, List.forall_mem_cons.mpr ⟨mCd_X10_stopping, List.forall_mem_cons.mpr ⟨mCd_X10_likelier, List.forall_mem_cons.mpr ⟨mCd_X10_fits, List.forall_mem_cons.mpr ⟨mCd_X10_worn, List.forall_mem_cons.mpr ⟨mCd_X10_tally, List.forall_mem_cons.mpr ⟨mCd_X10_streak, List.forall_mem_cons.mpr ⟨mCd_X10_off, List.forall_mem_cons.mpr ⟨mCd_X9_loaded, List.forall_mem_cons.mpr ⟨mCd_X10_loaded, List.forall_mem_cons.mpr ⟨mCd_X10_tray, List.forall_mem_cons.mpr ⟨mCd_X10_write, List.forall_mem_cons.mpr ⟨mCd_X10_pour, List.forall_mem_cons.mpr ⟨mCd_X10_image, List.forall_mem_cons.mpr ⟨mCd_X10_restore, List.forall_mem_cons.mpr ⟨mCd_X9_count, List.forall_mem_cons.mpr ⟨mCd_X10_count, List.forall_mem_cons.mpr ⟨mCd_L_table, List.forall_mem_cons.mpr ⟨mCd_L_die, List.forall_mem_cons.mpr ⟨mCd_L_hand, List.forall_mem_cons.mpr ⟨mCd_L_salts, List.forall_mem_cons.mpr ⟨mCd_L_cast, List.forall_mem_cons.mpr ⟨mCd_L_shows, List.forall_mem_cons.mpr ⟨mCd_L_back, List.forall_mem_cons.mpr ⟨mCd_L_past, List.forall_mem_cons.mpr ⟨mCd_L_evening, List.forall_mem_cons.mpr ⟨mCd_L_judge, List.forall_mem_cons.mpr ⟨mCd_L_perform, List.forall_mem_cons.mpr ⟨mCd_L_ants, List.forall_mem_cons.mpr ⟨mCd_L_eaten, List.forall_mem_cons.mpr ⟨mCd_L_lasts, List.forall_mem_cons.mpr ⟨mCd_L_lastFace, List.forall_mem_cons.mpr ⟨mCd_L_rain, List.forall_mem_cons.mpr ⟨mCd_L_fan, List.forall_mem_cons.mpr ⟨mCd_L_whole, List.forall_mem_cons.mpr ⟨mCd_L_sum, List.forall_mem_cons.mpr ⟨mCd_L_least, List.forall_mem_cons.mpr ⟨mCd_L_alike, List.forall_mem_cons.mpr ⟨mCd_L_mode, List.forall_mem_cons.mpr ⟨mCd_L_sums, List.forall_mem_cons.mpr ⟨mCd_L_mean, List.forall_mem_cons.mpr ⟨mCd_L_bestSet, List.forall_mem_cons.mpr ⟨mCd_L_unlike, List.forall_mem_cons.mpr ⟨mCd_L_run, List.forall_mem_cons.mpr ⟨mCd_L_cannot, List.forall_mem_cons.mpr ⟨mCd_L_once, List.forall_mem_cons.mpr ⟨mCd_L_allFaces, List.forall_mem_cons.mpr ⟨mCd_L_coins, List.forall_mem_cons.mpr ⟨mCd_L_beats, List.forall_mem_cons.mpr ⟨mCd_L_ties, List.forall_mem_cons.mpr ⟨mCd_L_series, List.forall_mem_cons.mpr ⟨mCd_L_more, List.forall_mem_cons.mpr ⟨mCd_L_stopping, List.forall_mem_cons.mpr ⟨mCd_L_likelier, List.forall_mem_cons.mpr ⟨mCd_L_fits, List.forall_mem_cons.mpr ⟨mCd_L_worn, List.forall_mem_cons.mpr ⟨mCd_L_tally, List.forall_mem_cons.mpr ⟨mCd_L_streak, List.forall_mem_cons.mpr ⟨mCd_L_off, List.forall_mem_cons.mpr ⟨mCd_L_tray, List.forall_mem_cons.mpr ⟨mCd_L_write, List.forall_mem_cons.mpr ⟨mCd_L_pour, List.forall_mem_cons.mpr ⟨mCd_L_image, List.forall_mem_cons.mpr ⟨mCd_L_restore, List.forall_mem_cons.mpr ⟨mCd_X9_init, List.forall_mem_cons.mpr ⟨mCd_X10_init, fun _ h => absurd h List.not_mem_nil⟩⟩⟩⟩⟩⟩⟩⟩⟩⟩⟩⟩⟩⟩⟩⟩⟩⟩⟩⟩⟩⟩⟩⟩⟩⟩⟩⟩⟩⟩⟩⟩⟩⟩⟩⟩⟩⟩⟩⟩⟩⟩⟩⟩⟩⟩⟩⟩⟩⟩⟩⟩⟩⟩⟩⟩⟩⟩⟩⟩⟩⟩⟩⟩⟩⟩⟩⟩⟩⟩⟩⟩⟩⟩⟩⟩⟩⟩⟩⟩⟩⟩⟩⟩⟩⟩⟩⟩⟩⟩⟩⟩⟩⟩⟩⟩⟩⟩⟩⟩⟩⟩⟩⟩⟩⟩⟩⟩⟩⟩⟩⟩⟩⟩⟩⟩⟩⟩⟩⟩⟩⟩⟩⟩⟩⟩⟩⟩⟩⟩⟩⟩⟩⟩⟩⟩⟩⟩⟩⟩⟩⟩⟩⟩⟩⟩⟩⟩⟩⟩⟩⟩⟩⟩⟩⟩⟩⟩⟩⟩
theorem mMt_ok {oc : Nat} : ∀ q ∈ mMt oc, ∃ ix, mMw oc q ix = true := by
  match oc with
  | 0 => exact mMt_ok0
  | 1 => exact mMt_ok1
  | 2 => exact mMt_ok2
  | 3 => exact mMt_ok3
  | 4 => exact mMt_ok4
  | 5 => exact mMt_ok5
  | 6 => exact mMt_ok6
  | 7 => exact mMt_ok7
  | 8 => exact mMt_ok8
  | 9 => exact mMt_ok9
  | 10 => exact mMt_ok10
  | 11 => exact mMt_ok11
  | k + 12 => intro q hq; cases hq
theorem mMt_cd {oc : Nat} : ∀ q ∈ mMt oc, mCode q.2.2.2 ∈ lw_tbl := by
  match oc with
  | 0 => exact mMt_cd0
  | 1 => exact mMt_cd1
  | 2 => exact mMt_cd2
  | 3 => exact mMt_cd3
  | 4 => exact mMt_cd4
  | 5 => exact mMt_cd5
  | 6 => exact mMt_cd6
  | 7 => exact mMt_cd7
  | 8 => exact mMt_cd8
  | 9 => exact mMt_cd9
  | 10 => exact mMt_cd10
  | 11 => exact mMt_cd11
  | k + 12 => intro q hq; cases hq
end
section
/-! the calls themselves -/
section mCa
variable {X : mX} {M : mM} {d : Nat} {Q : mO → mH → Prop} {pc : Nat} {L : List (Option Value)} {st : List Value} {h : mH} {bc bs : Nat}
theorem mCode_ok (M : mM) : mOk (mCode M) = true := by
  simp only [mCode]
  split <;> rfl
theorem mPc_blind {ad : Nat → Nat} {as : List Value} : FrameBlind (mPc X ad as h) := fun a U g mk q => ⟨q.1, q.2.1.moved (U := U.calling g mk a) (State.WarmedH.refl U), q.2.2⟩
theorem mPc_pre {s : State} {H : Heap} {locs : List Loc} {ad : Nat → Nat} {as : List Value} (hE : mEnv X s s.heap) (hS : va_S (mB X) s.heap H locs) (hW : mWd X ad h H) : ∀ U : State, U.heap = H → s.WarmedH U.vm → mPc X ad as h (as.map (mV ad)).toArray U := fun U hU hv => ⟨rfl, by rw [hU]; exact (hE.kept hS.1 hS.2.1).moved hv, by rw [hU]; exact hW⟩
/-- a callee that doesn't throw -/
theorem mMet {d2 : Nat} {M2 : mM} {as : List Value} {Q2 : mO → mH → Prop} (hE : mEv X d2 M2 as h Q2) (hno : ∀ (n : Nat) (h1 : mH), Q2 (.inr n) h1 → False) (ad : Nat → Nat) : Met X.1 M2.1 [mCode M2] (mRm d2 M2) (mPc X ad as h) (mQc X ad h.length Q2) M2.2.2.2.2.2.2.1 M2.2.2.2.2.2.2.2 (mB X) := by
  intro p e h1 h2 h3 s m args below h4 h5 h6 h7
  obtain ⟨n, o, g1, g2, g3, g4⟩ := hE ad p e h1 h2 h3 s m args below h4 h5 h6 h7
  refine ⟨n, o, g1, g2, g3, ?_⟩
  rcases g4 with g4 | ⟨q, -, E, ce, Lx, ⟨k, ad1, hh, -, hq, -⟩, -⟩
  · exact g4
  · exact (hno k hh hq).elim
theorem mCat {ad : Nat → Nat} (hst : (st.map fun v => v.category).sum ≤ 8) : ((st.map (mV ad)).map fun v => v.category).sum ≤ 8 := by
  rw [List.map_map]
  simpa [Function.comp_def, mV_cat] using hst
theorem mRecv {s : State} {H : Heap} {ad : Nat → Nat} {k ci : Nat} {fs : List Value} {C : String} (hE : mEnv X s s.heap) (hW : mWd X ad h H) (hk : h[k]? = some (.inr (ci, fs))) (hC : mNm ci = C) : ∃ cellB : Cell, H[ad k]? = some cellB ∧ cellB.vm.isStatics = false ∧ s.vm.findClass C = some cellB.cls := by
  have he := mW_at (ad := ad) (dA := X.2.2.1) hk
  obtain ⟨r, hr, -⟩ := hW.1 k _ he
  obtain ⟨cell, g1, g2, g3⟩ := va_recv hE.2.1 hW.1 hr he
  exact ⟨cell, g1, g2, by rw [← hC, ← (mCls hr).2.2.2]; exact g3⟩
theorem wp_call0 {idx n d2 : Nat} {k : Nat} {fs : List Value} {M2 : mM} {as : List Value} {Q2 : mO → mH → Prop} (hn : mNm M.2.2.2.2.2.1 = M.1.cls) (hd : decode M.2.1 pc = .ok (.invokevirtual idx, 3)) (hq : mLk (mMt M.2.2.2.2.2.1) idx = some (0, n, M2)) (hlen : as.length = n) (hrec : h[k]? = some (.inr (M2.2.2.2.2.2.1, fs))) (hst : (st.map fun v => v.category).sum ≤ 8) (hd2 : d2 < d) (hmc : M2.2.2.2.2.2.2.1 ≤ bc) (hms : M2.2.2.2.2.2.2.2 ≤ bs) (hwf : mWfS h L st = true) (hEv : mEv X d2 M2 (.ref k :: as) h Q2) (k1 : ∀ (r : Option Value) (h1 : mH), Q2 (.inl r) h1 → mWP X M d Q (pc + 3) L (r.toList ++ st) h1 (bc - M2.2.2.2.2.2.2.1) (bs - M2.2.2.2.2.2.2.2)) (hh : M.2.2.2.2.1 = []) (kx : ∀ (n1 : Nat) (h1 : mH), Q2 (.inr n1) h1 → Q (.inr n1) h1) : mWP X M d Q pc L (as.reverse ++ .ref k :: st) h bc bs := by
  intro p e R s m args below meth c H locs cells slots ad a0 n0 ls F G hl
  have hE := F.2.2.2.2.2.2.2.2.1
  have hR := F.2.2.2.2.2.2.2.2.2
  have ho : s.vm.findClass (mNm M.2.2.2.2.2.1) = some m.cls := by rw [hn]; exact F.2.2.2.1
  obtain ⟨ix, hw⟩ := mMt_ok _ (mLk_mem hq)
  have hcd : mCode M2 ∈ lw_tbl := mMt_cd _ (mLk_mem hq)
  simp only [mMw, mYn, Bool.and_eq_true, decide_eq_true_eq] at hw
  obtain ⟨⟨⟨⟨⟨⟨⟨wi, wl⟩, w1⟩, w2⟩, ⟨⟨y1, y2⟩, y3⟩⟩, hC⟩, hh2⟩, hmL⟩ := hw
  have hsig : ∀ sig, parseMethodDescriptor M2.1.desc = some sig → n = sig.parameters.length := fun sig hs => by
    rw [hs] at y3
    exact (Option.some.inj y3).symm
  have hc9 : mCode M2 = .code M2.1 M2.2.1 M2.2.2.1 M2.2.2.2.1 := by simp only [mCode, hh2]
  have hws : ∀ w ∈ [mCode M2], ∀ (a' : Array Value) (U : State), s.WarmedH U.vm → w.before a' U = true := fun w hw a' U hU => by
    rw [List.mem_singleton] at hw
    subst hw
    exact mOk_keep hU (mCode_ok M2) (hE.word (a := args) hcd (mCode_ok M2))
  have hcw : Cond.code M2.1 M2.2.1 M2.2.2.1 M2.2.2.2.1 ∈ [mCode M2] := by rw [hc9]; exact List.mem_singleton.mpr rfl
  have hcb : (Cond.code M2.1 M2.2.1 M2.2.2.1 M2.2.2.2.1).before args s = true := by rw [← hc9]; exact hE.word hcd (mCode_ok M2)
  have hr1 : (mRm d2 M2).frames + 1 ≤ R.frames := by show 8 + d2 + 1 ≤ R.frames; omega
  have hr2 : 8 + (M2.2.2.1 + 11) + (mRm d2 M2).locals ≤ R.locals := by show 8 + (M2.2.2.1 + 11) + (200 + 48 * d2) ≤ R.locals; omega
  have hstk : (as.reverse ++ .ref k :: st).map (mV ad) = (as.map (mV ad)).reverse ++ .ref (ad k) :: st.map (mV ad) := by simp [mV]
  have hlen2 : (as.map (mV ad)).length = n := by rw [List.length_map]; exact hlen
  have hf : cells + M2.2.2.2.2.2.2.1 ≤ R.cells ∧ slots + M2.2.2.2.2.2.2.2 ≤ R.slots := ⟨by have := G.2.2.2.2.1; omega, by have := G.2.2.2.2.2; omega⟩
  have hrun := vx_runV (e := e) (below := below) (meth := meth) (locs := locs) (g := F0 m pc ls ((as.reverse ++ .ref k :: st).map (mV ad))) (As := as.map (mV ad)) (rest := st.map (mV ad)) (b := ad k) (C := M2.1.cls) (⟨F.1, F.2.1, F.2.2.1, ho, fun w h => by cases h⟩ : CallFix p m c M.2.1 M.2.2.1 s args [] (mNm M.2.2.2.2.2.1)) (hEv ad) ⟨⟨rfl, rfl, hr1, hr2, hws, hcw, hcb, hE.word (mIs_mem wi) rfl, ⟨y1, y2⟩, hsig, hE.word (mIs_mem wl) rfl⟩, hE.word (mIs_mem w1) rfl, hE.word (mIs_mem w2) rfl⟩ ⟨mPc_blind, mRecv hE G.1 hrec hC, mPc_pre hE G.2.1 G.1 (as := .ref k :: as)⟩ rfl hlen2 hl.1 hstk (lv_room (mCat hst)) hd hf
  exact mAfter F G hl hrun hmc hms hwf k1 (fun n1 h1 ad1 H1 locs1 q ce hQ1 G1 hce hcv hcl hl1 => mOut F hh (kx n1 h1 hQ1) G1 hce hcv hcl)
theorem wp_call1 {idx n d2 : Nat} {k : Nat} {fs : List Value} {M2 : mM} {as : List Value} {Q2 : mO → mH → Prop} (hn : mNm M.2.2.2.2.2.1 = M.1.cls) (hd : decode M.2.1 pc = .ok (.invokevirtual idx, 3)) (hq : mLk (mMt M.2.2.2.2.2.1) idx = some (1, n, M2)) (hlen : as.length = n) (hrec : h[k]? = some (.inr (M2.2.2.2.2.2.1, fs))) (hst : (st.map fun v => v.category).sum ≤ 8) (hd2 : d2 < d) (hmc : M2.2.2.2.2.2.2.1 ≤ bc) (hms : M2.2.2.2.2.2.2.2 ≤ bs) (hwf : mWfS h L st = true) (hEv : mEv X d2 M2 (.ref k :: as) h Q2) (k1 : ∀ (r : Option Value) (h1 : mH), Q2 (.inl r) h1 → mWP X M d Q (pc + 3) L (r.toList ++ st) h1 (bc - M2.2.2.2.2.2.2.1) (bs - M2.2.2.2.2.2.2.2)) (kx : ∀ (n1 : Nat) (h1 : mH), Q2 (.inr n1) h1 → False) : mWP X M d Q pc L (as.reverse ++ .ref k :: st) h bc bs := by
  intro p e R s m args below meth c H locs cells slots ad a0 n0 ls F G hl
  have hE := F.2.2.2.2.2.2.2.2.1
  have hR := F.2.2.2.2.2.2.2.2.2
  have ho : s.vm.findClass (mNm M.2.2.2.2.2.1) = some m.cls := by rw [hn]; exact F.2.2.2.1
  obtain ⟨ix, hw⟩ := mMt_ok _ (mLk_mem hq)
  have hcd : mCode M2 ∈ lw_tbl := mMt_cd _ (mLk_mem hq)
  simp only [mMw, mYn, Bool.and_eq_true, decide_eq_true_eq] at hw
  obtain ⟨⟨⟨⟨⟨⟨⟨wi, wl⟩, w1⟩, w2⟩, ⟨⟨y1, y2⟩, y3⟩⟩, hC⟩, hh2⟩, hmL⟩ := hw
  have hsig : ∀ sig, parseMethodDescriptor M2.1.desc = some sig → n = sig.parameters.length := fun sig hs => by
    rw [hs] at y3
    exact (Option.some.inj y3).symm
  have hc9 : mCode M2 = .code M2.1 M2.2.1 M2.2.2.1 M2.2.2.2.1 := by simp only [mCode, hh2]
  have hws : ∀ w ∈ [mCode M2], ∀ (a' : Array Value) (U : State), s.WarmedH U.vm → w.before a' U = true := fun w hw a' U hU => by
    rw [List.mem_singleton] at hw
    subst hw
    exact mOk_keep hU (mCode_ok M2) (hE.word (a := args) hcd (mCode_ok M2))
  have hcw : Cond.code M2.1 M2.2.1 M2.2.2.1 M2.2.2.2.1 ∈ [mCode M2] := by rw [hc9]; exact List.mem_singleton.mpr rfl
  have hcb : (Cond.code M2.1 M2.2.1 M2.2.2.1 M2.2.2.2.1).before args s = true := by rw [← hc9]; exact hE.word hcd (mCode_ok M2)
  have hr1 : (mRm d2 M2).frames + 1 ≤ R.frames := by show 8 + d2 + 1 ≤ R.frames; omega
  have hr2 : 8 + (M2.2.2.1 + 11) + (mRm d2 M2).locals ≤ R.locals := by show 8 + (M2.2.2.1 + 11) + (200 + 48 * d2) ≤ R.locals; omega
  have hstk : (as.reverse ++ .ref k :: st).map (mV ad) = (as.map (mV ad)).reverse ++ .ref (ad k) :: st.map (mV ad) := by simp [mV]
  have hlen2 : (as.map (mV ad)).length = n := by rw [List.length_map]; exact hlen
  have hf : cells + M2.2.2.2.2.2.2.1 ≤ R.cells ∧ slots + M2.2.2.2.2.2.2.2 ≤ R.slots := ⟨by have := G.2.2.2.2.1; omega, by have := G.2.2.2.2.2; omega⟩
  have hrun := va_runVN (e := e) (below := below) (meth := meth) (locs := locs) (g := F0 m pc ls ((as.reverse ++ .ref k :: st).map (mV ad))) (As := as.map (mV ad)) (rest := st.map (mV ad)) (b := ad k) (C := M2.1.cls) (host := "SugarDice") (⟨F.1, F.2.1, F.2.2.1, ho, fun w h => by cases h⟩ : CallFix p m c M.2.1 M.2.2.1 s args [] (mNm M.2.2.2.2.2.1)) (mMet hEv kx ad) ⟨⟨⟨rfl, rfl, hr1, hr2, hws, hcw⟩, hcb, hE.word (mIs_mem wi) rfl, ⟨y1, y2⟩, hsig, hE.word (mIs_mem wl) rfl⟩, hE.word (mIs_mem w1) rfl, hE.word (mIs_mem w2) rfl⟩ ⟨mPc_blind, mRecv hE G.1 hrec hC, mPc_pre hE G.2.1 G.1 (as := .ref k :: as)⟩ rfl hlen2 hl.1 hstk (lv_room (mCat hst)) hd hf
  exact mAfter F G hl (Q2 := Q2) (fun T hT Xs => Or.inl (hrun T hT Xs)) hmc hms hwf k1 (fun n1 h1 ad1 H1 locs1 q ce hQ1 G1 hce hcv hcl hl1 => (kx n1 h1 hQ1).elim)
theorem wp_call2 {idx n d2 : Nat} {M2 : mM} {as : List Value} {Q2 : mO → mH → Prop} (hn : mNm M.2.2.2.2.2.1 = M.1.cls) (hd : decode M.2.1 pc = .ok (.invokestatic idx, 3)) (hq : mLk (mMt M.2.2.2.2.2.1) idx = some (2, n, M2)) (hlen : as.length = n) (hst : (st.map fun v => v.category).sum ≤ 8) (hd2 : d2 < d) (hmc : M2.2.2.2.2.2.2.1 ≤ bc) (hms : M2.2.2.2.2.2.2.2 ≤ bs) (hwf : mWfS h L st = true) (hEv : mEv X d2 M2 as h Q2) (k1 : ∀ (r : Option Value) (h1 : mH), Q2 (.inl r) h1 → mWP X M d Q (pc + 3) L (r.toList ++ st) h1 (bc - M2.2.2.2.2.2.2.1) (bs - M2.2.2.2.2.2.2.2)) (hh : M.2.2.2.2.1 = []) (kx : ∀ (n1 : Nat) (h1 : mH), Q2 (.inr n1) h1 → Q (.inr n1) h1) : mWP X M d Q pc L (as.reverse ++ st) h bc bs := by
  intro p e R s m args below meth c H locs cells slots ad a0 n0 ls F G hl
  have hE := F.2.2.2.2.2.2.2.2.1
  have hR := F.2.2.2.2.2.2.2.2.2
  have ho : s.vm.findClass (mNm M.2.2.2.2.2.1) = some m.cls := by rw [hn]; exact F.2.2.2.1
  obtain ⟨ix, hw⟩ := mMt_ok _ (mLk_mem hq)
  have hcd : mCode M2 ∈ lw_tbl := mMt_cd _ (mLk_mem hq)
  simp only [mMw, mYn, Bool.and_eq_true, decide_eq_true_eq] at hw
  obtain ⟨⟨⟨⟨⟨wi, wl⟩, w1⟩, ⟨⟨y1, y2⟩, y3⟩⟩, hh2⟩, hmL⟩ := hw
  have hsig : ∀ sig, parseMethodDescriptor M2.1.desc = some sig → n = sig.parameters.length := fun sig hs => by
    rw [hs] at y3
    exact (Option.some.inj y3).symm
  have hc9 : mCode M2 = .code M2.1 M2.2.1 M2.2.2.1 M2.2.2.2.1 := by simp only [mCode, hh2]
  have hws : ∀ w ∈ [mCode M2], ∀ (a' : Array Value) (U : State), s.WarmedH U.vm → w.before a' U = true := fun w hw a' U hU => by
    rw [List.mem_singleton] at hw
    subst hw
    exact mOk_keep hU (mCode_ok M2) (hE.word (a := args) hcd (mCode_ok M2))
  have hcw : Cond.code M2.1 M2.2.1 M2.2.2.1 M2.2.2.2.1 ∈ [mCode M2] := by rw [hc9]; exact List.mem_singleton.mpr rfl
  have hcb : (Cond.code M2.1 M2.2.1 M2.2.2.1 M2.2.2.2.1).before args s = true := by rw [← hc9]; exact hE.word hcd (mCode_ok M2)
  have hr1 : (mRm d2 M2).frames + 1 ≤ R.frames := by show 8 + d2 + 1 ≤ R.frames; omega
  have hr2 : 8 + (M2.2.2.1 + 11) + (mRm d2 M2).locals ≤ R.locals := by show 8 + (M2.2.2.1 + 11) + (200 + 48 * d2) ≤ R.locals; omega
  have hstk : (as.reverse ++ st).map (mV ad) = (as.map (mV ad)).reverse ++ st.map (mV ad) := by simp
  have hlen2 : (as.map (mV ad)).length = n := by rw [List.length_map]; exact hlen
  have hf : cells + M2.2.2.2.2.2.2.1 ≤ R.cells ∧ slots + M2.2.2.2.2.2.2.2 ≤ R.slots := ⟨by have := G.2.2.2.2.1; omega, by have := G.2.2.2.2.2; omega⟩
  have hrun := vx_runS (e := e) (below := below) (meth := meth) (locs := locs) (g := F0 m pc ls ((as.reverse ++ st).map (mV ad))) (As := as.map (mV ad)) (rest := st.map (mV ad)) (⟨F.1, F.2.1, F.2.2.1, ho, fun w h => by cases h⟩ : CallFix p m c M.2.1 M.2.2.1 s args [] (mNm M.2.2.2.2.2.1)) (hEv ad) ⟨⟨rfl, rfl, hr1, hr2, hws, hcw, hcb, hE.word (mIs_mem wi) rfl, ⟨y1, y2⟩, hsig, hE.word (mIs_mem wl) rfl⟩, hE.word (mIs_mem w1) rfl⟩ ⟨mPc_blind, mPc_pre hE G.2.1 G.1 (as := as)⟩ rfl hlen2 hl.1 hstk (lv_room (mCat hst)) hd hf
  exact mAfter F G hl hrun hmc hms hwf k1 (fun n1 h1 ad1 H1 locs1 q ce hQ1 G1 hce hcv hcl hl1 => mOut F hh (kx n1 h1 hQ1) G1 hce hcv hcl)
theorem wp_call3 {idx n d2 : Nat} {M2 : mM} {as : List Value} {Q2 : mO → mH → Prop} (hn : mNm M.2.2.2.2.2.1 = M.1.cls) (hd : decode M.2.1 pc = .ok (.invokestatic idx, 3)) (hq : mLk (mMt M.2.2.2.2.2.1) idx = some (3, n, M2)) (hlen : as.length = n) (hst : (st.map fun v => v.category).sum ≤ 8) (hd2 : d2 < d) (hmc : M2.2.2.2.2.2.2.1 ≤ bc) (hms : M2.2.2.2.2.2.2.2 ≤ bs) (hwf : mWfS h L st = true) (hEv : mEv X d2 M2 as h Q2) (k1 : ∀ (r : Option Value) (h1 : mH), Q2 (.inl r) h1 → mWP X M d Q (pc + 3) L (r.toList ++ st) h1 (bc - M2.2.2.2.2.2.2.1) (bs - M2.2.2.2.2.2.2.2)) (kx : ∀ (n1 : Nat) (h1 : mH), Q2 (.inr n1) h1 → False) : mWP X M d Q pc L (as.reverse ++ st) h bc bs := by
  intro p e R s m args below meth c H locs cells slots ad a0 n0 ls F G hl
  have hE := F.2.2.2.2.2.2.2.2.1
  have hR := F.2.2.2.2.2.2.2.2.2
  have ho : s.vm.findClass (mNm M.2.2.2.2.2.1) = some m.cls := by rw [hn]; exact F.2.2.2.1
  obtain ⟨ix, hw⟩ := mMt_ok _ (mLk_mem hq)
  have hcd : mCode M2 ∈ lw_tbl := mMt_cd _ (mLk_mem hq)
  simp only [mMw, mYn, Bool.and_eq_true, decide_eq_true_eq] at hw
  obtain ⟨⟨⟨⟨⟨wi, wl⟩, w1⟩, ⟨⟨y1, y2⟩, y3⟩⟩, hh2⟩, hmL⟩ := hw
  have hsig : ∀ sig, parseMethodDescriptor M2.1.desc = some sig → n = sig.parameters.length := fun sig hs => by
    rw [hs] at y3
    exact (Option.some.inj y3).symm
  have hc9 : mCode M2 = .code M2.1 M2.2.1 M2.2.2.1 M2.2.2.2.1 := by simp only [mCode, hh2]
  have hws : ∀ w ∈ [mCode M2], ∀ (a' : Array Value) (U : State), s.WarmedH U.vm → w.before a' U = true := fun w hw a' U hU => by
    rw [List.mem_singleton] at hw
    subst hw
    exact mOk_keep hU (mCode_ok M2) (hE.word (a := args) hcd (mCode_ok M2))
  have hcw : Cond.code M2.1 M2.2.1 M2.2.2.1 M2.2.2.2.1 ∈ [mCode M2] := by rw [hc9]; exact List.mem_singleton.mpr rfl
  have hcb : (Cond.code M2.1 M2.2.1 M2.2.2.1 M2.2.2.2.1).before args s = true := by rw [← hc9]; exact hE.word hcd (mCode_ok M2)
  have hr1 : (mRm d2 M2).frames + 1 ≤ R.frames := by show 8 + d2 + 1 ≤ R.frames; omega
  have hr2 : 8 + (M2.2.2.1 + 11) + (mRm d2 M2).locals ≤ R.locals := by show 8 + (M2.2.2.1 + 11) + (200 + 48 * d2) ≤ R.locals; omega
  have hstk : (as.reverse ++ st).map (mV ad) = (as.map (mV ad)).reverse ++ st.map (mV ad) := by simp
  have hlen2 : (as.map (mV ad)).length = n := by rw [List.length_map]; exact hlen
  have hf : cells + M2.2.2.2.2.2.2.1 ≤ R.cells ∧ slots + M2.2.2.2.2.2.2.2 ≤ R.slots := ⟨by have := G.2.2.2.2.1; omega, by have := G.2.2.2.2.2; omega⟩
  have hrun := va_runSN (e := e) (below := below) (meth := meth) (locs := locs) (g := F0 m pc ls ((as.reverse ++ st).map (mV ad))) (As := as.map (mV ad)) (rest := st.map (mV ad)) (host := "SugarDice") (⟨F.1, F.2.1, F.2.2.1, ho, fun w h => by cases h⟩ : CallFix p m c M.2.1 M.2.2.1 s args [] (mNm M.2.2.2.2.2.1)) (mMet hEv kx ad) ⟨⟨⟨rfl, rfl, hr1, hr2, hws, hcw⟩, hcb, hE.word (mIs_mem wi) rfl, ⟨y1, y2⟩, hsig, hE.word (mIs_mem wl) rfl⟩, hE.word (mIs_mem w1) rfl, trivial⟩ ⟨mPc_blind, mPc_pre hE G.2.1 G.1 (as := as)⟩ rfl hlen2 hl.1 hstk (lv_room (mCat hst)) hd hf
  exact mAfter F G hl (Q2 := Q2) (fun T hT Xs => Or.inl (hrun T hT Xs)) hmc hms hwf k1 (fun n1 h1 ad1 H1 locs1 q ce hQ1 G1 hce hcv hcl hl1 => (kx n1 h1 hQ1).elim)
theorem wp_call4 {idx n d2 : Nat} {k : Nat} {M2 : mM} {as : List Value} {Q2 : mO → mH → Prop} (hn : mNm M.2.2.2.2.2.1 = M.1.cls) (hd : decode M.2.1 pc = .ok (.invokespecial idx, 3)) (hq : mLk (mMt M.2.2.2.2.2.1) idx = some (4, n, M2)) (hlen : as.length = n) (hst : (st.map fun v => v.category).sum ≤ 8) (hd2 : d2 < d) (hmc : M2.2.2.2.2.2.2.1 ≤ bc) (hms : M2.2.2.2.2.2.2.2 ≤ bs) (hwf : mWfS h L st = true) (hEv : mEv X d2 M2 (.ref k :: as) h Q2) (k1 : ∀ (r : Option Value) (h1 : mH), Q2 (.inl r) h1 → mWP X M d Q (pc + 3) L (r.toList ++ st) h1 (bc - M2.2.2.2.2.2.2.1) (bs - M2.2.2.2.2.2.2.2)) (kx : ∀ (n1 : Nat) (h1 : mH), Q2 (.inr n1) h1 → False) : mWP X M d Q pc L (as.reverse ++ .ref k :: st) h bc bs := by
  intro p e R s m args below meth c H locs cells slots ad a0 n0 ls F G hl
  have hE := F.2.2.2.2.2.2.2.2.1
  have hR := F.2.2.2.2.2.2.2.2.2
  have ho : s.vm.findClass (mNm M.2.2.2.2.2.1) = some m.cls := by rw [hn]; exact F.2.2.2.1
  obtain ⟨ix, hw⟩ := mMt_ok _ (mLk_mem hq)
  have hcd : mCode M2 ∈ lw_tbl := mMt_cd _ (mLk_mem hq)
  simp only [mMw, mYn, Bool.and_eq_true, decide_eq_true_eq] at hw
  obtain ⟨⟨⟨⟨⟨⟨⟨wi, wl⟩, w1⟩, ⟨⟨y1, y2⟩, y3⟩⟩, hin⟩, hret⟩, hh2⟩, hmL⟩ := hw
  have hsig : ∀ sig, parseMethodDescriptor M2.1.desc = some sig → n = sig.parameters.length := fun sig hs => by
    rw [hs] at y3
    exact (Option.some.inj y3).symm
  have hc9 : mCode M2 = .code M2.1 M2.2.1 M2.2.2.1 M2.2.2.2.1 := by simp only [mCode, hh2]
  have hws : ∀ w ∈ [mCode M2], ∀ (a' : Array Value) (U : State), s.WarmedH U.vm → w.before a' U = true := fun w hw a' U hU => by
    rw [List.mem_singleton] at hw
    subst hw
    exact mOk_keep hU (mCode_ok M2) (hE.word (a := args) hcd (mCode_ok M2))
  have hcw : Cond.code M2.1 M2.2.1 M2.2.2.1 M2.2.2.2.1 ∈ [mCode M2] := by rw [hc9]; exact List.mem_singleton.mpr rfl
  have hcb : (Cond.code M2.1 M2.2.1 M2.2.2.1 M2.2.2.2.1).before args s = true := by rw [← hc9]; exact hE.word hcd (mCode_ok M2)
  have hr1 : (mRm d2 M2).frames + 1 ≤ R.frames := by show 8 + d2 + 1 ≤ R.frames; omega
  have hr2 : 8 + (M2.2.2.1 + 11) + (mRm d2 M2).locals ≤ R.locals := by show 8 + (M2.2.2.1 + 11) + (200 + 48 * d2) ≤ R.locals; omega
  have hstk : (as.reverse ++ .ref k :: st).map (mV ad) = (as.map (mV ad)).reverse ++ .ref (ad k) :: st.map (mV ad) := by simp [mV]
  have hlen2 : (as.map (mV ad)).length = n := by rw [List.length_map]; exact hlen
  have hf : cells + M2.2.2.2.2.2.2.1 ≤ R.cells ∧ slots + M2.2.2.2.2.2.2.2 ≤ R.slots := ⟨by have := G.2.2.2.2.1; omega, by have := G.2.2.2.2.2; omega⟩
  rw [hret] at hcw hcb
  have hrun := va_runI (e := e) (below := below) (meth := meth) (locs := locs) (g := F0 m pc ls ((as.reverse ++ .ref k :: st).map (mV ad))) (As := as.map (mV ad)) (rest := st.map (mV ad)) (b := ad k) (⟨F.1, F.2.1, F.2.2.1, ho, fun w h => by cases h⟩ : CallFix p m c M.2.1 M.2.2.1 s args [] (mNm M.2.2.2.2.2.1)) (mMet hEv kx ad) ⟨⟨rfl, rfl, hr1, hr2, hws, hcw, hcb, hE.word (mIs_mem wi) rfl, ⟨y1, y2⟩, hsig, hE.word (mIs_mem wl) rfl⟩, hin, hE.word (mIs_mem w1) rfl⟩ ⟨mPc_blind, mPc_pre hE G.2.1 G.1 (as := .ref k :: as)⟩ rfl hlen2 hl.1 hstk (lv_room (mCat hst)) hd hf
  exact mAfter F G hl (Q2 := Q2) (fun T hT Xs => Or.inl (hrun T hT Xs)) hmc hms hwf k1 (fun n1 h1 ad1 H1 locs1 q ce hQ1 G1 hce hcv hcl hl1 => (kx n1 h1 hQ1).elim)
theorem wp_call5 {idx n d2 : Nat} {k : Nat} {M2 : mM} {as : List Value} {Q2 : mO → mH → Prop} (hn : mNm M.2.2.2.2.2.1 = M.1.cls) (hd : decode M.2.1 pc = .ok (.invokespecial idx, 3)) (hq : mLk (mMt M.2.2.2.2.2.1) idx = some (5, n, M2)) (hlen : as.length = n) (hst : (st.map fun v => v.category).sum ≤ 8) (hd2 : d2 < d) (hmc : M2.2.2.2.2.2.2.1 ≤ bc) (hms : M2.2.2.2.2.2.2.2 ≤ bs) (hwf : mWfS h L st = true) (hEv : mEv X d2 M2 (.ref k :: as) h Q2) (k1 : ∀ (r : Option Value) (h1 : mH), Q2 (.inl r) h1 → mWP X M d Q (pc + 3) L (r.toList ++ st) h1 (bc - M2.2.2.2.2.2.2.1) (bs - M2.2.2.2.2.2.2.2)) (kx : ∀ (n1 : Nat) (h1 : mH), Q2 (.inr n1) h1 → False) : mWP X M d Q pc L (as.reverse ++ .ref k :: st) h bc bs := by
  intro p e R s m args below meth c H locs cells slots ad a0 n0 ls F G hl
  have hE := F.2.2.2.2.2.2.2.2.1
  have hR := F.2.2.2.2.2.2.2.2.2
  have ho : s.vm.findClass (mNm M.2.2.2.2.2.1) = some m.cls := by rw [hn]; exact F.2.2.2.1
  obtain ⟨ix, hw⟩ := mMt_ok _ (mLk_mem hq)
  have hcd : mCode M2 ∈ lw_tbl := mMt_cd _ (mLk_mem hq)
  simp only [mMw, mYn, Bool.and_eq_true, decide_eq_true_eq] at hw
  obtain ⟨⟨⟨⟨⟨⟨⟨wi, wl⟩, w1⟩, ⟨⟨y1, y2⟩, y3⟩⟩, hin⟩, hret⟩, hh2⟩, hmL⟩ := hw
  have hsig : ∀ sig, parseMethodDescriptor M2.1.desc = some sig → n = sig.parameters.length := fun sig hs => by
    rw [hs] at y3
    exact (Option.some.inj y3).symm
  have hc9 : mCode M2 = .code M2.1 M2.2.1 M2.2.2.1 M2.2.2.2.1 := by simp only [mCode, hh2]
  have hws : ∀ w ∈ [mCode M2], ∀ (a' : Array Value) (U : State), s.WarmedH U.vm → w.before a' U = true := fun w hw a' U hU => by
    rw [List.mem_singleton] at hw
    subst hw
    exact mOk_keep hU (mCode_ok M2) (hE.word (a := args) hcd (mCode_ok M2))
  have hcw : Cond.code M2.1 M2.2.1 M2.2.2.1 M2.2.2.2.1 ∈ [mCode M2] := by rw [hc9]; exact List.mem_singleton.mpr rfl
  have hcb : (Cond.code M2.1 M2.2.1 M2.2.2.1 M2.2.2.2.1).before args s = true := by rw [← hc9]; exact hE.word hcd (mCode_ok M2)
  have hr1 : (mRm d2 M2).frames + 1 ≤ R.frames := by show 8 + d2 + 1 ≤ R.frames; omega
  have hr2 : 8 + (M2.2.2.1 + 11) + (mRm d2 M2).locals ≤ R.locals := by show 8 + (M2.2.2.1 + 11) + (200 + 48 * d2) ≤ R.locals; omega
  have hstk : (as.reverse ++ .ref k :: st).map (mV ad) = (as.map (mV ad)).reverse ++ .ref (ad k) :: st.map (mV ad) := by simp [mV]
  have hlen2 : (as.map (mV ad)).length = n := by rw [List.length_map]; exact hlen
  have hf : cells + M2.2.2.2.2.2.2.1 ≤ R.cells ∧ slots + M2.2.2.2.2.2.2.2 ≤ R.slots := ⟨by have := G.2.2.2.2.1; omega, by have := G.2.2.2.2.2; omega⟩
  rw [hret] at hcw hcb
  have hrun := va_runIN (e := e) (below := below) (meth := meth) (locs := locs) (g := F0 m pc ls ((as.reverse ++ .ref k :: st).map (mV ad))) (As := as.map (mV ad)) (rest := st.map (mV ad)) (b := ad k) (host := "SugarDice") (⟨F.1, F.2.1, F.2.2.1, ho, fun w h => by cases h⟩ : CallFix p m c M.2.1 M.2.2.1 s args [] (mNm M.2.2.2.2.2.1)) (mMet hEv kx ad) ⟨⟨⟨rfl, rfl, hr1, hr2, hws, hcw⟩, hcb, hE.word (mIs_mem wi) rfl, ⟨y1, y2⟩, hsig, hE.word (mIs_mem wl) rfl⟩, hin, hE.word (mIs_mem w1) rfl⟩ ⟨mPc_blind, mPc_pre hE G.2.1 G.1 (as := .ref k :: as)⟩ rfl hlen2 hl.1 hstk (lv_room (mCat hst)) hd hf
  exact mAfter F G hl (Q2 := Q2) (fun T hT Xs => Or.inl (hrun T hT Xs)) hmc hms hwf k1 (fun n1 h1 ad1 H1 locs1 q ce hQ1 G1 hce hcv hcl hl1 => (kx n1 h1 hQ1).elim)
theorem wp_call8 {idx n d2 : Nat} {M2 : mM} {as : List Value} {Q2 : mO → mH → Prop} (hn : mNm M.2.2.2.2.2.1 = M.1.cls) (hd : decode M.2.1 pc = .ok (.invokestatic idx, 3)) (hq : mLk (mMt M.2.2.2.2.2.1) idx = some (8, n, M2)) (hlen : as.length = n) (hst : (st.map fun v => v.category).sum ≤ 8) (hd2 : d2 < d) (hmc : M2.2.2.2.2.2.2.1 ≤ bc) (hms : M2.2.2.2.2.2.2.2 ≤ bs) (hwf : mWfS h L st = true) (hEv : mEv X d2 M2 as h Q2) (k1 : ∀ (r : Option Value) (h1 : mH), Q2 (.inl r) h1 → mWP X M d Q (pc + 3) L (r.toList ++ st) h1 (bc - M2.2.2.2.2.2.2.1) (bs - M2.2.2.2.2.2.2.2)) (kx : ∀ (n1 : Nat) (h1 : mH), Q2 (.inr n1) h1 → False) : mWP X M d Q pc L (as.reverse ++ st) h bc bs := by
  intro p e R s m args below meth c H locs cells slots ad a0 n0 ls F G hl
  have hE := F.2.2.2.2.2.2.2.2.1
  have hR := F.2.2.2.2.2.2.2.2.2
  have ho : s.vm.findClass (mNm M.2.2.2.2.2.1) = some m.cls := by rw [hn]; exact F.2.2.2.1
  obtain ⟨ix, hw⟩ := mMt_ok _ (mLk_mem hq)
  have hcd : mCode M2 ∈ lw_tbl := mMt_cd _ (mLk_mem hq)
  simp only [mMw, mYn, Bool.and_eq_true, decide_eq_true_eq] at hw
  obtain ⟨⟨⟨⟨⟨wi, wl⟩, w1⟩, ⟨⟨y1, y2⟩, y3⟩⟩, hh2⟩, hmL⟩ := hw
  have hsig : ∀ sig, parseMethodDescriptor M2.1.desc = some sig → n = sig.parameters.length := fun sig hs => by
    rw [hs] at y3
    exact (Option.some.inj y3).symm
  have hc9 : mCode M2 = .codeWith M2.1 M2.2.1 M2.2.2.1 M2.2.2.2.1 M2.2.2.2.2.1 := by
    simp only [mCode]
  have hws : ∀ w ∈ [mCode M2], ∀ (a' : Array Value) (U : State), s.WarmedH U.vm → w.before a' U = true := fun w hw a' U hU => by
    rw [List.mem_singleton] at hw
    subst hw
    exact mOk_keep hU (mCode_ok M2) (hE.word (a := args) hcd (mCode_ok M2))
  have hcw : Cond.codeWith M2.1 M2.2.1 M2.2.2.1 M2.2.2.2.1 M2.2.2.2.2.1 ∈ [mCode M2] := by rw [hc9]; exact List.mem_singleton.mpr rfl
  have hcb : (Cond.codeWith M2.1 M2.2.1 M2.2.2.1 M2.2.2.2.1 M2.2.2.2.2.1).before args s = true := by rw [← hc9]; exact hE.word hcd (mCode_ok M2)
  have hr1 : (mRm d2 M2).frames + 1 ≤ R.frames := by show 8 + d2 + 1 ≤ R.frames; omega
  have hr2 : 8 + (M2.2.2.1 + 11) + (mRm d2 M2).locals ≤ R.locals := by show 8 + (M2.2.2.1 + 11) + (200 + 48 * d2) ≤ R.locals; omega
  have hstk : (as.reverse ++ st).map (mV ad) = (as.map (mV ad)).reverse ++ st.map (mV ad) := by simp
  have hlen2 : (as.map (mV ad)).length = n := by rw [List.length_map]; exact hlen
  have hf : cells + M2.2.2.2.2.2.2.1 ≤ R.cells ∧ slots + M2.2.2.2.2.2.2.2 ≤ R.slots := ⟨by have := G.2.2.2.2.1; omega, by have := G.2.2.2.2.2; omega⟩
  have hrun := vx_runSW (e := e) (below := below) (meth := meth) (locs := locs) (g := F0 m pc ls ((as.reverse ++ st).map (mV ad))) (As := as.map (mV ad)) (rest := st.map (mV ad)) (hh := M2.2.2.2.2.1) (⟨F.1, F.2.1, F.2.2.1, ho, fun w h => by cases h⟩ : CallFix p m c M.2.1 M.2.2.1 s args [] (mNm M.2.2.2.2.2.1)) (mMet hEv kx ad) ⟨⟨rfl, rfl, hr1, hr2, hws, hcw⟩, hcb, hE.word (mIs_mem wi) rfl, ⟨y1, y2⟩, hsig, hE.word (mIs_mem wl) rfl, hE.word (mIs_mem w1) rfl⟩ ⟨mPc_blind, mPc_pre hE G.2.1 G.1 (as := as)⟩ rfl hlen2 hl.1 hstk (lv_room (mCat hst)) hd hf
  exact mAfter F G hl (Q2 := Q2) (fun T hT Xs => Or.inl (hrun T hT Xs)) hmc hms hwf k1 (fun n1 h1 ad1 H1 locs1 q ce hQ1 G1 hce hcv hcl hl1 => (kx n1 h1 hQ1).elim)
/-- a call in a method with handlers: what comes back, or what the handler answers -/
theorem wp_callC {idx n d2 : Nat} {k : Nat} {fs : List Value} {M2 : mM} {as : List Value} {Q2 : mO → mH → Prop} (hn : mNm M.2.2.2.2.2.1 = M.1.cls) (hL : M.1.cls = RL) (hrt : M.2.2.2.1 = some .int) (hd : decode M.2.1 pc = .ok (.invokevirtual idx, 3)) (hq : mLk (mMt M.2.2.2.2.2.1) idx = some (0, n, M2)) (hlen : as.length = n) (hrec : h[k]? = some (.inr (M2.2.2.2.2.2.1, fs))) (hst : (st.map fun v => v.category).sum ≤ 8) (hd2 : d2 < d) (hmc : M2.2.2.2.2.2.2.1 ≤ bc) (hms : M2.2.2.2.2.2.2.2 ≤ bs) (hwf : mWfS h L st = true) (hEv : mEv X d2 M2 (.ref k :: as) h Q2) (k1 : ∀ (r : Option Value) (h1 : mH), Q2 (.inl r) h1 → mWP X M d Q (pc + 3) L (r.toList ++ st) h1 (bc - M2.2.2.2.2.2.2.1) (bs - M2.2.2.2.2.2.2.2))
    (kx : ∀ (n1 : Nat) (h1 : mH), Q2 (.inr n1) h1 → n1 < 4 ∧ ∃ (hp j : Nat) (v : Int), mHd pc n1 M.2.2.2.2.1 = some hp ∧ ((decode M.2.1 hp = .ok (.astore j, 2) ∧ decode M.2.1 (hp + 2) = .ok (.iconst v, 1) ∧ decode M.2.1 (hp + 3) = .ok (.ireturn, 1)) ∨ (∃ i : Fin 4, (i : Nat) = j ∧ decode M.2.1 hp = .ok (.astore_n i, 1) ∧ decode M.2.1 (hp + 1) = .ok (.iconst v, 1) ∧ decode M.2.1 (hp + 2) = .ok (.ireturn, 1))) ∧ j < M.2.2.1 ∧ Q (.inl (some (.int (Int32.ofInt v)))) h1) : mWP X M d Q pc L (as.reverse ++ .ref k :: st) h bc bs := by
  intro p e R s m args below meth c H locs cells slots ad a0 n0 ls F G hl
  have hE := F.2.2.2.2.2.2.2.2.1
  have hR := F.2.2.2.2.2.2.2.2.2
  have ho : s.vm.findClass (mNm M.2.2.2.2.2.1) = some m.cls := by rw [hn]; exact F.2.2.2.1
  obtain ⟨ix, hw⟩ := mMt_ok _ (mLk_mem hq)
  have hcd : mCode M2 ∈ lw_tbl := mMt_cd _ (mLk_mem hq)
  simp only [mMw, mYn, Bool.and_eq_true, decide_eq_true_eq] at hw
  obtain ⟨⟨⟨⟨⟨⟨⟨wi, wl⟩, w1⟩, w2⟩, ⟨⟨y1, y2⟩, y3⟩⟩, hC⟩, hh2⟩, hmL⟩ := hw
  have hsig : ∀ sig, parseMethodDescriptor M2.1.desc = some sig → n = sig.parameters.length := fun sig hs => by
    rw [hs] at y3
    exact (Option.some.inj y3).symm
  have hc9 : mCode M2 = .code M2.1 M2.2.1 M2.2.2.1 M2.2.2.2.1 := by simp only [mCode, hh2]
  have hws : ∀ w ∈ [mCode M2], ∀ (a' : Array Value) (U : State), s.WarmedH U.vm → w.before a' U = true := fun w hw a' U hU => by
    rw [List.mem_singleton] at hw
    subst hw
    exact mOk_keep hU (mCode_ok M2) (hE.word (a := args) hcd (mCode_ok M2))
  have hcw : Cond.code M2.1 M2.2.1 M2.2.2.1 M2.2.2.2.1 ∈ [mCode M2] := by rw [hc9]; exact List.mem_singleton.mpr rfl
  have hcb : (Cond.code M2.1 M2.2.1 M2.2.2.1 M2.2.2.2.1).before args s = true := by rw [← hc9]; exact hE.word hcd (mCode_ok M2)
  have hr1 : (mRm d2 M2).frames + 1 ≤ R.frames := by show 8 + d2 + 1 ≤ R.frames; omega
  have hr2 : 8 + (M2.2.2.1 + 11) + (mRm d2 M2).locals ≤ R.locals := by show 8 + (M2.2.2.1 + 11) + (200 + 48 * d2) ≤ R.locals; omega
  have hstk : (as.reverse ++ .ref k :: st).map (mV ad) = (as.map (mV ad)).reverse ++ .ref (ad k) :: st.map (mV ad) := by simp [mV]
  have hlen2 : (as.map (mV ad)).length = n := by rw [List.length_map]; exact hlen
  have hf : cells + M2.2.2.2.2.2.2.1 ≤ R.cells ∧ slots + M2.2.2.2.2.2.2.2 ≤ R.slots := ⟨by have := G.2.2.2.2.1; omega, by have := G.2.2.2.2.2; omega⟩
  have hrun := vx_runV (e := e) (below := below) (meth := meth) (locs := locs) (g := F0 m pc ls ((as.reverse ++ .ref k :: st).map (mV ad))) (As := as.map (mV ad)) (rest := st.map (mV ad)) (b := ad k) (C := M2.1.cls) (⟨F.1, F.2.1, F.2.2.1, ho, fun w h => by cases h⟩ : CallFix p m c M.2.1 M.2.2.1 s args [] (mNm M.2.2.2.2.2.1)) (hEv ad) ⟨⟨rfl, rfl, hr1, hr2, hws, hcw, hcb, hE.word (mIs_mem wi) rfl, ⟨y1, y2⟩, hsig, hE.word (mIs_mem wl) rfl⟩, hE.word (mIs_mem w1) rfl, hE.word (mIs_mem w2) rfl⟩ ⟨mPc_blind, mRecv hE G.1 hrec hC, mPc_pre hE G.2.1 G.1 (as := .ref k :: as)⟩ rfl hlen2 hl.1 hstk (lv_room (mCat hst)) hd hf
  exact mAfter F G hl hrun hmc hms hwf k1 (fun n1 h1 ad1 H1 locs1 q ce hQ1 G1 hce hcv hcl hl1 => by
    obtain ⟨hn1, hp, j, v, e1, e2, e3, e4⟩ := kx n1 h1 hQ1
    exact mCatch F hL hn1 e1 e2 e3 hrt e4 G1 hl1 hce hcv hcl)
theorem wp_mmin {idx : Nat} {x y : Int32} (hn : mNm M.2.2.2.2.2.1 = M.1.cls) (hd : decode M.2.1 pc = .ok (.invokestatic idx, 3)) (hw : Cond.methodLink (mNm M.2.2.2.2.2.1) idx Lib.Math.min.name ∈ lw_tbl) (hst : (st.map fun v => v.category).sum ≤ 8) (kk : mWP X M d Q (pc + 3) L (.int (if y < x then y else x) :: st) h bc bs) : mWP X M d Q pc L (.int y :: .int x :: st) h bc bs := by
  intro p e R s m args below meth c H locs cells slots ad a0 n0 ls F G hl
  have hE := F.2.2.2.2.2.2.2.2.1
  have hR := F.2.2.2.2.2.2.2.2.2
  have hc8 := mCat (ad := ad) hst
  have g5 := G.2.2.2.2.1
  have g6 := G.2.2.2.2.2
  exact va_mmin F.1 F.2.1 (by rw [F.2.2.1]; exact hl.1.symm) (by rw [hn]; exact F.2.2.2.1) (hE.word hw rfl) (hE.word (by decide +kernel) rfl) (hE.word (by decide +kernel) rfl) (hE.word (by decide +kernel) rfl) (by omega) (by omega) (by omega) (by omega) hd (kk p e R s m args below meth c H locs cells slots ad a0 n0 ls F G hl)
theorem wp_mmax {idx : Nat} {x y : Int32} (hn : mNm M.2.2.2.2.2.1 = M.1.cls) (hd : decode M.2.1 pc = .ok (.invokestatic idx, 3)) (hw : Cond.methodLink (mNm M.2.2.2.2.2.1) idx Lib.Math.max.name ∈ lw_tbl) (hst : (st.map fun v => v.category).sum ≤ 8) (kk : mWP X M d Q (pc + 3) L (.int (if x < y then y else x) :: st) h bc bs) : mWP X M d Q pc L (.int y :: .int x :: st) h bc bs := by
  intro p e R s m args below meth c H locs cells slots ad a0 n0 ls F G hl
  have hE := F.2.2.2.2.2.2.2.2.1
  have hR := F.2.2.2.2.2.2.2.2.2
  have hc8 := mCat (ad := ad) hst
  have g5 := G.2.2.2.2.1
  have g6 := G.2.2.2.2.2
  exact va_mmax F.1 F.2.1 (by rw [F.2.2.1]; exact hl.1.symm) (by rw [hn]; exact F.2.2.2.1) (hE.word hw rfl) (hE.word (by decide +kernel) rfl) (hE.word (by decide +kernel) rfl) (hE.word (by decide +kernel) rfl) (by omega) (by omega) (by omega) (by omega) hd (kk p e R s m args below meth c H locs cells slots ad a0 n0 ls F G hl)
theorem wp_mabs {idx : Nat} {x : Int32} (hn : mNm M.2.2.2.2.2.1 = M.1.cls) (hd : decode M.2.1 pc = .ok (.invokestatic idx, 3)) (hw : Cond.methodLink (mNm M.2.2.2.2.2.1) idx Lib.Math.abs.name ∈ lw_tbl) (hst : (st.map fun v => v.category).sum ≤ 8) (kk : mWP X M d Q (pc + 3) L (.int (if 0 ≤ x then x else 0 - x) :: st) h bc bs) : mWP X M d Q pc L (.int x :: st) h bc bs := by
  intro p e R s m args below meth c H locs cells slots ad a0 n0 ls F G hl
  have hE := F.2.2.2.2.2.2.2.2.1
  have hR := F.2.2.2.2.2.2.2.2.2
  have hc8 := mCat (ad := ad) hst
  have g5 := G.2.2.2.2.1
  have g6 := G.2.2.2.2.2
  exact va_mabs F.1 F.2.1 (by rw [F.2.2.1]; exact hl.1.symm) (by rw [hn]; exact F.2.2.2.1) (hE.word hw rfl) (hE.word (by decide +kernel) rfl) (hE.word (by decide +kernel) rfl) (hE.word (by decide +kernel) rfl) (by omega) (by omega) (by omega) (by omega) hd (kk p e R s m args below meth c H locs cells slots ad a0 n0 ls F G hl)
theorem wp_mmaxl {idx : Nat} {x y : Int64} (hn : mNm M.2.2.2.2.2.1 = M.1.cls) (hd : decode M.2.1 pc = .ok (.invokestatic idx, 3)) (hw : Cond.methodLink (mNm M.2.2.2.2.2.1) idx Lib.MathLoose.max_long.x ∈ lw_tbl) (hst : (st.map fun v => v.category).sum ≤ 8) (kk : mWP X M d Q (pc + 3) L (.long (if y < x then x else y) :: st) h bc bs) : mWP X M d Q pc L (.long y :: .long x :: st) h bc bs := by
  intro p e R s m args below meth c H locs cells slots ad a0 n0 ls F G hl
  have hE := F.2.2.2.2.2.2.2.2.1
  have hR := F.2.2.2.2.2.2.2.2.2
  have hc8 := mCat (ad := ad) hst
  have g5 := G.2.2.2.2.1
  have g6 := G.2.2.2.2.2
  exact va_mmax_long F.1 F.2.1 (by rw [F.2.2.1]; exact hl.1.symm) (by rw [hn]; exact F.2.2.2.1) (hE.word hw rfl) (hE.word (by decide +kernel) rfl) (hE.word (by decide +kernel) rfl) (hE.word (by decide +kernel) rfl) (by omega) (by omega) (by omega) (by omega) hd (kk p e R s m args below meth c H locs cells slots ad a0 n0 ls F G hl)
end mCa
end
section
/-! The small machine as a computation: what must hold at an instruction so that Q holds at the end. -/
/-- an instruction of a method: where the next one stands, and where it may jump -/
abbrev mI : Type := Instr × Nat × List Nat
abbrev mTb : Type := List (Nat × mI)
def mBr (c a b : Prop) : Prop := (c → a) ∧ (¬ c → b)
def mVc (c a : Prop) : Prop := c ∧ a
def mCl (X : mX) (d : Nat) (M2 : mM) (as : List Value) (h : mH) (K : mO → mH → Prop) : Prop := ∃ (d2 : Nat) (Q2 : mO → mH → Prop), d2 < d ∧ mEv X d2 M2 as h Q2 ∧ ∀ (o : mO) (h1 : mH), Q2 o h1 → K o h1
def mSwIn (x : Int32) (lo : Int) : List Nat → (Nat → Prop) → Prop
  | [], _ => True
  | t :: r, k => (x.toInt = lo → k t) ∧ mSwIn x (lo + 1) r k
def mSwL (x : Int32) : List (Int × Int) → List Nat → Prop → (Nat → Prop) → Prop
  | p :: ps, t :: ts, kd, k => mBr (x.toInt = p.1) (k t) (mSwL x ps ts kd k)
  | _, _, kd, _ => kd
def mPop : Nat → List Value → List Value → (List Value → List Value → Prop) → Prop
  | 0, st, acc, k => k acc st
  | n + 1, v :: st, acc, k => mPop n st (v :: acc) k
  | _ + 1, [], _, _ => False
def mCs (st : List Value) : Nat := match st with
  | [] => 0
  | v :: r => v.category + mCs r
abbrev mK : Type := Nat → List (Option Value) → List Value → mH → Nat → Nat → Prop
/-- what an exception E of a call asks for, by the kind of the call -/
def mXc (M : mM) (Q : mO → mH → Prop) (tb : mTb) (pc kd E : Nat) (h1 : mH) : Prop := match kd with
        | 0 => match M.2.2.2.2.1 with
          | [] => Q (.inr E) h1
          | _ :: _ => bif Nat.blt E 4 then (match mHd pc E M.2.2.2.2.1 with
            | some hp => match mLk tb hp with
              | some (.astore j, n1, _) => match mLk tb n1 with
                | some (.iconst v, n2, _) => match mLk tb n2 with
                  | some (.ireturn, _, _) => bif Nat.blt j M.2.2.1 then (match M.2.2.2.1 with
                    | some .int => Q (.inl (some (.int (Int32.ofInt v)))) h1
                    | _ => False) else False
                  | _ => False
                | _ => False
              | some (.astore_n j, n1, _) => match mLk tb n1 with
                | some (.iconst v, n2, _) => match mLk tb n2 with
                  | some (.ireturn, _, _) => bif Nat.blt j.val M.2.2.1 then (match M.2.2.2.1 with
                    | some .int => Q (.inl (some (.int (Int32.ofInt v)))) h1
                    | _ => False) else False
                  | _ => False
                | _ => False
              | _ => False
            | none => False) else False
        | 2 => match M.2.2.2.2.1 with
          | [] => Q (.inr E) h1
          | _ :: _ => False
        | _ => False
/-- the call of M2, its place and kind known; what comes back goes on with K -/
def mInv (X : mX) (M : mM) (d : Nat) (Q : mO → mH → Prop) (tb : mTb) (K : mK) (pc nx : Nat) (L : List (Option Value)) (h : mH) (bc bs : Nat) (kd : Nat) (M2 : mM) (as rest : List Value) : Prop :=
  bif Nat.ble (mCs rest) 8 && Nat.ble M2.2.2.2.2.2.2.1 bc && Nat.ble M2.2.2.2.2.2.2.2 bs && mWfS h L rest then
    mCl X d M2 as h (fun o h1 => match o with
      | .inl (some v) => K nx L (v :: rest) h1 (bc - M2.2.2.2.2.2.2.1) (bs - M2.2.2.2.2.2.2.2)
      | .inl none => K nx L rest h1 (bc - M2.2.2.2.2.2.2.1) (bs - M2.2.2.2.2.2.2.2)
      | .inr E => mXc M Q tb pc kd E h1)
  else False
/-- may the field be written here -/
def mFin (M : mM) (ci j : Nat) (nest : Bool) : Bool := match vwCl[ci]? with
  | some r => bif (r.2.1 j).2.2.2 then (!nest && decide (M.1.name = "<init>") && decide ((r.2.1 j).1 = mNm M.2.2.2.2.2.1)) else true
  | none => false
def mOp (X : mX) (M : mM) (d : Nat) (Q : mO → mH → Prop) (tb : mTb) (K : mK) (i : Instr) (nx : Nat) (tg : List Nat) (pc : Nat) (L : List (Option Value)) (st : List Value) (h : mH) (bc bs : Nat) : Prop :=
  match i with
  | .aload_n j => match L[j.val]? with
    | some (some (.ref x)) => K nx L (.ref x :: st) h bc bs
    | some (some .null) => K nx L (.null :: st) h bc bs
    | _ => False
  | .aload j => match L[j]? with
    | some (some (.ref x)) => K nx L (.ref x :: st) h bc bs
    | some (some .null) => K nx L (.null :: st) h bc bs
    | _ => False
  | .iload_n j => match L[j.val]? with
    | some (some (.int x)) => K nx L (.int x :: st) h bc bs
    | _ => False
  | .iload j => match L[j]? with
    | some (some (.int x)) => K nx L (.int x :: st) h bc bs
    | _ => False
  | .lload_n j => match L[j.val]? with
    | some (some (.long x)) => K nx L (.long x :: st) h bc bs
    | _ => False
  | .lload j => match L[j]? with
    | some (some (.long x)) => K nx L (.long x :: st) h bc bs
    | _ => False
  | .istore_n j => match st with
    | .int x :: r => bif Nat.blt j.val M.2.2.1 then K nx (mSt1 L j.val (.int x)) r h bc bs else False
    | _ => False
  | .istore j => match st with
    | .int x :: r => bif Nat.blt j M.2.2.1 then K nx (mSt1 L j (.int x)) r h bc bs else False
    | _ => False
  | .lstore_n j => match st with
    | .long x :: r => bif Nat.blt (j.val + 1) M.2.2.1 then K nx (mSt2 L j.val (.long x)) r h bc bs else False
    | _ => False
  | .lstore j => match st with
    | .long x :: r => bif Nat.blt (j + 1) M.2.2.1 then K nx (mSt2 L j (.long x)) r h bc bs else False
    | _ => False
  | .astore_n j => match st with
    | .ref x :: r => bif Nat.blt j.val M.2.2.1 then K nx (mSt1 L j.val (.ref x)) r h bc bs else False
    | _ => False
  | .astore j => match st with
    | .ref x :: r => bif Nat.blt j M.2.2.1 then K nx (mSt1 L j (.ref x)) r h bc bs else False
    | _ => False
  | .iinc j n => match L[j]? with
    | some (some (.int x)) => bif Nat.blt j M.2.2.1 then (match n with
      | .ofNat k => K nx (mSt1 L j (.int (x + nI k))) st h bc bs
      | .negSucc k => K nx (mSt1 L j (.int (x - nI (k + 1)))) st h bc bs) else False
    | _ => False
  | .iconst n => match n with
    | .ofNat k => K nx L (.int (nI k) :: st) h bc bs
    | .negSucc 0 => K nx L (.int (-1) :: st) h bc bs
    | .negSucc (k + 1) => K nx L (.int (-(nI (k + 2))) :: st) h bc bs
  | .bipush n => match n with
    | .ofNat k => bif Nat.blt k 128 then K nx L (.int (nI k) :: st) h bc bs else False
    | .negSucc k => bif Nat.blt k 128 then K nx L (.int (-(nI (k + 1))) :: st) h bc bs else False
  | .sipush n => match n with
    | .ofNat k => bif Nat.blt k 32768 then K nx L (.int (nI k) :: st) h bc bs else False
    | .negSucc k => bif Nat.blt k 32768 then K nx L (.int (-(nI (k + 1))) :: st) h bc bs else False
  | .lconst n => match n.val with
    | 0 => K nx L (.long (lN 0) :: st) h bc bs
    | _ => K nx L (.long (lN 1) :: st) h bc bs
  | .ldc i => match mLk (mKi M.2.2.2.2.2.1) i with
    | some v => K nx L (.int v :: st) h bc bs
    | none => match mLk (mSt M.2.2.2.2.2.1) i with
      | some (_, n) => K nx L (.ref (mSB + n) :: st) h bc bs
      | none => False
  | .ldc_w i => match mLk (mKi M.2.2.2.2.2.1) i with
    | some v => K nx L (.int v :: st) h bc bs
    | none => False
  | .ldc2_w i => match mLk (mKl M.2.2.2.2.2.1) i with
    | some v => K nx L (.long v :: st) h bc bs
    | none => False
  | .iadd => match st with
    | .int y :: .int x :: r => K nx L (.int (x + y) :: r) h bc bs
    | _ => False
  | .isub => match st with
    | .int y :: .int x :: r => K nx L (.int (x - y) :: r) h bc bs
    | _ => False
  | .imul => match st with
    | .int y :: .int x :: r => K nx L (.int (x * y) :: r) h bc bs
    | _ => False
  | .iand => match st with
    | .int y :: .int x :: r => K nx L (.int (x &&& y) :: r) h bc bs
    | _ => False
  | .ior => match st with
    | .int y :: .int x :: r => K nx L (.int (x ||| y) :: r) h bc bs
    | _ => False
  | .ixor => match st with
    | .int y :: .int x :: r => K nx L (.int (x ^^^ y) :: r) h bc bs
    | _ => False
  | .ishl => match st with
    | .int y :: .int x :: r => K nx L (.int (x <<< (y &&& 31)) :: r) h bc bs
    | _ => False
  | .ishr => match st with
    | .int y :: .int x :: r => K nx L (.int (x >>> (y &&& 31)) :: r) h bc bs
    | _ => False
  | .iushr => match st with
    | .int y :: .int x :: r => K nx L (.int (x.toUInt32 >>> (y.toUInt32 &&& Int32.toUInt32 31)).toInt32 :: r) h bc bs
    | _ => False
  | .idiv => match st with
    | .int y :: .int x :: r => mVc (¬ y = 0) (K nx L (.int (x / y) :: r) h bc bs)
    | _ => False
  | .irem => match st with
    | .int y :: .int x :: r => mVc (¬ y = 0) (K nx L (.int (x - x / y * y) :: r) h bc bs)
    | _ => False
  | .ineg => match st with
    | .int x :: r => K nx L (.int (-x) :: r) h bc bs
    | _ => False
  | .ladd => match st with
    | .long y :: .long x :: r => K nx L (.long (x + y) :: r) h bc bs
    | _ => False
  | .lsub => match st with
    | .long y :: .long x :: r => K nx L (.long (x - y) :: r) h bc bs
    | _ => False
  | .lmul => match st with
    | .long y :: .long x :: r => K nx L (.long (x * y) :: r) h bc bs
    | _ => False
  | .land => match st with
    | .long y :: .long x :: r => K nx L (.long (x &&& y) :: r) h bc bs
    | _ => False
  | .lor => match st with
    | .long y :: .long x :: r => K nx L (.long (x ||| y) :: r) h bc bs
    | _ => False
  | .ldiv => match st with
    | .long y :: .long x :: r => mVc (¬ y = 0) (K nx L (.long (x / y) :: r) h bc bs)
    | _ => False
  | .lrem => match st with
    | .long y :: .long x :: r => mVc (¬ y = 0) (K nx L (.long (x - x / y * y) :: r) h bc bs)
    | _ => False
  | .lshl => match st with
    | .int y :: .long x :: r => K nx L (.long (x <<< (y.toInt64 &&& 63)) :: r) h bc bs
    | _ => False
  | .lshr => match st with
    | .int y :: .long x :: r => K nx L (.long (x >>> (y.toInt64 &&& 63)) :: r) h bc bs
    | _ => False
  | .lcmp => match st with
    | .long y :: .long x :: r => K nx L (.int (lg_cmp x y) :: r) h bc bs
    | _ => False
  | .i2l => match st with
    | .int x :: r => K nx L (.long x.toInt64 :: r) h bc bs
    | _ => False
  | .l2i => match st with
    | .long x :: r => K nx L (.int x.toInt32 :: r) h bc bs
    | _ => False
  | .i2b => match st with
    | .int x :: r => K nx L (.int x.toInt8.toInt32 :: r) h bc bs
    | _ => False
  | .i2s => match st with
    | .int x :: r => K nx L (.int x.toInt16.toInt32 :: r) h bc bs
    | _ => False
  | .dup => match st with
    | .int x :: r => K nx L (.int x :: .int x :: r) h bc bs
    | .ref x :: r => K nx L (.ref x :: .ref x :: r) h bc bs
    | _ => False
  | .pop => match st with
    | .int _ :: r => K nx L r h bc bs
    | .ref _ :: r => K nx L r h bc bs
    | _ => False
  | .dup2 => match st with
    | .int x :: .ref y :: r => K nx L (.int x :: .ref y :: .int x :: .ref y :: r) h bc bs
    | .int x :: .int y :: r => K nx L (.int x :: .int y :: .int x :: .int y :: r) h bc bs
    | .long x :: r => K nx L (.long x :: .long x :: r) h bc bs
    | _ => False
  | .pop2 => match st with
    | .long _ :: r => K nx L r h bc bs
    | _ => False
  | .ifCond c _ => match st, tg with
    | .int x :: r, [t] => match c with
      | .eq => mBr (x = 0) (K t L r h bc bs) (K nx L r h bc bs)
      | .ne => mBr (x = 0) (K nx L r h bc bs) (K t L r h bc bs)
      | .lt => mBr (x < 0) (K t L r h bc bs) (K nx L r h bc bs)
      | .ge => mBr (0 ≤ x) (K t L r h bc bs) (K nx L r h bc bs)
      | .gt => mBr (0 < x) (K t L r h bc bs) (K nx L r h bc bs)
      | .le => mBr (x ≤ 0) (K t L r h bc bs) (K nx L r h bc bs)
    | _, _ => False
  | .if_icmp c _ => match st, tg with
    | .int y :: .int x :: r, [t] => match c with
      | .eq => mBr (x = y) (K t L r h bc bs) (K nx L r h bc bs)
      | .ne => mBr (x = y) (K nx L r h bc bs) (K t L r h bc bs)
      | .lt => mBr (x < y) (K t L r h bc bs) (K nx L r h bc bs)
      | .ge => mBr (y ≤ x) (K t L r h bc bs) (K nx L r h bc bs)
      | .gt => mBr (y < x) (K t L r h bc bs) (K nx L r h bc bs)
      | .le => mBr (x ≤ y) (K t L r h bc bs) (K nx L r h bc bs)
    | _, _ => False
  | .goto _ => match tg with
    | [t] => K t L st h bc bs
    | _ => False
  | .ifnonnull _ => match st, tg with
    | .ref _ :: r, [t] => K t L r h bc bs
    | .null :: r, [_] => K nx L r h bc bs
    | _, _ => False
  | .tableswitch _ lo hi _ => match st, tg with
    | .int x :: r, t :: ts => ((x.toInt < lo ∨ hi < x.toInt) → K t L r h bc bs) ∧ mSwIn x lo ts (fun t => K t L r h bc bs)
    | _, _ => False
  | .lookupswitch _ ps => match st, tg with
    | .int x :: r, t :: ts => mSwL x ps.toList ts (K t L r h bc bs) (fun t => K t L r h bc bs)
    | _, _ => False
  | .getfield i => match st with
    | .ref k :: r => match mLk (mFt M.2.2.2.2.2.1) i with
      | some (ci, j, _) => match h[k]? with
        | some (.inr (ci2, fs)) => bif Nat.beq ci ci2 then (match fs[j]? with
          | some v => K nx L (v :: r) h bc bs
          | none => False) else False
        | _ => False
      | none => False
    | _ => False
  | .putfield i => match st with
    | v :: .ref k :: r => match mLk (mFt M.2.2.2.2.2.1) i with
      | some (ci, j, nest) => match h[k]? with
        | some (.inr (ci2, fs)) => bif Nat.beq ci ci2 && Nat.blt j fs.length && mFit (mTy ci j) v && mFin M ci j nest then K nx L r (h.set k (.inr (ci, fs.set j v))) bc bs else False
        | _ => False
      | none => False
    | _ => False
  | .iaload => match st with
    | .int i :: .ref k :: r => bif Nat.blt k mSB then (match h[k]? with
      | some (.inl (0, n, .inl f)) => mVc (vp_in i n) (K nx L (.int (f i.toNatClampNeg) :: r) h bc bs)
      | _ => False) else (bif Nat.beq k (mSB + 500) then mVc (vp_in i X.2.2.2.2.2.1) (K nx L (.int (X.2.2.2.2.2.2 i.toNatClampNeg) :: r) h bc bs) else False)
    | _ => False
  | .laload => match st with
    | .int i :: .ref k :: r => match h[k]? with
      | some (.inl (1, n, .inr (.inl f))) => mVc (vp_in i n) (K nx L (.long (f i.toNatClampNeg) :: r) h bc bs)
      | _ => False
    | _ => False
  | .baload => match st with
    | .int i :: .ref k :: r => match h[k]? with
      | some (.inl (2, n, .inl f)) => mVc (vp_in i n) (K nx L (.int (f i.toNatClampNeg) :: r) h bc bs)
      | some (.inl (3, n, .inl f)) => mVc (vp_in i n) (K nx L (.int (f i.toNatClampNeg) :: r) h bc bs)
      | _ => False
    | _ => False
  | .aaload => match st with
    | .int i :: .ref k :: r => match h[k]? with
      | some (.inl (4, n, .inr (.inr (.inr (.inr f))))) => mVc (vp_in i n) (K nx L (va_rf (f i.toNatClampNeg) :: r) h bc bs)
      | some (.inl (5, n, .inr (.inr (.inr (.inr f))))) => mVc (vp_in i n) (K nx L (va_rf (f i.toNatClampNeg) :: r) h bc bs)
      | _ => False
    | _ => False
  | .arraylength => match st with
    | .ref k :: r => bif Nat.blt k mSB then (match h[k]? with
      | some (.inl (t, n, _)) => bif Nat.blt t 6 then K nx L (.int (nI n) :: r) h bc bs else False
      | _ => False) else (bif Nat.beq k (mSB + 500) then K nx L (.int (nI X.2.2.2.2.2.1) :: r) h bc bs else False)
    | _ => False
  | .iastore => match st with
    | .int x :: .int i :: .ref k :: r => match h[k]? with
      | some (.inl (0, n, .inl f)) => mVc (vp_in i n) (K nx L r (h.set k (.inl (0, n, .inl (upd f i.toNatClampNeg x)))) bc bs)
      | _ => False
    | _ => False
  | .lastore => match st with
    | .long x :: .int i :: .ref k :: r => match h[k]? with
      | some (.inl (1, n, .inr (.inl f))) => mVc (vp_in i n) (K nx L r (h.set k (.inl (1, n, .inr (.inl (vp_updL f i.toNatClampNeg x))))) bc bs)
      | _ => False
    | _ => False
  | .bastore => match st with
    | .int x :: .int i :: .ref k :: r => match h[k]? with
      | some (.inl (2, n, .inl f)) => mVc (vp_in i n) (K nx L r (h.set k (.inl (2, n, .inl (upd f i.toNatClampNeg (vp_nar .byte x))))) bc bs)
      | some (.inl (3, n, .inl f)) => mVc (vp_in i n) (K nx L r (h.set k (.inl (3, n, .inl (upd f i.toNatClampNeg (vp_nar .boolean x))))) bc bs)
      | _ => False
    | _ => False
  | .ireturn => match st with
    | [.int x] => match M.2.2.2.1 with
      | some .int => Q (.inl (some (.int x))) h
      | some ty => mVc (narrow ty (.int x) = .int x) (Q (.inl (some (.int x))) h)
      | none => False
    | _ => False
  | .lreturn => match st, M.2.2.2.1 with
    | [.long x], some .long => Q (.inl (some (.long x))) h
    | _, _ => False
  | .areturn => match st, M.2.2.2.1 with
    | [.ref x], some (.object _) => Q (.inl (some (.ref x))) h
    | _, _ => False
  | .return_ => match st, M.2.2.2.1 with
    | [], none => Q (.inl none) h
    | _, _ => False
  | .new i => match mLk (mXt M.2.2.2.2.2.1) i with
    | some (n, ic) => match mLk tb (pc + 3), mLk tb (pc + 4) with
      | some (.dup, _, _), some (.ldc is, n1, _) => match mLk tb n1, mLk (mSt 9) is with
        | some (.invokespecial ic2, n2, _), some _ => match mLk tb n2 with
          | some (.athrow, _, _) => bif Nat.beq ic ic2 && Nat.beq M.2.2.2.2.2.1 9 && Nat.ble 1 bc && Nat.ble 6 bs && Nat.ble (mCs st) 8 && M.2.2.2.2.1.isEmpty then Q (.inr n) h else False
          | _ => False
        | _, _ => False
      | some (.dup, _, _), some (.ldc_w is, n1, _) => match mLk tb n1, mLk (mSt 9) is with
        | some (.invokespecial ic2, n2, _), some _ => match mLk tb n2 with
          | some (.athrow, _, _) => bif Nat.beq ic ic2 && Nat.beq M.2.2.2.2.2.1 9 && Nat.ble 1 bc && Nat.ble 6 bs && Nat.ble (mCs st) 8 && M.2.2.2.2.1.isEmpty then Q (.inr n) h else False
          | _ => False
        | _, _ => False
      | _, _ => False
    | none => match mLk (mCt M.2.2.2.2.2.1) i with
      | some ci => match vwCl[ci]? with
        | some r => bif Nat.ble 1 bc && Nat.ble r.2.2 bs then mVc (mStab h L st ∧ h.length < mSB) (K nx L (.ref h.length :: st) (h ++ [.inr (ci, mDf ci r.2.2)]) (bc - 1) (bs - r.2.2)) else False
        | none => False
      | none => False
  | .newarray a => match st, mAt a with
    | .int n :: r, some (t, _) => bif Nat.ble 1 bc then mVc (¬ n < 0 ∧ n.toNatClampNeg ≤ 100000 ∧ n.toNatClampNeg ≤ bs ∧ mStab h L r ∧ h.length < mSB) (K nx L (.ref h.length :: r) (h ++ [mZr t n.toNatClampNeg]) (bc - 1) (bs - n.toNatClampNeg)) else False
    | _, _ => False
  | .anewarray i => match st, mLk (mCt M.2.2.2.2.2.1) i with
    | .int n :: r, some 7 => bif Nat.ble 1 bc then mVc (¬ n < 0 ∧ n.toNatClampNeg ≤ 100000 ∧ n.toNatClampNeg ≤ bs ∧ mStab h L r ∧ h.length < mSB) (K nx L (.ref h.length :: r) (h ++ [.inl (4, n.toNatClampNeg, .inr (.inr (.inr (.inr (fun _ => none)))))]) (bc - 1) (bs - n.toNatClampNeg)) else False
    | .int n :: r, some 2 => bif Nat.ble 1 bc then mVc (¬ n < 0 ∧ n.toNatClampNeg ≤ 100000 ∧ n.toNatClampNeg ≤ bs ∧ mStab h L r ∧ h.length < mSB) (K nx L (.ref h.length :: r) (h ++ [.inl (5, n.toNatClampNeg, .inr (.inr (.inr (.inr (fun _ => none)))))]) (bc - 1) (bs - n.toNatClampNeg)) else False
    | _, _ => False
  | .aastore => match st with
    | .ref kv :: .int i :: .ref k :: r => match h[k]?, h[kv]? with
      | some (.inl (4, n, .inr (.inr (.inr (.inr f))))), some (.inr (7, _)) => mVc (vp_in i n) (K nx L r (h.set k (.inl (4, n, .inr (.inr (.inr (.inr (va_up f i.toNatClampNeg (some kv)))))))) bc bs)
      | some (.inl (5, n, .inr (.inr (.inr (.inr f))))), some (.inr (2, _)) => mVc (vp_in i n) (K nx L r (h.set k (.inl (5, n, .inr (.inr (.inr (.inr (va_up f i.toNatClampNeg (some kv)))))))) bc bs)
      | _, _ => False
    | _ => False
  | .invokevirtual i => match mLk (mMt M.2.2.2.2.2.1) i with
    | some (kd, n, M2) => mPop n st [] (fun as r => match r with
      | .ref k :: rest => match h[k]? with
        | some (.inr (ci, _)) => bif Nat.beq ci M2.2.2.2.2.2.1 then (match kd with
          | 0 => mInv X M d Q tb K pc nx L h bc bs 0 M2 (.ref k :: as) rest
          | 1 => mInv X M d Q tb K pc nx L h bc bs 1 M2 (.ref k :: as) rest
          | _ => False) else False
        | _ => False
      | _ => False)
    | none => False
  | .invokestatic i => match mLk (mMt M.2.2.2.2.2.1) i with
    | some (kd, n, M2) => match kd with
      | 2 => mPop n st [] (fun as rest => mInv X M d Q tb K pc nx L h bc bs 2 M2 as rest)
      | 3 => mPop n st [] (fun as rest => mInv X M d Q tb K pc nx L h bc bs 3 M2 as rest)
      | 8 => mPop n st [] (fun as rest => mInv X M d Q tb K pc nx L h bc bs 8 M2 as rest)
      | 7 => match st with
        | .int n :: .int dp :: .ref k1 :: .int sp :: .ref k0 :: r => match h[k0]?, h[k1]? with
          | some (.inl (0, m0, .inl f)), some (.inl (0, m1, .inl g)) => bif Nat.ble (mCs r) 8 then mVc (¬ sp < 0 ∧ ¬ dp < 0 ∧ ¬ n < 0 ∧ sp.toNatClampNeg + n.toNatClampNeg ≤ m0 ∧ dp.toNatClampNeg + n.toNatClampNeg ≤ m1) (K nx L r (h.set k1 (.inl (0, m1, .inl (va_cpy f g sp.toNatClampNeg dp.toNatClampNeg n.toNatClampNeg)))) bc bs) else False
          | _, _ => False
        | _ => False
      | 10 => match st with
        | .int y :: .int x :: r => bif Nat.ble (mCs r) 8 then K nx L (.int (if y < x then y else x) :: r) h bc bs else False
        | _ => False
      | 11 => match st with
        | .int y :: .int x :: r => bif Nat.ble (mCs r) 8 then K nx L (.int (if x < y then y else x) :: r) h bc bs else False
        | _ => False
      | 12 => match st with
        | .int x :: r => bif Nat.ble (mCs r) 8 then K nx L (.int (if 0 ≤ x then x else 0 - x) :: r) h bc bs else False
        | _ => False
      | 13 => match st with
        | .long y :: .long x :: r => bif Nat.ble (mCs r) 8 then K nx L (.long (if y < x then x else y) :: r) h bc bs else False
        | _ => False
      | _ => False
    | none => False
  | .invokespecial i => match mLk (mMt M.2.2.2.2.2.1) i with
    | some (kd, n, M2) => match kd with
      | 4 => mPop n st [] (fun as r => match r with
        | .ref k :: rest => mInv X M d Q tb K pc nx L h bc bs 4 M2 (.ref k :: as) rest
        | _ => False)
      | 5 => mPop n st [] (fun as r => match r with
        | .ref k :: rest => mInv X M d Q tb K pc nx L h bc bs 5 M2 (.ref k :: as) rest
        | _ => False)
      | 6 => match st with
        | .ref _ :: r => bif Nat.ble (mCs r) 8 then K nx L r h bc bs else False
        | _ => False
      | _ => False
    | none => False
  | _ => False
/-- the run of the small machine, to the cuts at most -/
def mRun (X : mX) (M : mM) (d : Nat) (Q : mO → mH → Prop) (tb : mTb) (cuts : List Nat) : Nat → mK
  | 0, pc, L, st, h, bc, bs => mWP X M d Q pc L st h bc bs
  | f + 1, pc, L, st, h, bc, bs => match mLk tb pc with
    | some (i, nx, tg) => mOp X M d Q tb (fun pc L st h bc bs => bif cuts.elem pc then mWP X M d Q pc L st h bc bs else mRun X M d Q tb cuts f pc L st h bc bs) i nx tg pc L st h bc bs
    | none => False
end
section
/-! what the computation says holds of the machine -/
def mLn (i : Instr) : Nat := match i with
  | .aload _ => 2
  | .astore _ => 2
  | .iload _ => 2
  | .istore _ => 2
  | .lload _ => 2
  | .lstore _ => 2
  | .iinc _ _ => 3
  | .bipush _ => 2
  | .sipush _ => 3
  | .ldc _ => 2
  | .ldc_w _ => 3
  | .ldc2_w _ => 3
  | .ifCond _ _ => 3
  | .if_icmp _ _ => 3
  | .goto _ => 3
  | .ifnonnull _ => 3
  | .getfield _ => 3
  | .putfield _ => 3
  | .getstatic _ => 3
  | .new _ => 3
  | .newarray _ => 2
  | .anewarray _ => 3
  | .invokevirtual _ => 3
  | .invokestatic _ => 3
  | .invokespecial _ => 3
  | _ => 1
def mTg (i : Instr) (pc nx : Nat) (tg : List Nat) : Bool := match i with
  | .goto off => decide (nx = pc + 3) && (match tg with
    | [t] => decide ((pc : Int) + off = (t : Int))
    | _ => false)
  | .ifCond _ off => decide (nx = pc + 3) && (match tg with
    | [t] => decide ((pc : Int) + off = (t : Int))
    | _ => false)
  | .if_icmp _ off => decide (nx = pc + 3) && (match tg with
    | [t] => decide ((pc : Int) + off = (t : Int))
    | _ => false)
  | .ifnonnull off => decide (nx = pc + 3) && (match tg with
    | [t] => decide ((pc : Int) + off = (t : Int))
    | _ => false)
  | .tableswitch df lo hi offs => decide (tg.map (fun t : Nat => (t : Int)) = ((pc : Int) + df) :: offs.toList.map (fun x => (pc : Int) + x)) && decide (hi = lo + offs.toList.length - 1)
  | .lookupswitch df ps => decide (tg.map (fun t : Nat => (t : Int)) = ((pc : Int) + df) :: ps.toList.map (fun x => (pc : Int) + x.2)) && (ps.toList.zip (ps.toList.drop 1)).all (fun (a, next) => a.1 < next.1)
  | i => decide (nx = pc + mLn i)
def mTbOk (cc : ByteArray) (q : Nat × mI) : Bool := Nat.blt q.1 q.2.2.1 && decide (decode cc q.1 = .ok (q.2.1, q.2.2.1 - q.1)) && mTg q.2.1 q.1 q.2.2.1 q.2.2.2
theorem mCond {b : Bool} {P : Prop} (h : bif b then P else False) : b = true ∧ P := by
  cases b with
  | true => exact ⟨rfl, h⟩
  | false => exact h.elim
theorem mDl {cc : ByteArray} {i : Instr} {nx pc n : Nat} (hd : decode cc pc = .ok (i, nx - pc)) (h : nx = pc + n) : decode cc pc = .ok (i, n) := by
  rw [hd, h, Nat.add_sub_cancel_left]
theorem mCs_eq (st : List Value) : mCs st = (st.map fun v => v.category).sum := by
  induction st with
  | nil => rfl
  | cons v r ih => simp [mCs, ih]
theorem mPop_spec {k : List Value → List Value → Prop} : ∀ {n : Nat} {st acc : List Value}, mPop n st acc k → ∃ as rest, st = as.reverse ++ rest ∧ as.length = n ∧ k (as ++ acc) rest
  | 0, st, acc, h => ⟨[], st, rfl, rfl, h⟩
  | n + 1, [], acc, h => h.elim
  | n + 1, v :: st, acc, h => by
    obtain ⟨as, rest, h1, h2, h3⟩ := mPop_spec (n := n) h
    exact ⟨as ++ [v], rest, by simp [h1], by simp [h2], by simpa using h3⟩
theorem mC_of (k : Nat) : Int32.ofInt (Int.ofNat k) = nI k := by simp [nI, Int32.ofInt_eq_ofNat]
theorem mC_neg (k : Nat) : Int32.ofInt (Int.negSucc k) = -(nI (k + 1)) := by
  have e : Int.negSucc k = -((k + 1 : Nat) : Int) := rfl
  rw [e, Int32.ofInt_neg, nI]
  congr 1
theorem mC8 {k : Nat} (h : k < 128) : (Int8.ofInt (Int.ofNat k)).toInt32 = nI k := by
  apply Int32.toInt_inj.mp
  rw [nI_toInt (by omega), Int8.toInt_toInt32, Int8.toInt_ofInt_of_le (by simp <;> omega) (by simp <;> omega)]
  rfl
theorem mC8n {k : Nat} (h : k < 128) : (Int8.ofInt (Int.negSucc k)).toInt32 = -(nI (k + 1)) := by
  rw [← mC_neg]
  apply Int32.toInt_inj.mp
  rw [Int8.toInt_toInt32, Int8.toInt_ofInt_of_le (by omega) (by omega), Int32.toInt_ofInt_of_le (by omega) (by omega)]
theorem mC16 {k : Nat} (h : k < 32768) : (Int16.ofInt (Int.ofNat k)).toInt32 = nI k := by
  apply Int32.toInt_inj.mp
  rw [nI_toInt (by omega), Int16.toInt_toInt32, Int16.toInt_ofInt_of_le (by simp <;> omega) (by simp <;> omega)]
  rfl
theorem mC16n {k : Nat} (h : k < 32768) : (Int16.ofInt (Int.negSucc k)).toInt32 = -(nI (k + 1)) := by
  rw [← mC_neg]
  apply Int32.toInt_inj.mp
  rw [Int16.toInt_toInt32, Int16.toInt_ofInt_of_le (by omega) (by omega), Int32.toInt_ofInt_of_le (by omega) (by omega)]
theorem mKi_ok : ∀ oc : Fin 17, ∀ q ∈ mKi oc, Cond.constant (mNm oc) q.1 q.2 ∈ lw_tbl := by decide +kernel
theorem mKl_ok : ∀ oc : Fin 17, ∀ q ∈ mKl oc, Cond.constantLong (mNm oc) q.1 q.2 ∈ lw_tbl := by decide +kernel
theorem mSt_all : ∀ oc : Fin 17, ∀ q ∈ mSt oc, (mNm oc, q) ∈ mStr := by decide +kernel
theorem mCt_ok : ∀ oc : Fin 17, ∀ q ∈ mCt oc, Cond.classLink (mNm oc) q.1 (mNm q.2) ∈ lw_tbl ∧ q.2 < 11 := by decide +kernel
theorem mCi_ok : ∀ ci : Fin 11, ∀ r, vwCl[(ci : Nat)]? = some r → Cond.instantiable r.1 r.2.2 ∈ lw_tbl ∧ Cond.initialized r.1 ∈ lw_tbl ∧ r.1 = mNm ci := by
  intro ci r hr
  have h0 : (match vwCl[(ci : Nat)]? with
    | some r => decide (Cond.instantiable r.1 r.2.2 ∈ lw_tbl) && decide (Cond.initialized r.1 ∈ lw_tbl) && decide (r.1 = mNm ci)
    | none => true) = true := by
    revert ci
    have h1 : ∀ ci : Fin 11, (match vwCl[(ci : Nat)]? with
      | some r => decide (Cond.instantiable r.1 r.2.2 ∈ lw_tbl) && decide (Cond.initialized r.1 ∈ lw_tbl) && decide (r.1 = mNm ci)
      | none => true) = true := by decide +kernel
    intro ci _
    exact h1 ci
  rw [hr] at h0
  simp only [Bool.and_eq_true, decide_eq_true_eq] at h0
  exact ⟨h0.1.1, h0.1.2, h0.2⟩
section mSn
variable {X : mX} {M : mM} {d : Nat} {Q : mO → mH → Prop} {pc : Nat} {L : List (Option Value)} {st : List Value} {h : mH} {bc bs : Nat}
theorem wp_ldc {i : Nat} {v : Int32} (hoc : M.2.2.2.2.2.1 < 17) (hn : mNm M.2.2.2.2.2.1 = M.1.cls) (hd : decode M.2.1 pc = .ok (.ldc i, 2)) (hv : mLk (mKi M.2.2.2.2.2.1) i = some v) (k : mWP X M d Q (pc + 2) L (.int v :: st) h bc bs) : mWP X M d Q pc L st h bc bs := by
  intro p e R s m args below meth c H locs cells slots ad a0 n0 ls F G hl
  exact lv_ldc F.1 F.2.1 (by rw [hn]; exact F.2.2.2.1) (F.2.2.2.2.2.2.2.2.1.word (mKi_ok ⟨_, hoc⟩ _ (mLk_mem hv)) rfl) hd (k p e R s m args below meth c H locs cells slots ad a0 n0 ls F G hl)
theorem wp_ldcw {i : Nat} {v : Int32} (hoc : M.2.2.2.2.2.1 < 17) (hn : mNm M.2.2.2.2.2.1 = M.1.cls) (hd : decode M.2.1 pc = .ok (.ldc_w i, 3)) (hv : mLk (mKi M.2.2.2.2.2.1) i = some v) (k : mWP X M d Q (pc + 3) L (.int v :: st) h bc bs) : mWP X M d Q pc L st h bc bs := by
  intro p e R s m args below meth c H locs cells slots ad a0 n0 ls F G hl
  exact lv_ldcw F.1 F.2.1 (by rw [hn]; exact F.2.2.2.1) (F.2.2.2.2.2.2.2.2.1.word (mKi_ok ⟨_, hoc⟩ _ (mLk_mem hv)) rfl) hd (k p e R s m args below meth c H locs cells slots ad a0 n0 ls F G hl)
theorem wp_ldc2 {i : Nat} {v : Int64} (hoc : M.2.2.2.2.2.1 < 17) (hn : mNm M.2.2.2.2.2.1 = M.1.cls) (hd : decode M.2.1 pc = .ok (.ldc2_w i, 3)) (hv : mLk (mKl M.2.2.2.2.2.1) i = some v) (k : mWP X M d Q (pc + 3) L (.long v :: st) h bc bs) : mWP X M d Q pc L st h bc bs := by
  intro p e R s m args below meth c H locs cells slots ad a0 n0 ls F G hl
  exact lv_ldc2 F.1 F.2.1 (by rw [hn]; exact F.2.2.2.1) (F.2.2.2.2.2.2.2.2.1.word (mKl_ok ⟨_, hoc⟩ _ (mLk_mem hv)) rfl) hd (k p e R s m args below meth c H locs cells slots ad a0 n0 ls F G hl)
theorem wp_ldcS {i n : Nat} {tx : String} (hoc : M.2.2.2.2.2.1 < 17) (hn : mNm M.2.2.2.2.2.1 = M.1.cls) (hd : decode M.2.1 pc = .ok (.ldc i, 2)) (hv : mLk (mSt M.2.2.2.2.2.1) i = some (tx, n)) (k : mWP X M d Q (pc + 2) L (.ref (mSB + n) :: st) h bc bs) : mWP X M d Q pc L st h bc bs := by
  intro p e R s m args below meth c H locs cells slots ad a0 n0 ls F G hl
  have k1 := k p e R s m args below meth c H locs cells slots ad a0 n0 ls F G hl
  rw [List.map_cons] at k1
  simp only [mV, G.1.2.2] at k1
  exact va_ldcS F.1 F.2.1 (by rw [hn]; exact F.2.2.2.1) (F.2.2.2.2.2.2.2.2.1.2.2.2.2.1 _ (mSt_all ⟨_, hoc⟩ _ (mLk_mem hv))) hd k1
theorem mSwIn_spec {x : Int32} {k : Nat → Prop} : ∀ {ts : List Nat} {lo : Int}, mSwIn x lo ts k → ∀ (j t : Nat), ts[j]? = some t → x.toInt = lo + j → k t
  | [], lo, _, j, t, ht, _ => by simp at ht
  | t0 :: ts, lo, h, 0, t, ht, hx => by
    cases ht
    exact h.1 (by simpa using hx)
  | t0 :: ts, lo, h, j + 1, t, ht, hx => mSwIn_spec h.2 j t (by simpa using ht) (by rw [hx]; omega)
theorem mSwL_spec {x : Int32} {k : Nat → Prop} {kd : Prop} {pc : Nat} {df : Int} {td : Nat} (hd : (pc : Int) + df = (td : Int)) : ∀ {ps : List (Int × Int)} {ts : List Nat}, ts.map (fun t : Nat => (t : Int)) = ps.map (fun x => (pc : Int) + x.2) → mSwL x ps ts kd k → ∃ t : Nat, (pc : Int) + Op.lookupswitch.offset ps df x.toInt = (t : Int) ∧ ((t = td ∧ kd) ∨ k t)
  | [], [], _, h => ⟨td, by simpa [Op.lookupswitch.offset] using hd, Or.inl ⟨rfl, h⟩⟩
  | [], _ :: _, e, _ => by simp at e
  | _ :: _, [], e, _ => by simp at e
  | p :: ps, t :: ts, e, h => by
    simp only [List.map_cons, List.cons.injEq] at e
    by_cases hx : x.toInt = p.1
    · exact ⟨t, by simp only [Op.lookupswitch.offset, hx]; simpa using e.1.symm, Or.inr (h.1 hx)⟩
    · obtain ⟨t2, h1, h2⟩ := mSwL_spec hd e.2 (h.2 hx)
      refine ⟨t2, ?_, h2⟩
      rw [← h1]
      simp only [Op.lookupswitch.offset]
      simp [hx, Ne.symm hx]
theorem mInv_spec {tb : mTb} {K : mK} {nx kd : Nat} {M2 : mM} {as rest : List Value} (hs : mInv X M d Q tb K pc nx L h bc bs kd M2 as rest) : (rest.map fun v => v.category).sum ≤ 8 ∧ M2.2.2.2.2.2.2.1 ≤ bc ∧ M2.2.2.2.2.2.2.2 ≤ bs ∧ mWfS h L rest = true ∧ ∃ (d2 : Nat) (Q2 : mO → mH → Prop), d2 < d ∧ mEv X d2 M2 as h Q2 ∧ (∀ (r : Option Value) (h1 : mH), Q2 (.inl r) h1 → K nx L (r.toList ++ rest) h1 (bc - M2.2.2.2.2.2.2.1) (bs - M2.2.2.2.2.2.2.2)) ∧ ∀ (E : Nat) (h1 : mH), Q2 (.inr E) h1 → mXc M Q tb pc kd E h1 := by
  replace hs := mCond hs
  obtain ⟨hb, hs⟩ := hs
  simp only [Bool.and_eq_true] at hb
  obtain ⟨⟨⟨b1, b2⟩, b3⟩, b4⟩ := hb
  obtain ⟨d2, Q2, h1, h2, h3⟩ := hs
  refine ⟨by rw [← mCs_eq]; exact Nat.le_of_ble_eq_true b1, Nat.le_of_ble_eq_true b2, Nat.le_of_ble_eq_true b3, b4, d2, Q2, h1, h2, fun r h4 hq => ?_, fun E h4 hq => h3 (.inr E) h4 hq⟩
  cases r with
  | none => exact h3 (.inl none) h4 hq
  | some v => exact h3 (.inl (some v)) h4 hq
/-- what is asked of a method's own numbers -/
def mOkM (M : mM) : Prop := M.2.2.2.2.2.1 < 17 ∧ mNm M.2.2.2.2.2.1 = M.1.cls ∧ (M.2.2.2.2.1 = [] ∨ (M.1.cls = RL ∧ M.2.2.2.1 = some .int))
def mNoSt (M : mM) (tb : mTb) : Prop := M.2.2.2.2.1 = [] ∨ ∀ q ∈ tb, ∀ i, q.2.1 ≠ .invokestatic i
theorem mTb_at {cc : ByteArray} {tb : mTb} {p : Nat} {i : Instr} {nx : Nat} {tg : List Nat} (hok : ∀ q ∈ tb, mTbOk cc q = true) (h : mLk tb p = some (i, nx, tg)) (hi : mTg i p nx tg = decide (nx = p + mLn i) := by rfl) : nx = p + mLn i ∧ decode cc p = .ok (i, mLn i) := by
  have h1 := hok _ (mLk_mem h)
  simp only [mTbOk, Bool.and_eq_true, decide_eq_true_eq] at h1
  obtain ⟨⟨-, h2⟩, h3⟩ := h1
  rw [hi, decide_eq_true_eq] at h3
  exact ⟨h3, mDl h2 h3⟩
set_option maxHeartbeats 4000000 in
theorem mOp_sound {tb : mTb} {K : mK} {i : Instr} {nx : Nat} {tg : List Nat} (hM : mOkM M) (hns : mNoSt M tb) (hok : ∀ q ∈ tb, mTbOk M.2.1 q = true) (hlk : mLk tb pc = some (i, nx, tg)) (hk : ∀ pc L st h bc bs, K pc L st h bc bs → mWP X M d Q pc L st h bc bs) (hs : mOp X M d Q tb K i nx tg pc L st h bc bs) : mWP X M d Q pc L st h bc bs := by
  obtain ⟨hoc, hn, hrt0⟩ := hM
  have hLw : ∀ h0 hr0, M.2.2.2.2.1 = h0 :: hr0 → M.1.cls = RL := fun h0 hr0 e => by
    rcases hrt0 with q | q
    · rw [q] at e; cases e
    · exact q.1
  have hrw : ∀ h0 hr0, M.2.2.2.2.1 = h0 :: hr0 → M.2.2.2.1 = some .int := fun h0 hr0 e => by
    rcases hrt0 with q | q
    · rw [q] at e; cases e
    · exact q.2
  have hok1 := hok _ (mLk_mem hlk)
  simp only [mTbOk, Bool.and_eq_true, decide_eq_true_eq] at hok1
  obtain ⟨⟨-, hd⟩, hg⟩ := hok1
  cases i with
  | ifCond cd off =>
      simp only [mOp] at hs
      simp only [mTg] at hg
      split at hs
      · simp only [Bool.and_eq_true, decide_eq_true_eq] at hg
        obtain ⟨rfl, hg⟩ := hg
        have hd := mDl hd rfl
        split at hs
        · exact wp_if_eq hd hg (fun q => hk _ _ _ _ _ _ (hs.1 q)) (fun q => hk _ _ _ _ _ _ (hs.2 q))
        · exact wp_if_ne hd hg (fun q => hk _ _ _ _ _ _ (hs.2 q)) (fun q => hk _ _ _ _ _ _ (hs.1 q))
        · exact wp_if_lt hd hg (fun q => hk _ _ _ _ _ _ (hs.1 q)) (fun q => hk _ _ _ _ _ _ (hs.2 q))
        · exact wp_if_ge hd hg (fun q => hk _ _ _ _ _ _ (hs.1 q)) (fun q => hk _ _ _ _ _ _ (hs.2 q))
        · exact wp_if_gt hd hg (fun q => hk _ _ _ _ _ _ (hs.1 q)) (fun q => hk _ _ _ _ _ _ (hs.2 q))
        · exact wp_if_le hd hg (fun q => hk _ _ _ _ _ _ (hs.1 q)) (fun q => hk _ _ _ _ _ _ (hs.2 q))
      · exact hs.elim
  | if_icmp cd off =>
      simp only [mOp] at hs
      simp only [mTg] at hg
      split at hs
      · simp only [Bool.and_eq_true, decide_eq_true_eq] at hg
        obtain ⟨rfl, hg⟩ := hg
        have hd := mDl hd rfl
        split at hs
        · exact wp_icmp_eq hd hg (fun q => hk _ _ _ _ _ _ (hs.1 q)) (fun q => hk _ _ _ _ _ _ (hs.2 q))
        · exact wp_icmp_ne hd hg (fun q => hk _ _ _ _ _ _ (hs.2 q)) (fun q => hk _ _ _ _ _ _ (hs.1 q))
        · exact wp_icmp_lt hd hg (fun q => hk _ _ _ _ _ _ (hs.1 q)) (fun q => hk _ _ _ _ _ _ (hs.2 q))
        · exact wp_icmp_ge hd hg (fun q => hk _ _ _ _ _ _ (hs.1 q)) (fun q => hk _ _ _ _ _ _ (hs.2 q))
        · exact wp_icmp_gt hd hg (fun q => hk _ _ _ _ _ _ (hs.1 q)) (fun q => hk _ _ _ _ _ _ (hs.2 q))
        · exact wp_icmp_le hd hg (fun q => hk _ _ _ _ _ _ (hs.1 q)) (fun q => hk _ _ _ _ _ _ (hs.2 q))
      · exact hs.elim
  | goto off =>
      simp only [mOp] at hs
      simp only [mTg] at hg
      split at hs
      · simp only [Bool.and_eq_true, decide_eq_true_eq] at hg
        obtain ⟨rfl, hg⟩ := hg
        exact wp_goto (mDl hd rfl) hg (hk _ _ _ _ _ _ hs)
      · exact hs.elim
  | ifnonnull off =>
      simp only [mOp] at hs
      simp only [mTg] at hg
      split at hs
      · simp only [Bool.and_eq_true, decide_eq_true_eq] at hg
        obtain ⟨rfl, hg⟩ := hg
        exact wp_ifnonnull (mDl hd rfl) hg (hk _ _ _ _ _ _ hs)
      · simp only [Bool.and_eq_true, decide_eq_true_eq] at hg
        obtain ⟨rfl, hg⟩ := hg
        exact wp_ifnonnullN (mDl hd rfl) (hk _ _ _ _ _ _ hs)
      · exact hs.elim
  | tableswitch df lo hi offs =>
      simp only [mOp] at hs
      simp only [mTg] at hg
      split at hs
      · rename_i x r t ts
        simp only [Bool.and_eq_true, decide_eq_true_eq, List.map_cons, List.cons.injEq] at hg
        obtain ⟨⟨g1, g2⟩, g3⟩ := hg
        by_cases hx : x.toInt < lo ∨ hi < x.toInt
        · exact wp_tableOut hd hx g1.symm (hk _ _ _ _ _ _ (hs.1 hx))
        · have hx1 : ¬ x.toInt < lo := fun q => hx (Or.inl q)
          have hx2 : ¬ hi < x.toInt := fun q => hx (Or.inr q)
          have hlen : ts.length = offs.toList.length := by simpa using congrArg List.length g2
          have hj : (x.toInt - lo).toNat < ts.length := by omega
          have e1 : ts[(x.toInt - lo).toNat]? = some (ts[(x.toInt - lo).toNat]) := List.getElem?_eq_getElem hj
          have e2 : (offs.toList)[(x.toInt - lo).toNat]? = some (offs.toList[(x.toInt - lo).toNat]) := List.getElem?_eq_getElem (by omega)
          have e3 := congrArg (fun l => l[(x.toInt - lo).toNat]?) g2
          simp only [List.getElem?_map, e1, e2, Option.map_some, Option.some.injEq] at e3
          exact wp_tableIn hd hx1 hx2 (by rw [← Array.getElem?_toList]; exact e2) e3.symm (hk _ _ _ _ _ _ (mSwIn_spec hs.2 _ _ e1 (by omega)))
      · exact hs.elim
  | lookupswitch df ps =>
      simp only [mOp] at hs
      simp only [mTg] at hg
      split at hs
      · rename_i x r t ts
        simp only [Bool.and_eq_true, decide_eq_true_eq, List.map_cons, List.cons.injEq] at hg
        obtain ⟨⟨g1, g2⟩, g3⟩ := hg
        obtain ⟨t2, h1, h2⟩ := mSwL_spec g1.symm g2 hs
        refine wp_lookup hd g3 rfl h1 ?_
        rcases h2 with ⟨rfl, h2⟩ | h2
        · exact hk _ _ _ _ _ _ h2
        · exact hk _ _ _ _ _ _ h2
      · exact hs.elim
  | aload_n j =>
      simp only [mOp] at hs
      simp only [mTg, decide_eq_true_eq] at hg
      have hd1 := mDl hd hg
      clear hd
      subst hg
      split at hs
      · exact wp_aload_n hd1 ‹_› (hk _ _ _ _ _ _ hs)
      · exact wp_aload_nN hd1 ‹_› (hk _ _ _ _ _ _ hs)
      · exact hs.elim
  | aload j =>
      simp only [mOp] at hs
      simp only [mTg, decide_eq_true_eq] at hg
      have hd1 := mDl hd hg
      clear hd
      subst hg
      split at hs
      · exact wp_aload hd1 ‹_› (hk _ _ _ _ _ _ hs)
      · exact wp_aloadN hd1 ‹_› (hk _ _ _ _ _ _ hs)
      · exact hs.elim
  | iload_n j =>
      simp only [mOp] at hs
      simp only [mTg, decide_eq_true_eq] at hg
      have hd1 := mDl hd hg
      clear hd
      subst hg
      split at hs
      · exact wp_iload_n hd1 ‹_› (hk _ _ _ _ _ _ hs)
      · exact hs.elim
  | iload j =>
      simp only [mOp] at hs
      simp only [mTg, decide_eq_true_eq] at hg
      have hd1 := mDl hd hg
      clear hd
      subst hg
      split at hs
      · exact wp_iload hd1 ‹_› (hk _ _ _ _ _ _ hs)
      · exact hs.elim
  | lload_n j =>
      simp only [mOp] at hs
      simp only [mTg, decide_eq_true_eq] at hg
      have hd1 := mDl hd hg
      clear hd
      subst hg
      split at hs
      · exact wp_lload_n hd1 ‹_› (hk _ _ _ _ _ _ hs)
      · exact hs.elim
  | lload j =>
      simp only [mOp] at hs
      simp only [mTg, decide_eq_true_eq] at hg
      have hd1 := mDl hd hg
      clear hd
      subst hg
      split at hs
      · exact wp_lload hd1 ‹_› (hk _ _ _ _ _ _ hs)
      · exact hs.elim
  | istore_n j =>
      simp only [mOp] at hs
      simp only [mTg, decide_eq_true_eq] at hg
      have hd1 := mDl hd hg
      clear hd
      subst hg
      split at hs
      · replace hs := mCond hs
        obtain ⟨hb, hs⟩ := hs
        exact wp_istore_n hd1 rfl (by simpa using hb) (hk _ _ _ _ _ _ hs)
      · exact hs.elim
  | istore j =>
      simp only [mOp] at hs
      simp only [mTg, decide_eq_true_eq] at hg
      have hd1 := mDl hd hg
      clear hd
      subst hg
      split at hs
      · replace hs := mCond hs
        obtain ⟨hb, hs⟩ := hs
        exact wp_istore hd1 (by simpa using hb) (hk _ _ _ _ _ _ hs)
      · exact hs.elim
  | lstore_n j =>
      simp only [mOp] at hs
      simp only [mTg, decide_eq_true_eq] at hg
      have hd1 := mDl hd hg
      clear hd
      subst hg
      split at hs
      · replace hs := mCond hs
        obtain ⟨hb, hs⟩ := hs
        exact wp_lstore_n hd1 rfl (by simpa using hb) (hk _ _ _ _ _ _ hs)
      · exact hs.elim
  | lstore j =>
      simp only [mOp] at hs
      simp only [mTg, decide_eq_true_eq] at hg
      have hd1 := mDl hd hg
      clear hd
      subst hg
      split at hs
      · replace hs := mCond hs
        obtain ⟨hb, hs⟩ := hs
        exact wp_lstore hd1 (by simpa using hb) (hk _ _ _ _ _ _ hs)
      · exact hs.elim
  | astore_n j =>
      simp only [mOp] at hs
      simp only [mTg, decide_eq_true_eq] at hg
      have hd1 := mDl hd hg
      clear hd
      subst hg
      split at hs
      · replace hs := mCond hs
        obtain ⟨hb, hs⟩ := hs
        exact wp_astore_n hd1 rfl (by simpa using hb) (hk _ _ _ _ _ _ hs)
      · exact hs.elim
  | astore j =>
      simp only [mOp] at hs
      simp only [mTg, decide_eq_true_eq] at hg
      have hd1 := mDl hd hg
      clear hd
      subst hg
      split at hs
      · replace hs := mCond hs
        obtain ⟨hb, hs⟩ := hs
        exact wp_astore hd1 (by simpa using hb) (hk _ _ _ _ _ _ hs)
      · exact hs.elim
  | iinc j n =>
      simp only [mOp] at hs
      simp only [mTg, decide_eq_true_eq] at hg
      have hd1 := mDl hd hg
      clear hd
      subst hg
      split at hs
      · replace hs := mCond hs
        obtain ⟨hb, hs⟩ := hs
        split at hs
        · exact wp_iinc hd1 ‹_› (by rw [mC_of]) (by simpa using hb) (hk _ _ _ _ _ _ hs)
        · exact wp_iinc hd1 ‹_› (by rw [mC_neg, Int32.sub_eq_add_neg]) (by simpa using hb) (hk _ _ _ _ _ _ hs)
      · exact hs.elim
  | iconst n =>
      simp only [mOp] at hs
      simp only [mTg, decide_eq_true_eq] at hg
      have hd1 := mDl hd hg
      clear hd
      subst hg
      split at hs
      · exact wp_iconst hd1 (mC_of _) (hk _ _ _ _ _ _ hs)
      · exact wp_iconst hd1 rfl (hk _ _ _ _ _ _ hs)
      · exact wp_iconst hd1 (mC_neg _) (hk _ _ _ _ _ _ hs)
  | bipush n =>
      simp only [mOp] at hs
      simp only [mTg, decide_eq_true_eq] at hg
      have hd1 := mDl hd hg
      clear hd
      subst hg
      split at hs
      · replace hs := mCond hs
        obtain ⟨hb, hs⟩ := hs
        exact wp_bipush hd1 (mC8 (by simpa using hb)) (hk _ _ _ _ _ _ hs)
      · replace hs := mCond hs
        obtain ⟨hb, hs⟩ := hs
        exact wp_bipush hd1 (mC8n (by simpa using hb)) (hk _ _ _ _ _ _ hs)
  | sipush n =>
      simp only [mOp] at hs
      simp only [mTg, decide_eq_true_eq] at hg
      have hd1 := mDl hd hg
      clear hd
      subst hg
      split at hs
      · replace hs := mCond hs
        obtain ⟨hb, hs⟩ := hs
        exact wp_sipush hd1 (mC16 (by simpa using hb)) (hk _ _ _ _ _ _ hs)
      · replace hs := mCond hs
        obtain ⟨hb, hs⟩ := hs
        exact wp_sipush hd1 (mC16n (by simpa using hb)) (hk _ _ _ _ _ _ hs)
  | lconst n =>
      simp only [mOp] at hs
      simp only [mTg, decide_eq_true_eq] at hg
      have hd1 := mDl hd hg
      clear hd
      subst hg
      match n, hd1, hs with
      | 0, hd2, hs => exact wp_lconst hd2 rfl (hk _ _ _ _ _ _ hs)
      | 1, hd2, hs => exact wp_lconst hd2 rfl (hk _ _ _ _ _ _ hs)
  | ldc j =>
      simp only [mOp] at hs
      simp only [mTg, decide_eq_true_eq] at hg
      have hd1 := mDl hd hg
      clear hd
      subst hg
      split at hs
      · exact wp_ldc hoc hn hd1 ‹_› (hk _ _ _ _ _ _ hs)
      · split at hs
        · exact wp_ldcS hoc hn hd1 ‹_› (hk _ _ _ _ _ _ hs)
        · exact hs.elim
  | ldc_w j =>
      simp only [mOp] at hs
      simp only [mTg, decide_eq_true_eq] at hg
      have hd1 := mDl hd hg
      clear hd
      subst hg
      split at hs
      · exact wp_ldcw hoc hn hd1 ‹_› (hk _ _ _ _ _ _ hs)
      · exact hs.elim
  | ldc2_w j =>
      simp only [mOp] at hs
      simp only [mTg, decide_eq_true_eq] at hg
      have hd1 := mDl hd hg
      clear hd
      subst hg
      split at hs
      · exact wp_ldc2 hoc hn hd1 ‹_› (hk _ _ _ _ _ _ hs)
      · exact hs.elim
  | iadd =>
      simp only [mOp] at hs
      simp only [mTg, decide_eq_true_eq] at hg
      have hd1 := mDl hd hg
      clear hd
      subst hg
      split at hs
      · exact wp_iadd hd1 (hk _ _ _ _ _ _ hs)
      · exact hs.elim
  | isub =>
      simp only [mOp] at hs
      simp only [mTg, decide_eq_true_eq] at hg
      have hd1 := mDl hd hg
      clear hd
      subst hg
      split at hs
      · exact wp_isub hd1 (hk _ _ _ _ _ _ hs)
      · exact hs.elim
  | imul =>
      simp only [mOp] at hs
      simp only [mTg, decide_eq_true_eq] at hg
      have hd1 := mDl hd hg
      clear hd
      subst hg
      split at hs
      · exact wp_imul hd1 (hk _ _ _ _ _ _ hs)
      · exact hs.elim
  | iand =>
      simp only [mOp] at hs
      simp only [mTg, decide_eq_true_eq] at hg
      have hd1 := mDl hd hg
      clear hd
      subst hg
      split at hs
      · exact wp_iand hd1 (hk _ _ _ _ _ _ hs)
      · exact hs.elim
  | ior =>
      simp only [mOp] at hs
      simp only [mTg, decide_eq_true_eq] at hg
      have hd1 := mDl hd hg
      clear hd
      subst hg
      split at hs
      · exact wp_ior hd1 (hk _ _ _ _ _ _ hs)
      · exact hs.elim
  | ixor =>
      simp only [mOp] at hs
      simp only [mTg, decide_eq_true_eq] at hg
      have hd1 := mDl hd hg
      clear hd
      subst hg
      split at hs
      · exact wp_ixor hd1 (hk _ _ _ _ _ _ hs)
      · exact hs.elim
  | ishl =>
      simp only [mOp] at hs
      simp only [mTg, decide_eq_true_eq] at hg
      have hd1 := mDl hd hg
      clear hd
      subst hg
      split at hs
      · exact wp_ishl hd1 (hk _ _ _ _ _ _ hs)
      · exact hs.elim
  | ishr =>
      simp only [mOp] at hs
      simp only [mTg, decide_eq_true_eq] at hg
      have hd1 := mDl hd hg
      clear hd
      subst hg
      split at hs
      · exact wp_ishr hd1 (hk _ _ _ _ _ _ hs)
      · exact hs.elim
  | iushr =>
      simp only [mOp] at hs
      simp only [mTg, decide_eq_true_eq] at hg
      have hd1 := mDl hd hg
      clear hd
      subst hg
      split at hs
      · exact wp_iushr hd1 (hk _ _ _ _ _ _ hs)
      · exact hs.elim
  | ineg =>
      simp only [mOp] at hs
      simp only [mTg, decide_eq_true_eq] at hg
      have hd1 := mDl hd hg
      clear hd
      subst hg
      split at hs
      · exact wp_ineg hd1 (hk _ _ _ _ _ _ hs)
      · exact hs.elim
  | ladd =>
      simp only [mOp] at hs
      simp only [mTg, decide_eq_true_eq] at hg
      have hd1 := mDl hd hg
      clear hd
      subst hg
      split at hs
      · exact wp_ladd hd1 (hk _ _ _ _ _ _ hs)
      · exact hs.elim
  | lsub =>
      simp only [mOp] at hs
      simp only [mTg, decide_eq_true_eq] at hg
      have hd1 := mDl hd hg
      clear hd
      subst hg
      split at hs
      · exact wp_lsub hd1 (hk _ _ _ _ _ _ hs)
      · exact hs.elim
  | lmul =>
      simp only [mOp] at hs
      simp only [mTg, decide_eq_true_eq] at hg
      have hd1 := mDl hd hg
      clear hd
      subst hg
      split at hs
      · exact wp_lmul hd1 (hk _ _ _ _ _ _ hs)
      · exact hs.elim
  | land =>
      simp only [mOp] at hs
      simp only [mTg, decide_eq_true_eq] at hg
      have hd1 := mDl hd hg
      clear hd
      subst hg
      split at hs
      · exact wp_land hd1 (hk _ _ _ _ _ _ hs)
      · exact hs.elim
  | lor =>
      simp only [mOp] at hs
      simp only [mTg, decide_eq_true_eq] at hg
      have hd1 := mDl hd hg
      clear hd
      subst hg
      split at hs
      · exact wp_lor hd1 (hk _ _ _ _ _ _ hs)
      · exact hs.elim
  | lshl =>
      simp only [mOp] at hs
      simp only [mTg, decide_eq_true_eq] at hg
      have hd1 := mDl hd hg
      clear hd
      subst hg
      split at hs
      · exact wp_lshl hd1 (hk _ _ _ _ _ _ hs)
      · exact hs.elim
  | lshr =>
      simp only [mOp] at hs
      simp only [mTg, decide_eq_true_eq] at hg
      have hd1 := mDl hd hg
      clear hd
      subst hg
      split at hs
      · exact wp_lshr hd1 (hk _ _ _ _ _ _ hs)
      · exact hs.elim
  | lcmp =>
      simp only [mOp] at hs
      simp only [mTg, decide_eq_true_eq] at hg
      have hd1 := mDl hd hg
      clear hd
      subst hg
      split at hs
      · exact wp_lcmp hd1 (hk _ _ _ _ _ _ hs)
      · exact hs.elim
  | i2l =>
      simp only [mOp] at hs
      simp only [mTg, decide_eq_true_eq] at hg
      have hd1 := mDl hd hg
      clear hd
      subst hg
      split at hs
      · exact wp_i2l hd1 (hk _ _ _ _ _ _ hs)
      · exact hs.elim
  | l2i =>
      simp only [mOp] at hs
      simp only [mTg, decide_eq_true_eq] at hg
      have hd1 := mDl hd hg
      clear hd
      subst hg
      split at hs
      · exact wp_l2i hd1 (hk _ _ _ _ _ _ hs)
      · exact hs.elim
  | i2b =>
      simp only [mOp] at hs
      simp only [mTg, decide_eq_true_eq] at hg
      have hd1 := mDl hd hg
      clear hd
      subst hg
      split at hs
      · exact wp_i2b hd1 (hk _ _ _ _ _ _ hs)
      · exact hs.elim
  | i2s =>
      simp only [mOp] at hs
      simp only [mTg, decide_eq_true_eq] at hg
      have hd1 := mDl hd hg
      clear hd
      subst hg
      split at hs
      · exact wp_i2s hd1 (hk _ _ _ _ _ _ hs)
      · exact hs.elim
  | idiv =>
      simp only [mOp] at hs
      simp only [mTg, decide_eq_true_eq] at hg
      have hd1 := mDl hd hg
      clear hd
      subst hg
      split at hs
      · exact wp_idiv hd1 hs.1 (hk _ _ _ _ _ _ hs.2)
      · exact hs.elim
  | irem =>
      simp only [mOp] at hs
      simp only [mTg, decide_eq_true_eq] at hg
      have hd1 := mDl hd hg
      clear hd
      subst hg
      split at hs
      · exact wp_irem hd1 hs.1 (hk _ _ _ _ _ _ hs.2)
      · exact hs.elim
  | ldiv =>
      simp only [mOp] at hs
      simp only [mTg, decide_eq_true_eq] at hg
      have hd1 := mDl hd hg
      clear hd
      subst hg
      split at hs
      · exact wp_ldiv hd1 hs.1 (hk _ _ _ _ _ _ hs.2)
      · exact hs.elim
  | lrem =>
      simp only [mOp] at hs
      simp only [mTg, decide_eq_true_eq] at hg
      have hd1 := mDl hd hg
      clear hd
      subst hg
      split at hs
      · exact wp_lrem hd1 hs.1 (hk _ _ _ _ _ _ hs.2)
      · exact hs.elim
  | dup =>
      simp only [mOp] at hs
      simp only [mTg, decide_eq_true_eq] at hg
      have hd1 := mDl hd hg
      clear hd
      subst hg
      split at hs
      · exact wp_dup hd1 rfl (hk _ _ _ _ _ _ hs)
      · exact wp_dup hd1 rfl (hk _ _ _ _ _ _ hs)
      · exact hs.elim
  | pop =>
      simp only [mOp] at hs
      simp only [mTg, decide_eq_true_eq] at hg
      have hd1 := mDl hd hg
      clear hd
      subst hg
      split at hs
      · exact wp_pop hd1 rfl (hk _ _ _ _ _ _ hs)
      · exact wp_pop hd1 rfl (hk _ _ _ _ _ _ hs)
      · exact hs.elim
  | dup2 =>
      simp only [mOp] at hs
      simp only [mTg, decide_eq_true_eq] at hg
      have hd1 := mDl hd hg
      clear hd
      subst hg
      split at hs
      · exact wp_dup2_11 hd1 rfl rfl (hk _ _ _ _ _ _ hs)
      · exact wp_dup2_11 hd1 rfl rfl (hk _ _ _ _ _ _ hs)
      · exact wp_dup2_2 hd1 rfl (hk _ _ _ _ _ _ hs)
      · exact hs.elim
  | pop2 =>
      simp only [mOp] at hs
      simp only [mTg, decide_eq_true_eq] at hg
      have hd1 := mDl hd hg
      clear hd
      subst hg
      split at hs
      · exact wp_pop2_2 hd1 rfl (hk _ _ _ _ _ _ hs)
      · exact hs.elim
  | getfield j =>
      simp only [mOp] at hs
      simp only [mTg, decide_eq_true_eq] at hg
      have hd1 := mDl hd hg
      clear hd
      subst hg
      split at hs
      · split at hs
        · split at hs
          · replace hs := mCond hs
            obtain ⟨hb, hs⟩ := hs
            have hb := Nat.eq_of_beq_eq_true hb
            subst hb
            split at hs
            · exact wp_get hn hd1 ‹_› ‹_› ‹_› (hk _ _ _ _ _ _ hs)
            · exact hs.elim
          · exact hs.elim
        · exact hs.elim
      · exact hs.elim
  | putfield j =>
      simp only [mOp] at hs
      simp only [mTg, decide_eq_true_eq] at hg
      have hd1 := mDl hd hg
      clear hd
      subst hg
      split at hs
      · split at hs
        · split at hs
          · replace hs := mCond hs
            obtain ⟨hb, hs⟩ := hs
            simp only [Bool.and_eq_true] at hb
            obtain ⟨⟨⟨b1, b2⟩, b3⟩, b4⟩ := hb
            have b1 := Nat.eq_of_beq_eq_true b1
            subst b1
            simp only [mFin] at b4
            split at b4
            · rename_i rr hrr
              refine wp_put hn hd1 ‹_› ‹_› (by simpa using b2) hrr ?_ b3 (hk _ _ _ _ _ _ hs)
              cases hf : (rr.2.1 _).2.2.2 with
              | false => exact Or.inl rfl
              | true =>
                simp only [hf, cond_true, Bool.and_eq_true, Bool.not_eq_true', decide_eq_true_eq] at b4
                exact Or.inr ⟨rfl, b4.1.2, b4.2, b4.1.1⟩
            · cases b4
          · exact hs.elim
        · exact hs.elim
      · exact hs.elim
  | iaload =>
      simp only [mOp] at hs
      simp only [mTg, decide_eq_true_eq] at hg
      have hd1 := mDl hd hg
      clear hd
      subst hg
      split at hs
      · rename_i i k r
        cases hbk : Nat.blt k mSB with
        | true =>
          simp only [hbk, cond_true] at hs
          split at hs
          · exact wp_iald hd1 ‹_› hs.1 (hk _ _ _ _ _ _ hs.2)
          · exact hs.elim
        | false =>
          simp only [hbk, cond_false] at hs
          replace hs := mCond hs
          obtain ⟨hb, hs⟩ := hs
          have hb := Nat.eq_of_beq_eq_true hb
          subst hb
          exact wp_sald hd1 hs.1 (hk _ _ _ _ _ _ hs.2)
      · exact hs.elim
  | arraylength =>
      simp only [mOp] at hs
      simp only [mTg, decide_eq_true_eq] at hg
      have hd1 := mDl hd hg
      clear hd
      subst hg
      split at hs
      · rename_i k r
        cases hbk : Nat.blt k mSB with
        | true =>
          simp only [hbk, cond_true] at hs
          split at hs
          · rename_i t n g hk1
            replace hs := mCond hs
            obtain ⟨hb, hs⟩ := hs
            match t, hk1, hb with
            | 0, hk1, _ => exact wp_alen hd1 hk1 rfl (hk _ _ _ _ _ _ hs)
            | 1, hk1, _ => exact wp_alen hd1 hk1 rfl (hk _ _ _ _ _ _ hs)
            | 2, hk1, _ => exact wp_alen hd1 hk1 rfl (hk _ _ _ _ _ _ hs)
            | 3, hk1, _ => exact wp_alen hd1 hk1 rfl (hk _ _ _ _ _ _ hs)
            | 4, hk1, _ => exact wp_alen hd1 hk1 rfl (hk _ _ _ _ _ _ hs)
            | 5, hk1, _ => exact wp_alen hd1 hk1 rfl (hk _ _ _ _ _ _ hs)
            | t + 6, _, hb => exact absurd (by simpa using hb : t + 6 < 6) (by omega)
          · exact hs.elim
        | false =>
          simp only [hbk, cond_false] at hs
          replace hs := mCond hs
          obtain ⟨hb, hs⟩ := hs
          have hb := Nat.eq_of_beq_eq_true hb
          subst hb
          exact wp_slen hd1 (hk _ _ _ _ _ _ hs)
      · exact hs.elim
  | laload =>
      simp only [mOp] at hs
      simp only [mTg, decide_eq_true_eq] at hg
      have hd1 := mDl hd hg
      clear hd
      subst hg
      split at hs
      · split at hs
        · exact wp_lald hd1 ‹_› hs.1 (hk _ _ _ _ _ _ hs.2)
        · exact hs.elim
      · exact hs.elim
  | baload =>
      simp only [mOp] at hs
      simp only [mTg, decide_eq_true_eq] at hg
      have hd1 := mDl hd hg
      clear hd
      subst hg
      split at hs
      · split at hs
        · exact wp_bald hd1 ‹_› hs.1 (hk _ _ _ _ _ _ hs.2)
        · exact wp_zald hd1 ‹_› hs.1 (hk _ _ _ _ _ _ hs.2)
        · exact hs.elim
      · exact hs.elim
  | iastore =>
      simp only [mOp] at hs
      simp only [mTg, decide_eq_true_eq] at hg
      have hd1 := mDl hd hg
      clear hd
      subst hg
      split at hs
      · split at hs
        · exact wp_iast hd1 ‹_› hs.1 (hk _ _ _ _ _ _ hs.2)
        · exact hs.elim
      · exact hs.elim
  | lastore =>
      simp only [mOp] at hs
      simp only [mTg, decide_eq_true_eq] at hg
      have hd1 := mDl hd hg
      clear hd
      subst hg
      split at hs
      · split at hs
        · exact wp_last hd1 ‹_› hs.1 (hk _ _ _ _ _ _ hs.2)
        · exact hs.elim
      · exact hs.elim
  | bastore =>
      simp only [mOp] at hs
      simp only [mTg, decide_eq_true_eq] at hg
      have hd1 := mDl hd hg
      clear hd
      subst hg
      split at hs
      · split at hs
        · exact wp_bast hd1 ‹_› hs.1 (hk _ _ _ _ _ _ hs.2)
        · exact wp_zast hd1 ‹_› hs.1 (hk _ _ _ _ _ _ hs.2)
        · exact hs.elim
      · exact hs.elim
  | aaload =>
      simp only [mOp] at hs
      simp only [mTg, decide_eq_true_eq] at hg
      have hd1 := mDl hd hg
      clear hd
      subst hg
      split at hs
      · split at hs
        · exact wp_aald hd1 ‹_› rfl hs.1 (hk _ _ _ _ _ _ hs.2)
        · exact wp_aald hd1 ‹_› rfl hs.1 (hk _ _ _ _ _ _ hs.2)
        · exact hs.elim
      · exact hs.elim
  | aastore =>
      simp only [mOp] at hs
      simp only [mTg, decide_eq_true_eq] at hg
      have hd1 := mDl hd hg
      clear hd
      subst hg
      split at hs
      · split at hs
        · exact wp_aast hd1 ‹_› ‹_› rfl rfl hs.1 (hk _ _ _ _ _ _ hs.2)
        · exact wp_aast hd1 ‹_› ‹_› rfl rfl hs.1 (hk _ _ _ _ _ _ hs.2)
        · exact hs.elim
      · exact hs.elim
  | ireturn =>
      simp only [mOp] at hs
      simp only [mTg, decide_eq_true_eq] at hg
      have hd1 := mDl hd hg
      clear hd
      subst hg
      split at hs
      · split at hs
        · exact wp_iret hd1 ‹_› hs
        · exact wp_zret hs.1 hd1 ‹_› hs.2
        · exact hs.elim
      · exact hs.elim
  | lreturn =>
      simp only [mOp] at hs
      simp only [mTg, decide_eq_true_eq] at hg
      have hd1 := mDl hd hg
      clear hd
      subst hg
      split at hs
      · exact wp_lret hd1 ‹_› hs
      · exact hs.elim
  | areturn =>
      simp only [mOp] at hs
      simp only [mTg, decide_eq_true_eq] at hg
      have hd1 := mDl hd hg
      clear hd
      subst hg
      split at hs
      · exact wp_aret hd1 ‹_› hs
      · exact hs.elim
  | return_ =>
      simp only [mOp] at hs
      simp only [mTg, decide_eq_true_eq] at hg
      have hd1 := mDl hd hg
      clear hd
      subst hg
      split at hs
      · exact wp_vret hd1 ‹_› hs
      · exact hs.elim
  | new j =>
      simp only [mOp] at hs
      simp only [mTg, decide_eq_true_eq] at hg
      have hd1 := mDl hd hg
      clear hd
      subst hg
      split at hs
      · rename_i n ic hx
        split at hs
        · rename_i q3 t3 is n1 t4 h3 h4
          split at hs
          · rename_i ic2 n2 t5 q6 h5 h6
            split at hs
            · rename_i n9 t9 h7
              replace hs := mCond hs
              obtain ⟨hb, hs⟩ := hs
              simp only [Bool.and_eq_true] at hb
              obtain ⟨⟨⟨⟨⟨b1, b2⟩, b3⟩, b4⟩, b5⟩, b6⟩ := hb
              have b1 := Nat.eq_of_beq_eq_true b1
              subst b1
              have b2 := Nat.eq_of_beq_eq_true b2
              have d3 := mTb_at hok h3
              have d4 := mTb_at hok h4
              obtain ⟨e4, d4⟩ := d4
              have d5 := mTb_at hok h5
              obtain ⟨e5, d5⟩ := d5
              have d6 := mTb_at hok h7
              have e4 : n1 = pc + 4 + 2 := e4
              have e5 : n2 = n1 + 3 := e5
              subst e4
              subst e5
              rw [b2] at hx
              obtain ⟨tx, sn⟩ := q6
              exact wp_throw b2 hn (List.isEmpty_iff.mp b6) hx h6 (Nat.le_of_ble_eq_true b3) (Nat.le_of_ble_eq_true b4) (by rw [← mCs_eq]; exact Nat.le_of_ble_eq_true b5) hd1 d3.2 (Or.inl ⟨d4, d5, d6.2⟩) hs
            · exact hs.elim
          · exact hs.elim
        · rename_i q3 t3 is n1 t4 h3 h4
          split at hs
          · rename_i ic2 n2 t5 q6 h5 h6
            split at hs
            · rename_i n9 t9 h7
              replace hs := mCond hs
              obtain ⟨hb, hs⟩ := hs
              simp only [Bool.and_eq_true] at hb
              obtain ⟨⟨⟨⟨⟨b1, b2⟩, b3⟩, b4⟩, b5⟩, b6⟩ := hb
              have b1 := Nat.eq_of_beq_eq_true b1
              subst b1
              have b2 := Nat.eq_of_beq_eq_true b2
              have d3 := mTb_at hok h3
              have d4 := mTb_at hok h4
              obtain ⟨e4, d4⟩ := d4
              have d5 := mTb_at hok h5
              obtain ⟨e5, d5⟩ := d5
              have d6 := mTb_at hok h7
              have e4 : n1 = pc + 4 + 3 := e4
              have e5 : n2 = n1 + 3 := e5
              subst e4
              subst e5
              rw [b2] at hx
              obtain ⟨tx, sn⟩ := q6
              exact wp_throw b2 hn (List.isEmpty_iff.mp b6) hx h6 (Nat.le_of_ble_eq_true b3) (Nat.le_of_ble_eq_true b4) (by rw [← mCs_eq]; exact Nat.le_of_ble_eq_true b5) hd1 d3.2 (Or.inr ⟨d4, d5, d6.2⟩) hs
            · exact hs.elim
          · exact hs.elim
        · exact hs.elim
      · split at hs
        · rename_i ci hci
          split at hs
          · rename_i r hr
            replace hs := mCond hs
            obtain ⟨hb, hs⟩ := hs
            simp only [Bool.and_eq_true] at hb
            have hw := mCt_ok ⟨_, hoc⟩ _ (mLk_mem hci)
            have hw2 := mCi_ok ⟨ci, hw.2⟩ r hr
            have hw1 := hw.1
            simp only [← hw2.2.2] at hw1
            exact wp_new hn hd1 hr hw1 hw2.1 hw2.2.1 (Nat.le_of_ble_eq_true hb.1) (Nat.le_of_ble_eq_true hb.2) hs.1.2 hs.1.1 (hk _ _ _ _ _ _ hs.2)
          · exact hs.elim
        · exact hs.elim
  | newarray a =>
      simp only [mOp] at hs
      simp only [mTg, decide_eq_true_eq] at hg
      have hd1 := mDl hd hg
      clear hd
      subst hg
      split at hs
      · replace hs := mCond hs
        obtain ⟨hb, hs⟩ := hs
        exact wp_newa hd1 ‹_› hs.1.1 hs.1.2.1 (Nat.le_of_ble_eq_true hb) hs.1.2.2.1 hs.1.2.2.2.2 hs.1.2.2.2.1 (hk _ _ _ _ _ _ hs.2)
      · exact hs.elim
  | anewarray j =>
      simp only [mOp] at hs
      simp only [mTg, decide_eq_true_eq] at hg
      have hd1 := mDl hd hg
      clear hd
      subst hg
      split at hs
      · rename_i hci
        replace hs := mCond hs
        obtain ⟨hb, hs⟩ := hs
        exact wp_newq (ci := 7) hn hd1 (Or.inl ⟨rfl, rfl⟩) (mCt_ok ⟨_, hoc⟩ _ (mLk_mem hci)).1 hs.1.1 hs.1.2.1 (Nat.le_of_ble_eq_true hb) hs.1.2.2.1 hs.1.2.2.2.2 hs.1.2.2.2.1 (hk _ _ _ _ _ _ hs.2)
      · rename_i hci
        replace hs := mCond hs
        obtain ⟨hb, hs⟩ := hs
        exact wp_newq (ci := 2) hn hd1 (Or.inr ⟨rfl, rfl⟩) (mCt_ok ⟨_, hoc⟩ _ (mLk_mem hci)).1 hs.1.1 hs.1.2.1 (Nat.le_of_ble_eq_true hb) hs.1.2.2.1 hs.1.2.2.2.2 hs.1.2.2.2.1 (hk _ _ _ _ _ _ hs.2)
      · exact hs.elim
  | invokevirtual j =>
      simp only [mOp] at hs
      simp only [mTg, decide_eq_true_eq] at hg
      have hd1 := mDl hd hg
      clear hd
      subst hg
      split at hs
      · rename_i kd n M2 hq
        obtain ⟨as, r, rfl, hlen, hs⟩ := mPop_spec hs
        rw [List.append_nil] at hs
        split at hs
        · rename_i k rest
          split at hs
          · rename_i ci fs hk1
            replace hs := mCond hs
            obtain ⟨hb, hs⟩ := hs
            have hb := Nat.eq_of_beq_eq_true hb
            subst hb
            split at hs
            · obtain ⟨c1, c2, c3, c4, d2, Q2, c5, c6, c7, c8⟩ := mInv_spec hs
              cases hhm : M.2.2.2.2.1 with
              | nil => exact wp_call0 hn hd1 hq hlen hk1 c1 c5 c2 c3 c4 c6 (fun r h1 hq1 => hk _ _ _ _ _ _ (c7 r h1 hq1)) hhm (fun E h1 hq1 => by
                  have q := c8 E h1 hq1
                  simp only [mXc, hhm] at q
                  exact q)
              | cons h0 hr0 =>
                have hrow : ∀ (E : Nat) (h1 : mH), Q2 (.inr E) h1 → E < 4 ∧ M.2.2.2.1 = some .int ∧ ∃ (hp j : Nat) (v : Int), mHd pc E M.2.2.2.2.1 = some hp ∧ ((decode M.2.1 hp = .ok (.astore j, 2) ∧ decode M.2.1 (hp + 2) = .ok (.iconst v, 1) ∧ decode M.2.1 (hp + 3) = .ok (.ireturn, 1)) ∨ (∃ i : Fin 4, (i : Nat) = j ∧ decode M.2.1 hp = .ok (.astore_n i, 1) ∧ decode M.2.1 (hp + 1) = .ok (.iconst v, 1) ∧ decode M.2.1 (hp + 2) = .ok (.ireturn, 1))) ∧ j < M.2.2.1 ∧ Q (.inl (some (.int (Int32.ofInt v)))) h1 := by
                  intro E h1 hq1
                  have q := c8 E h1 hq1
                  simp only [mXc, hhm] at q
                  rw [← hhm] at q
                  obtain ⟨qb, q⟩ := mCond q
                  refine ⟨by simpa using qb, ?_⟩
                  split at q
                  · rename_i hp hhp
                    split at q
                    · rename_i j n1 t1 e1
                      split at q
                      · rename_i v n2 t2 e2
                        split at q
                        · rename_i n3 t3 e3
                          obtain ⟨qj, q⟩ := mCond q
                          split at q
                          · rename_i hrt
                            obtain ⟨f1, g1⟩ := mTb_at hok e1
                            obtain ⟨f2, g2⟩ := mTb_at hok e2
                            obtain ⟨f3, g3⟩ := mTb_at hok e3
                            have f1 : n1 = hp + 2 := f1
                            have f2 : n2 = n1 + 1 := f2
                            subst f1
                            subst f2
                            exact ⟨hrt, hp, j, v, hhp, Or.inl ⟨g1, g2, g3⟩, by simpa using qj, q⟩
                          · exact q.elim
                        · exact q.elim
                      · exact q.elim
                    · rename_i j n1 t1 e1
                      split at q
                      · rename_i v n2 t2 e2
                        split at q
                        · rename_i n3 t3 e3
                          obtain ⟨qj, q⟩ := mCond q
                          split at q
                          · rename_i hrt
                            obtain ⟨f1, g1⟩ := mTb_at hok e1
                            obtain ⟨f2, g2⟩ := mTb_at hok e2
                            obtain ⟨f3, g3⟩ := mTb_at hok e3
                            have f1 : n1 = hp + 1 := f1
                            have f2 : n2 = n1 + 1 := f2
                            subst f1
                            subst f2
                            exact ⟨hrt, hp, j.val, v, hhp, Or.inr ⟨j, rfl, g1, g2, g3⟩, by simpa using qj, q⟩
                          · exact q.elim
                        · exact q.elim
                      · exact q.elim
                    · exact q.elim
                  · exact q.elim
                by_cases hrt : M.2.2.2.1 = some .int
                · exact wp_callC hn (hLw h0 hr0 hhm) hrt hd1 hq hlen hk1 c1 c5 c2 c3 c4 c6 (fun r h1 hq1 => hk _ _ _ _ _ _ (c7 r h1 hq1)) (fun E h1 hq1 => by
                    obtain ⟨x1, -, x3⟩ := hrow E h1 hq1
                    exact ⟨x1, x3⟩)
                · exact wp_callC hn (hLw h0 hr0 hhm) (hrw h0 hr0 hhm) hd1 hq hlen hk1 c1 c5 c2 c3 c4 c6 (fun r h1 hq1 => hk _ _ _ _ _ _ (c7 r h1 hq1)) (fun E h1 hq1 => absurd (hrow E h1 hq1).2.1 hrt)
            · obtain ⟨c1, c2, c3, c4, d2, Q2, c5, c6, c7, c8⟩ := mInv_spec hs
              exact wp_call1 hn hd1 hq hlen hk1 c1 c5 c2 c3 c4 c6 (fun r h1 hq1 => hk _ _ _ _ _ _ (c7 r h1 hq1)) (fun E h1 hq1 => c8 E h1 hq1)
            · exact hs.elim
          · exact hs.elim
        · exact hs.elim
      · exact hs.elim
  | invokestatic j =>
      simp only [mOp] at hs
      simp only [mTg, decide_eq_true_eq] at hg
      have hnoS : ∀ h0 hr0, M.2.2.2.2.1 = h0 :: hr0 → False := fun h0 hr0 e => by
        rcases hns with q | q
        · rw [q] at e; cases e
        · exact q _ (mLk_mem hlk) j rfl
      have hd1 := mDl hd hg
      clear hd
      subst hg
      split at hs
      · rename_i kd n M2 hq
        split at hs
        · obtain ⟨as, r, rfl, hlen, hs⟩ := mPop_spec hs
          rw [List.append_nil] at hs
          obtain ⟨c1, c2, c3, c4, d2, Q2, c5, c6, c7, c8⟩ := mInv_spec hs
          cases hhm : M.2.2.2.2.1 with
          | nil => exact wp_call2 hn hd1 hq hlen c1 c5 c2 c3 c4 c6 (fun r h1 hq1 => hk _ _ _ _ _ _ (c7 r h1 hq1)) hhm (fun E h1 hq1 => by
              have q := c8 E h1 hq1
              simp only [mXc, hhm] at q
              exact q)
          | cons h0 hr0 =>
            exfalso
            exact hnoS h0 hr0 hhm
        · obtain ⟨as, r, rfl, hlen, hs⟩ := mPop_spec hs
          rw [List.append_nil] at hs
          obtain ⟨c1, c2, c3, c4, d2, Q2, c5, c6, c7, c8⟩ := mInv_spec hs
          exact wp_call3 hn hd1 hq hlen c1 c5 c2 c3 c4 c6 (fun r h1 hq1 => hk _ _ _ _ _ _ (c7 r h1 hq1)) (fun E h1 hq1 => c8 E h1 hq1)
        · obtain ⟨as, r, rfl, hlen, hs⟩ := mPop_spec hs
          rw [List.append_nil] at hs
          obtain ⟨c1, c2, c3, c4, d2, Q2, c5, c6, c7, c8⟩ := mInv_spec hs
          exact wp_call8 hn hd1 hq hlen c1 c5 c2 c3 c4 c6 (fun r h1 hq1 => hk _ _ _ _ _ _ (c7 r h1 hq1)) (fun E h1 hq1 => c8 E h1 hq1)
        · split at hs
          · split at hs
            · replace hs := mCond hs
              obtain ⟨hb, hs⟩ := hs
              obtain ⟨ix, hw⟩ := mMt_ok _ (mLk_mem hq)
              exact wp_copy hn hd1 (mIs_mem hw) ‹_› ‹_› hs.1.1 hs.1.2.1 hs.1.2.2.1 hs.1.2.2.2.1 hs.1.2.2.2.2 (by rw [← mCs_eq]; exact Nat.le_of_ble_eq_true hb) (hk _ _ _ _ _ _ hs.2)
            · exact hs.elim
          · exact hs.elim
        · split at hs
          · replace hs := mCond hs
            obtain ⟨hb, hs⟩ := hs
            obtain ⟨ix, hw⟩ := mMt_ok _ (mLk_mem hq)
            exact wp_mmin hn hd1 (mIs_mem hw) (by rw [← mCs_eq]; exact Nat.le_of_ble_eq_true hb) (hk _ _ _ _ _ _ hs)
          · exact hs.elim
        · split at hs
          · replace hs := mCond hs
            obtain ⟨hb, hs⟩ := hs
            obtain ⟨ix, hw⟩ := mMt_ok _ (mLk_mem hq)
            exact wp_mmax hn hd1 (mIs_mem hw) (by rw [← mCs_eq]; exact Nat.le_of_ble_eq_true hb) (hk _ _ _ _ _ _ hs)
          · exact hs.elim
        · split at hs
          · replace hs := mCond hs
            obtain ⟨hb, hs⟩ := hs
            obtain ⟨ix, hw⟩ := mMt_ok _ (mLk_mem hq)
            exact wp_mabs hn hd1 (mIs_mem hw) (by rw [← mCs_eq]; exact Nat.le_of_ble_eq_true hb) (hk _ _ _ _ _ _ hs)
          · exact hs.elim
        · split at hs
          · replace hs := mCond hs
            obtain ⟨hb, hs⟩ := hs
            obtain ⟨ix, hw⟩ := mMt_ok _ (mLk_mem hq)
            exact wp_mmaxl hn hd1 (mIs_mem hw) (by rw [← mCs_eq]; exact Nat.le_of_ble_eq_true hb) (hk _ _ _ _ _ _ hs)
          · exact hs.elim
        · exact hs.elim
      · exact hs.elim
  | invokespecial j =>
      simp only [mOp] at hs
      simp only [mTg, decide_eq_true_eq] at hg
      have hd1 := mDl hd hg
      clear hd
      subst hg
      split at hs
      · rename_i kd n M2 hq
        split at hs
        · obtain ⟨as, r, rfl, hlen, hs⟩ := mPop_spec hs
          rw [List.append_nil] at hs
          split at hs
          · obtain ⟨c1, c2, c3, c4, d2, Q2, c5, c6, c7, c8⟩ := mInv_spec hs
            exact wp_call4 hn hd1 hq hlen c1 c5 c2 c3 c4 c6 (fun r h1 hq1 => hk _ _ _ _ _ _ (c7 r h1 hq1)) (fun E h1 hq1 => c8 E h1 hq1)
          · exact hs.elim
        · obtain ⟨as, r, rfl, hlen, hs⟩ := mPop_spec hs
          rw [List.append_nil] at hs
          split at hs
          · obtain ⟨c1, c2, c3, c4, d2, Q2, c5, c6, c7, c8⟩ := mInv_spec hs
            exact wp_call5 hn hd1 hq hlen c1 c5 c2 c3 c4 c6 (fun r h1 hq1 => hk _ _ _ _ _ _ (c7 r h1 hq1)) (fun E h1 hq1 => c8 E h1 hq1)
          · exact hs.elim
        · split at hs
          · replace hs := mCond hs
            obtain ⟨hb, hs⟩ := hs
            obtain ⟨ix, hw⟩ := mMt_ok _ (mLk_mem hq)
            exact wp_obj hn hd1 (mIs_mem hw) (by rw [← mCs_eq]; exact Nat.le_of_ble_eq_true hb) (hk _ _ _ _ _ _ hs)
          · exact hs.elim
        · exact hs.elim
      · exact hs.elim
  | _ => exact hs.elim
theorem mRun_sound {tb : mTb} {cuts : List Nat} (hM : mOkM M) (hns : mNoSt M tb) (hok : ∀ q ∈ tb, mTbOk M.2.1 q = true) : ∀ (f pc : Nat) (L : List (Option Value)) (st : List Value) (h : mH) (bc bs : Nat), mRun X M d Q tb cuts f pc L st h bc bs → mWP X M d Q pc L st h bc bs
  | 0, _, _, _, _, _, _, hs => hs
  | f + 1, pc, L, st, h, bc, bs, hs => by
    simp only [mRun] at hs
    split at hs
    · rename_i i nx tg hlk
      refine mOp_sound hM hns hok hlk (fun pc L st h bc bs q => ?_) hs
      cases hc : cuts.elem pc with
      | true => rw [hc] at q; exact q
      | false => rw [hc] at q; exact mRun_sound hM hns hok f pc L st h bc bs q
    · exact hs.elim
end mSn
end
section
/-! a method from its entry -/
def mEnt : List Value → List (Option Value)
  | [] => []
  | .long x :: r => some (.long x) :: none :: mEnt r
  | .double x :: r => some (.double x) :: none :: mEnt r
  | .int x :: r => some (.int x) :: mEnt r
  | .float x :: r => some (.float x) :: mEnt r
  | .null :: r => some .null :: mEnt r
  | .ref x :: r => some (.ref x) :: mEnt r
  | .retAddr x :: r => some (.retAddr x) :: mEnt r
def mPad (n : Nat) (l : List (Option Value)) : List (Option Value) := match n, l with
  | n + 1, v :: r => v :: mPad n r
  | n + 1, [] => none :: mPad n []
  | 0, l => l
theorem mEnt_len (ad : Nat → Nat) : ∀ as : List Value, (lg_sl (as.map (mV ad))).length = (mEnt as).length
  | [] => rfl
  | v :: r => by
    have ih := mEnt_len ad r
    cases v <;> simp_all [lg_sl, mEnt, mV, Value.category]
theorem mEnt_at (ad : Nat → Nat) : ∀ (as : List Value) (k : Nat) (v : Value), (mEnt as)[k]? = some (some v) → (lg_sl (as.map (mV ad)))[k]? = some (.val (mV ad v))
  | [], k, v, h => by simp [mEnt] at h
  | w :: r, k, v, h => by
    have ih := mEnt_at ad r
    cases w with
    | long x =>
      match k, h with
      | 0, h => simp [mEnt] at h; subst h; simp [lg_sl, mV, Value.category]
      | 1, h => simp [mEnt] at h
      | k + 2, h => simpa [lg_sl, mV, Value.category] using ih k v (by simpa [mEnt] using h)
    | double x =>
      match k, h with
      | 0, h => simp [mEnt] at h; subst h; simp [lg_sl, mV, Value.category]
      | 1, h => simp [mEnt] at h
      | k + 2, h => simpa [lg_sl, mV, Value.category] using ih k v (by simpa [mEnt] using h)
    | int x =>
      match k, h with
      | 0, h => simp [mEnt] at h; subst h; simp [lg_sl, mV, Value.category]
      | k + 1, h => simpa [lg_sl, mV, Value.category] using ih k v (by simpa [mEnt] using h)
    | float x =>
      match k, h with
      | 0, h => simp [mEnt] at h; subst h; simp [lg_sl, mV, Value.category]
      | k + 1, h => simpa [lg_sl, mV, Value.category] using ih k v (by simpa [mEnt] using h)
    | null =>
      match k, h with
      | 0, h => simp [mEnt] at h; subst h; simp [lg_sl, mV, Value.category]
      | k + 1, h => simpa [lg_sl, mV, Value.category] using ih k v (by simpa [mEnt] using h)
    | ref x =>
      match k, h with
      | 0, h => simp [mEnt] at h; subst h; simp [lg_sl, mV, Value.category]
      | k + 1, h => simpa [lg_sl, mV, Value.category] using ih k v (by simpa [mEnt] using h)
    | retAddr x =>
      match k, h with
      | 0, h => simp [mEnt] at h; subst h; simp [lg_sl, mV, Value.category]
      | k + 1, h => simpa [lg_sl, mV, Value.category] using ih k v (by simpa [mEnt] using h)
theorem mPad_at : ∀ {n : Nat} {l : List (Option Value)} {k : Nat} {v : Value}, (mPad n l)[k]? = some (some v) → l[k]? = some (some v)
  | 0, l, k, v, h => h
  | n + 1, [], k, v, h => by
    match k, h with
    | 0, h => simp [mPad] at h
    | k + 1, h => exact absurd (mPad_at (n := n) (l := []) (k := k) (v := v) (by simpa [mPad] using h)) (by simp)
  | n + 1, w :: l, k, v, h => by
    match k, h with
    | 0, h => simpa [mPad] using h
    | k + 1, h => simpa using mPad_at (n := n) (l := l) (k := k) (v := v) (by simpa [mPad] using h)
/-- what is known of a method and its table, ahead of any run -/
def mGood (M : mM) (tb : mTb) : Prop := plainName M.1.cls = true ∧ mOkM M ∧ mNoSt M tb ∧ ∀ q ∈ tb, mTbOk M.2.1 q = true
section mEy
variable {X : mX} {M : mM} {d : Nat} {Q : mO → mH → Prop} {h : mH}
theorem mEv_of {as : List Value} (hp : plainName M.1.cls = true) (hlen : (mEnt as).length ≤ M.2.2.1) (k : mWP X M d Q 0 (mPad M.2.2.1 (mEnt as)) [] h M.2.2.2.2.2.2.1 M.2.2.2.2.2.2.2) : mEv X d M as h Q := by
  intro a0
  have body : ∀ p e s m args below meth c s₁, BodyLoose p X.1 M.1 (headSpec [mCode M] (mRm d M)) M.2.1 M.2.2.1 M.2.2.2.1 e s m args below meth c s₁ → c.maxLocals = M.2.2.1 → c.exceptionTable.toList = tableOf M.2.2.2.2.1 → mPc X a0 as h args s →
      W p X.1 e (headSpec [mCode M] (mRm d M)).room s m args below meth c s.heap [] 0 0 (vx_MQ below (mQc X a0 h.length Q) (mXC X a0 h.length Q) args s M.2.2.2.2.2.2.1 M.2.2.2.2.2.2.2 (mB X)) (entryFrame m args M.2.2.1) := by
    intro p e s m args below meth c s₁ B hml hex hv
    obtain ⟨rfl, hE, hW⟩ := hv
    have hl2 : (lg_sl (as.map (mV a0))).length ≤ M.2.2.1 := by rw [mEnt_len]; exact hlen
    have hl := lv_entry (as.map (mV a0)) (n := M.2.2.1) hl2
    rw [lg_entry_eq]
    refine k p e _ s m _ below meth c s.heap [] 0 0 a0 a0 h.length _ ⟨B.exec, B.bytes, hml, findClass_of_methodNamed B.named, B.returns, B.notSynchronized, hex, (name_of_methodNamed B.named B.method).1, hE, Nat.le_refl _, Nat.le_refl _⟩ ⟨hW, va_S.rf, fun _ _ => rfl, Nat.le_refl _, by show 0 + _ ≤ _; rw [Nat.zero_add]; exact Nat.le_refl _, by show 0 + _ ≤ _; rw [Nat.zero_add]; exact Nat.le_refl _⟩ ⟨hl.1, hl.2.1, fun i v hi => ?_⟩
    have h2 := mEnt_at a0 as i v (mPad_at hi)
    rw [List.getElem?_toArray, List.getElem?_append_left (List.getElem?_eq_some_iff.mp h2).1]
    exact h2
  cases hh : M.2.2.2.2.1 with
  | nil =>
    have hc : mCode M = .code M.1 M.2.1 M.2.2.1 M.2.2.2.1 := by simp only [mCode, hh]
    refine vx_ofW (cc := M.2.1) (maxL := M.2.2.1) (ret := M.2.2.2.1) (ws' := []) hp (by rw [hc]) (fun p e s m args below meth c s₁ B hml hex hv => body p e s m args below meth c s₁ B hml ?_ hv)
    rw [hh]
    cases he : c.exceptionTable.toList with
    | nil => rfl
    | cons x r => exact (hex x (by rw [he]; exact List.mem_cons_self)).elim
  | cons q r =>
    have hc : mCode M = .codeWith M.1 M.2.1 M.2.2.1 M.2.2.2.1 M.2.2.2.2.1 := by simp only [mCode, hh]
    refine vx_ofWH (cc := M.2.1) (maxL := M.2.2.1) (ret := M.2.2.2.1) (hh := M.2.2.2.2.1) (ws' := []) hp (by rw [hc]) (fun p e s m args below meth c s₁ B hml hv => body p e s m args below meth c s₁ B hml ?_ hv)
    exact vx_table (x := M.1) B (atoms_spec (ws := [mCode M]) B.pre (.codeWith M.1 M.2.1 M.2.2.1 M.2.2.2.1 M.2.2.2.2.1) (by rw [hc]; exact List.mem_cons_self))
theorem mEv_run {as : List Value} {tb : mTb} (g : mGood M tb) (f : Nat) (cuts : List Nat) (hlen : Nat.ble (mEnt as).length M.2.2.1 = true) (k : mRun X M d Q tb cuts f 0 (mPad M.2.2.1 (mEnt as)) [] h M.2.2.2.2.2.2.1 M.2.2.2.2.2.2.2) : mEv X d M as h Q := mEv_of g.1 (Nat.le_of_ble_eq_true hlen) (mRun_sound g.2.1 g.2.2.1 g.2.2.2 f _ _ _ _ _ _ k)
theorem mWP_run {tb : mTb} (g : mGood M tb) (f : Nat) (cuts : List Nat) {pc : Nat} {L : List (Option Value)} {st : List Value} {bc bs : Nat} (k : mRun X M d Q tb cuts f pc L st h bc bs) : mWP X M d Q pc L st h bc bs := mRun_sound g.2.1 g.2.2.1 g.2.2.2 f _ _ _ _ _ _ k
theorem mBr_i {c a b : Prop} (ha : c → a) (hb : ¬ c → b) : mBr c a b := ⟨ha, hb⟩
theorem mBr_t {c a b : Prop} (hc : c) (ha : a) : mBr c a b := ⟨fun _ => ha, fun q => (q hc).elim⟩
theorem mBr_f {c a b : Prop} (hc : ¬ c) (hb : b) : mBr c a b := ⟨fun q => (hc q).elim, fun _ => hb⟩
theorem mVc_i {c a : Prop} (hc : c) (ha : a) : mVc c a := ⟨hc, ha⟩
theorem mCl_i {d2 : Nat} {M2 : mM} {as : List Value} {K Q2 : mO → mH → Prop} (hE : mEv X d2 M2 as h Q2) (hd : d2 < d) (hk : ∀ (o : mO) (h1 : mH), Q2 o h1 → K o h1) : mCl X d M2 as h K := ⟨d2, Q2, hd, hE, hk⟩
/-- a call with one outcome -/
theorem mCl_e {d2 : Nat} {M2 : mM} {as : List Value} {K : mO → mH → Prop} {o : mO} {h1 : mH} (hE : mEv X d2 M2 as h (fun o9 h9 => o9 = o ∧ h9 = h1)) (hd : d2 < d) (hk : K o h1) : mCl X d M2 as h K := ⟨d2, _, hd, hE, fun o9 h9 q => by rw [q.1, q.2]; exact hk⟩
end mEy
end
section
def tX0_init : mTb := [(0, .aload_n 0, 1, []), (1, .invokespecial 3, 4, []), (4, .aload_n 0, 5, []), (5, .aload_n 1, 6, []), (6, .putfield 9, 9, []), (9, .return_, 10, [])]
theorem gX0_init : mGood mX0_init tX0_init := ⟨by decide, ⟨by decide, rfl, Or.inl rfl⟩, Or.inl rfl, by decide +kernel⟩
def tX0_waysToBeat : mTb := [(0, .iconst 0, 1, []), (1, .istore_n 3, 2, []), (2, .iconst 0, 3, []), (3, .istore 4, 5, []), (5, .iconst 1, 6, []), (6, .istore 5, 8, []), (8, .iload 5, 10, []), (10, .bipush 6, 12, []), (12, .if_icmp .gt 40, 15, [52]), (15, .iload_n 3, 16, []), (16, .aload_n 0, 17, []), (17, .getfield 9, 20, []), (20, .iload_n 1, 21, []), (21, .iload 5, 23, []), (23, .invokevirtual 15, 26, []), (26, .iload 4, 28, []), (28, .imul, 29, []), (29, .iadd, 30, []), (30, .istore_n 3, 31, []), (31, .iload 4, 33, []), (33, .aload_n 0, 34, []), (34, .getfield 9, 37, []), (37, .iload_n 2, 38, []), (38, .iload 5, 40, []), (40, .invokevirtual 15, 43, []), (43, .iadd, 44, []), (44, .istore 4, 46, []), (46, .iinc 5 1, 49, []), (49, .goto (-41), 52, [8]), (52, .iload_n 3, 53, []), (53, .ireturn, 54, [])]
theorem gX0_waysToBeat : mGood mX0_waysToBeat tX0_waysToBeat := ⟨by decide, ⟨by decide, rfl, Or.inl rfl⟩, Or.inl rfl, by decide +kernel⟩
def tX0_waysToTie : mTb := [(0, .iconst 0, 1, []), (1, .istore_n 3, 2, []), (2, .iconst 1, 3, []), (3, .istore 4, 5, []), (5, .iload 4, 7, []), (7, .bipush 6, 9, []), (9, .if_icmp .gt 33, 12, [42]), (12, .iload_n 3, 13, []), (13, .aload_n 0, 14, []), (14, .getfield 9, 17, []), (17, .iload_n 1, 18, []), (18, .iload 4, 20, []), (20, .invokevirtual 15, 23, []), (23, .aload_n 0, 24, []), (24, .getfield 9, 27, []), (27, .iload_n 2, 28, []), (28, .iload 4, 30, []), (30, .invokevirtual 15, 33, []), (33, .imul, 34, []), (34, .iadd, 35, []), (35, .istore_n 3, 36, []), (36, .iinc 4 1, 39, []), (39, .goto (-34), 42, [5]), (42, .iload_n 3, 43, []), (43, .ireturn, 44, [])]
theorem gX0_waysToTie : mGood mX0_waysToTie tX0_waysToTie := ⟨by decide, ⟨by decide, rfl, Or.inl rfl⟩, Or.inl rfl, by decide +kernel⟩
def tX0_isBetter : mTb := [(0, .aload_n 0, 1, []), (1, .iload_n 1, 2, []), (2, .iload_n 2, 3, []), (3, .invokevirtual 21, 6, []), (6, .aload_n 0, 7, []), (7, .iload_n 2, 8, []), (8, .iload_n 1, 9, []), (9, .invokevirtual 21, 12, []), (12, .if_icmp .le 7, 15, [19]), (15, .iconst 1, 16, []), (16, .goto 4, 19, [20]), (19, .iconst 0, 20, []), (20, .ireturn, 21, [])]
theorem gX0_isBetter : mGood mX0_isBetter tX0_isBetter := ⟨by decide, ⟨by decide, rfl, Or.inl rfl⟩, Or.inl rfl, by decide +kernel⟩
def tX0_strongestDie : mTb := [(0, .iconst (-1), 1, []), (1, .istore_n 1, 2, []), (2, .iconst (-1), 3, []), (3, .istore_n 2, 4, []), (4, .iconst 0, 5, []), (5, .istore_n 3, 6, []), (6, .iload_n 3, 7, []), (7, .aload_n 0, 8, []), (8, .getfield 9, 11, []), (11, .getfield 24, 14, []), (14, .if_icmp .ge 38, 17, [52]), (17, .aload_n 0, 18, []), (18, .iload_n 3, 19, []), (19, .invokevirtual 28, 22, []), (22, .istore 4, 24, []), (24, .aload_n 0, 25, []), (25, .getfield 9, 28, []), (28, .iload_n 3, 29, []), (29, .invokevirtual 32, 32, []), (32, .ifCond .ne 14, 35, [46]), (35, .iload 4, 37, []), (37, .iload_n 2, 38, []), (38, .if_icmp .le 8, 41, [46]), (41, .iload_n 3, 42, []), (42, .istore_n 1, 43, []), (43, .iload 4, 45, []), (45, .istore_n 2, 46, []), (46, .iinc 3 1, 49, []), (49, .goto (-43), 52, [6]), (52, .iload_n 1, 53, []), (53, .ireturn, 54, [])]
theorem gX0_strongestDie : mGood mX0_strongestDie tX0_strongestDie := ⟨by decide, ⟨by decide, rfl, Or.inl rfl⟩, Or.inl rfl, by decide +kernel⟩
def tX0_weakerOnes : mTb := [(0, .iconst 0, 1, []), (1, .istore_n 2, 2, []), (2, .iconst 0, 3, []), (3, .istore_n 3, 4, []), (4, .iload_n 3, 5, []), (5, .aload_n 0, 6, []), (6, .getfield 9, 9, []), (9, .getfield 24, 12, []), (12, .if_icmp .ge 26, 15, [38]), (15, .iload_n 2, 16, []), (16, .aload_n 0, 17, []), (17, .iload_n 1, 18, []), (18, .iload_n 3, 19, []), (19, .invokevirtual 36, 22, []), (22, .ifCond .eq 7, 25, [29]), (25, .iconst 1, 26, []), (26, .goto 4, 29, [30]), (29, .iconst 0, 30, []), (30, .iadd, 31, []), (31, .istore_n 2, 32, []), (32, .iinc 3 1, 35, []), (35, .goto (-31), 38, [4]), (38, .iload_n 2, 39, []), (39, .ireturn, 40, [])]
theorem gX0_weakerOnes : mGood mX0_weakerOnes tX0_weakerOnes := ⟨by decide, ⟨by decide, rfl, Or.inl rfl⟩, Or.inl rfl, by decide +kernel⟩
def tX0_ringAt : mTb := [(0, .iconst 0, 1, []), (1, .istore_n 2, 2, []), (2, .iconst 0, 3, []), (3, .istore_n 3, 4, []), (4, .iload_n 3, 5, []), (5, .aload_n 0, 6, []), (6, .getfield 9, 9, []), (9, .getfield 24, 12, []), (12, .if_icmp .ge 108, 15, [120]), (15, .iload_n 3, 16, []), (16, .iconst 1, 17, []), (17, .iadd, 18, []), (18, .istore 4, 20, []), (20, .iload 4, 22, []), (22, .aload_n 0, 23, []), (23, .getfield 9, 26, []), (26, .getfield 24, 29, []), (29, .if_icmp .ge 85, 32, [114]), (32, .iload_n 3, 33, []), (33, .iconst 1, 34, []), (34, .iadd, 35, []), (35, .istore 5, 37, []), (37, .iload 5, 39, []), (39, .aload_n 0, 40, []), (40, .getfield 9, 43, []), (43, .getfield 24, 46, []), (46, .if_icmp .ge 62, 49, [108]), (49, .aload_n 0, 50, []), (50, .iload_n 3, 51, []), (51, .iload 4, 53, []), (53, .invokevirtual 36, 56, []), (56, .ifCond .eq 46, 59, [102]), (59, .aload_n 0, 60, []), (60, .iload 4, 62, []), (62, .iload 5, 64, []), (64, .invokevirtual 36, 67, []), (67, .ifCond .eq 35, 70, [102]), (70, .aload_n 0, 71, []), (71, .iload 5, 73, []), (73, .iload_n 3, 74, []), (74, .invokevirtual 36, 77, []), (77, .ifCond .eq 25, 80, [102]), (80, .iload_n 2, 81, []), (81, .iload_n 1, 82, []), (82, .if_icmp .ne 17, 85, [99]), (85, .bipush 100, 87, []), (87, .iload_n 3, 88, []), (88, .imul, 89, []), (89, .bipush 10, 91, []), (91, .iload 4, 93, []), (93, .imul, 94, []), (94, .iadd, 95, []), (95, .iload 5, 97, []), (97, .iadd, 98, []), (98, .ireturn, 99, []), (99, .iinc 2 1, 102, []), (102, .iinc 5 1, 105, []), (105, .goto (-68), 108, [37]), (108, .iinc 4 1, 111, []), (111, .goto (-91), 114, [20]), (114, .iinc 3 1, 117, []), (117, .goto (-113), 120, [4]), (120, .iload_n 1, 121, []), (121, .iconst (-1), 122, []), (122, .if_icmp .ne 7, 125, [129]), (125, .iload_n 2, 126, []), (126, .goto 4, 129, [130]), (129, .iconst (-1), 130, []), (130, .ireturn, 131, [])]
theorem gX0_ringAt : mGood mX0_ringAt tX0_ringAt := ⟨by decide, ⟨by decide, rfl, Or.inl rfl⟩, Or.inl rfl, by decide +kernel⟩
def tX0_evenestTwo : mTb := [(0, .iconst (-1), 1, []), (1, .istore_n 1, 2, []), (2, .lconst 0, 3, []), (3, .lstore_n 2, 4, []), (4, .lconst 1, 5, []), (5, .lstore 4, 7, []), (7, .iconst 0, 8, []), (8, .istore 6, 10, []), (10, .iload 6, 12, []), (12, .aload_n 0, 13, []), (13, .getfield 9, 16, []), (16, .getfield 24, 19, []), (19, .if_icmp .ge 119, 22, [138]), (22, .iload 6, 24, []), (24, .iconst 1, 25, []), (25, .iadd, 26, []), (26, .istore 7, 28, []), (28, .iload 7, 30, []), (30, .aload_n 0, 31, []), (31, .getfield 9, 34, []), (34, .getfield 24, 37, []), (37, .if_icmp .ge 95, 40, [132]), (40, .aload_n 0, 41, []), (41, .getfield 9, 44, []), (44, .iload 6, 46, []), (46, .invokevirtual 40, 49, []), (49, .aload_n 0, 50, []), (50, .getfield 9, 53, []), (53, .iload 7, 55, []), (55, .invokevirtual 40, 58, []), (58, .imul, 59, []), (59, .i2l, 60, []), (60, .lstore 8, 62, []), (62, .aload_n 0, 63, []), (63, .iload 6, 65, []), (65, .iload 7, 67, []), (67, .invokevirtual 21, 70, []), (70, .aload_n 0, 71, []), (71, .iload 7, 73, []), (73, .iload 6, 75, []), (75, .invokevirtual 21, 78, []), (78, .isub, 79, []), (79, .invokestatic 43, 82, []), (82, .i2l, 83, []), (83, .lstore 10, 85, []), (85, .lload 8, 87, []), (87, .lconst 0, 88, []), (88, .lcmp, 89, []), (89, .ifCond .le 37, 92, [126]), (92, .iload_n 1, 93, []), (93, .iconst (-1), 94, []), (94, .if_icmp .eq 16, 97, [110]), (97, .lload 10, 99, []), (99, .lload 4, 101, []), (101, .lmul, 102, []), (102, .lload_n 2, 103, []), (103, .lload 8, 105, []), (105, .lmul, 106, []), (106, .lcmp, 107, []), (107, .ifCond .ge 19, 110, [126]), (110, .bipush 10, 112, []), (112, .iload 6, 114, []), (114, .imul, 115, []), (115, .iload 7, 117, []), (117, .iadd, 118, []), (118, .istore_n 1, 119, []), (119, .lload 10, 121, []), (121, .lstore_n 2, 122, []), (122, .lload 8, 124, []), (124, .lstore 4, 126, []), (126, .iinc 7 1, 129, []), (129, .goto (-101), 132, [28]), (132, .iinc 6 1, 135, []), (135, .goto (-125), 138, [10]), (138, .iload_n 1, 139, []), (139, .ireturn, 140, [])]
theorem gX0_evenestTwo : mGood mX0_evenestTwo tX0_evenestTwo := ⟨by decide, ⟨by decide, rfl, Or.inl rfl⟩, Or.inl rfl, by decide +kernel⟩
def tX1_init : mTb := [(0, .aload_n 0, 1, []), (1, .invokespecial 1, 4, []), (4, .return_, 5, [])]
theorem gX1_init : mGood mX1_init tX1_init := ⟨by decide, ⟨by decide, rfl, Or.inl rfl⟩, Or.inl rfl, by decide +kernel⟩
def tX1_begin : mTb := [(0, .aload_n 0, 1, []), (1, .iload_n 1, 2, []), (2, .putfield 7, 5, []), (5, .return_, 6, [])]
theorem gX1_begin : mGood mX1_begin tX1_begin := ⟨by decide, ⟨by decide, rfl, Or.inl rfl⟩, Or.inl rfl, by decide +kernel⟩
def tX1_draw : mTb := [(0, .aload_n 0, 1, []), (1, .ldc 13, 3, []), (3, .aload_n 0, 4, []), (4, .getfield 7, 7, []), (7, .imul, 8, []), (8, .sipush 12345, 11, []), (11, .iadd, 12, []), (12, .putfield 7, 15, []), (15, .aload_n 0, 16, []), (16, .getfield 7, 19, []), (19, .bipush 16, 21, []), (21, .iushr, 22, []), (22, .ireturn, 23, [])]
theorem gX1_draw : mGood mX1_draw tX1_draw := ⟨by decide, ⟨by decide, rfl, Or.inl rfl⟩, Or.inl rfl, by decide +kernel⟩
def tX2_init : mTb := [(0, .aload_n 0, 1, []), (1, .invokespecial 3, 4, []), (4, .aload_n 0, 5, []), (5, .iconst 5, 6, []), (6, .putfield 9, 9, []), (9, .aload_n 0, 10, []), (10, .bipush 39, 12, []), (12, .newarray .int, 14, []), (14, .putfield 15, 17, []), (17, .aload_n 0, 18, []), (18, .bipush 60, 20, []), (20, .newarray .int, 22, []), (22, .putfield 19, 25, []), (25, .aload_n 0, 26, []), (26, .sipush 2340, 29, []), (29, .newarray .int, 31, []), (31, .putfield 22, 34, []), (34, .return_, 35, [])]
theorem gX2_init : mGood mX2_init tX2_init := ⟨by decide, ⟨by decide, rfl, Or.inl rfl⟩, Or.inl rfl, by decide +kernel⟩
def tX2_begin : mTb := [(0, .aload_n 0, 1, []), (1, .aload_n 1, 2, []), (2, .getfield 25, 5, []), (5, .putfield 30, 8, []), (8, .aload_n 0, 9, []), (9, .aload_n 1, 10, []), (10, .getfield 31, 13, []), (13, .putfield 34, 16, []), (16, .aload_n 0, 17, []), (17, .aload_n 1, 18, []), (18, .getfield 35, 21, []), (21, .putfield 38, 24, []), (24, .aload_n 0, 25, []), (25, .aload_n 1, 26, []), (26, .getfield 39, 29, []), (29, .putfield 9, 32, []), (32, .aload_n 0, 33, []), (33, .iconst 0, 34, []), (34, .putfield 40, 37, []), (37, .aload_n 1, 38, []), (38, .getfield 43, 41, []), (41, .iconst 0, 42, []), (42, .aload_n 0, 43, []), (43, .getfield 15, 46, []), (46, .iconst 0, 47, []), (47, .bipush 39, 49, []), (49, .invokestatic 44, 52, []), (52, .return_, 53, [])]
theorem gX2_begin : mGood mX2_begin tX2_begin := ⟨by decide, ⟨by decide, rfl, Or.inl rfl⟩, Or.inl rfl, by decide +kernel⟩
def tX2_copyFrom : mTb := [(0, .aload_n 0, 1, []), (1, .aload_n 1, 2, []), (2, .getfield 30, 5, []), (5, .putfield 30, 8, []), (8, .aload_n 0, 9, []), (9, .aload_n 1, 10, []), (10, .getfield 34, 13, []), (13, .putfield 34, 16, []), (16, .aload_n 0, 17, []), (17, .aload_n 1, 18, []), (18, .getfield 38, 21, []), (21, .putfield 38, 24, []), (24, .aload_n 0, 25, []), (25, .aload_n 1, 26, []), (26, .getfield 9, 29, []), (29, .putfield 9, 32, []), (32, .aload_n 0, 33, []), (33, .aload_n 1, 34, []), (34, .getfield 40, 37, []), (37, .putfield 40, 40, []), (40, .aload_n 1, 41, []), (41, .getfield 15, 44, []), (44, .iconst 0, 45, []), (45, .aload_n 0, 46, []), (46, .getfield 15, 49, []), (49, .iconst 0, 50, []), (50, .bipush 39, 52, []), (52, .invokestatic 44, 55, []), (55, .aload_n 1, 56, []), (56, .getfield 19, 59, []), (59, .iconst 0, 60, []), (60, .aload_n 0, 61, []), (61, .getfield 19, 64, []), (64, .iconst 0, 65, []), (65, .bipush 60, 67, []), (67, .invokestatic 44, 70, []), (70, .aload_n 1, 71, []), (71, .getfield 22, 74, []), (74, .iconst 0, 75, []), (75, .aload_n 0, 76, []), (76, .getfield 22, 79, []), (79, .iconst 0, 80, []), (80, .sipush 2340, 83, []), (83, .invokestatic 44, 86, []), (86, .return_, 87, [])]
theorem gX2_copyFrom : mGood mX2_copyFrom tX2_copyFrom := ⟨by decide, ⟨by decide, rfl, Or.inl rfl⟩, Or.inl rfl, by decide +kernel⟩
def tX2_hasDie : mTb := [(0, .iload_n 1, 1, []), (1, .ifCond .lt 15, 4, [16]), (4, .iload_n 1, 5, []), (5, .aload_n 0, 6, []), (6, .getfield 34, 9, []), (9, .if_icmp .ge 7, 12, [16]), (12, .iconst 1, 13, []), (13, .goto 4, 16, [17]), (16, .iconst 0, 17, []), (17, .ireturn, 18, [])]
theorem gX2_hasDie : mGood mX2_hasDie tX2_hasDie := ⟨by decide, ⟨by decide, rfl, Or.inl rfl⟩, Or.inl rfl, by decide +kernel⟩
def tX2_hasHand : mTb := [(0, .iload_n 1, 1, []), (1, .ifCond .lt 15, 4, [16]), (4, .iload_n 1, 5, []), (5, .aload_n 0, 6, []), (6, .getfield 38, 9, []), (9, .if_icmp .ge 7, 12, [16]), (12, .iconst 1, 13, []), (13, .goto 4, 16, [17]), (16, .iconst 0, 17, []), (17, .ireturn, 18, [])]
theorem gX2_hasHand : mGood mX2_hasHand tX2_hasHand := ⟨by decide, ⟨by decide, rfl, Or.inl rfl⟩, Or.inl rfl, by decide +kernel⟩
def tX2_weight : mTb := [(0, .iload_n 1, 1, []), (1, .ifCond .lt 26, 4, [27]), (4, .iload_n 1, 5, []), (5, .aload_n 0, 6, []), (6, .getfield 34, 9, []), (9, .if_icmp .ge 18, 12, [27]), (12, .iload_n 2, 13, []), (13, .iconst 1, 14, []), (14, .if_icmp .lt 13, 17, [27]), (17, .iload_n 2, 18, []), (18, .bipush 6, 20, []), (20, .if_icmp .gt 7, 23, [27]), (23, .iconst 1, 24, []), (24, .goto 4, 27, [28]), (27, .iconst 0, 28, []), (28, .istore_n 3, 29, []), (29, .iload_n 3, 30, []), (30, .ifCond .eq 19, 33, [49]), (33, .aload_n 0, 34, []), (34, .getfield 15, 37, []), (37, .iload_n 1, 38, []), (38, .bipush 6, 40, []), (40, .imul, 41, []), (41, .iload_n 2, 42, []), (42, .iadd, 43, []), (43, .iconst 1, 44, []), (44, .isub, 45, []), (45, .iaload, 46, []), (46, .goto 4, 49, [50]), (49, .iconst 0, 50, []), (50, .ireturn, 51, [])]
theorem gX2_weight : mGood mX2_weight tX2_weight := ⟨by decide, ⟨by decide, rfl, Or.inl rfl⟩, Or.inl rfl, by decide +kernel⟩
def tX2_total : mTb := [(0, .iconst 0, 1, []), (1, .istore_n 2, 2, []), (2, .iconst 1, 3, []), (3, .istore_n 3, 4, []), (4, .iload_n 3, 5, []), (5, .bipush 6, 7, []), (7, .if_icmp .gt 18, 10, [25]), (10, .iload_n 2, 11, []), (11, .aload_n 0, 12, []), (12, .iload_n 1, 13, []), (13, .iload_n 3, 14, []), (14, .invokevirtual 50, 17, []), (17, .iadd, 18, []), (18, .istore_n 2, 19, []), (19, .iinc 3 1, 22, []), (22, .goto (-18), 25, [4]), (25, .iload_n 2, 26, []), (26, .ireturn, 27, [])]
theorem gX2_total : mGood mX2_total tX2_total := ⟨by decide, ⟨by decide, rfl, Or.inl rfl⟩, Or.inl rfl, by decide +kernel⟩
def tX2_allTotals : mTb := [(0, .iconst 0, 1, []), (1, .istore_n 1, 2, []), (2, .iconst 0, 3, []), (3, .istore_n 2, 4, []), (4, .iload_n 2, 5, []), (5, .aload_n 0, 6, []), (6, .getfield 34, 9, []), (9, .if_icmp .ge 17, 12, [26]), (12, .iload_n 1, 13, []), (13, .aload_n 0, 14, []), (14, .iload_n 2, 15, []), (15, .invokevirtual 54, 18, []), (18, .iadd, 19, []), (19, .istore_n 1, 20, []), (20, .iinc 2 1, 23, []), (23, .goto (-19), 26, [4]), (26, .iload_n 1, 27, []), (27, .ireturn, 28, [])]
theorem gX2_allTotals : mGood mX2_allTotals tX2_allTotals := ⟨by decide, ⟨by decide, rfl, Or.inl rfl⟩, Or.inl rfl, by decide +kernel⟩
def tX2_isGone : mTb := [(0, .aload_n 0, 1, []), (1, .iload_n 1, 2, []), (2, .invokevirtual 54, 5, []), (5, .ifCond .ne 7, 8, [12]), (8, .iconst 1, 9, []), (9, .goto 4, 12, [13]), (12, .iconst 0, 13, []), (13, .ireturn, 14, [])]
theorem gX2_isGone : mGood mX2_isGone tX2_isGone := ⟨by decide, ⟨by decide, rfl, Or.inl rfl⟩, Or.inl rfl, by decide +kernel⟩
def tX2_goneDice : mTb := [(0, .iconst 0, 1, []), (1, .istore_n 1, 2, []), (2, .iconst 0, 3, []), (3, .istore_n 2, 4, []), (4, .iload_n 2, 5, []), (5, .aload_n 0, 6, []), (6, .getfield 34, 9, []), (9, .if_icmp .ge 25, 12, [34]), (12, .iload_n 1, 13, []), (13, .aload_n 0, 14, []), (14, .iload_n 2, 15, []), (15, .invokevirtual 58, 18, []), (18, .ifCond .eq 7, 21, [25]), (21, .iconst 1, 22, []), (22, .goto 4, 25, [26]), (25, .iconst 0, 26, []), (26, .iadd, 27, []), (27, .istore_n 1, 28, []), (28, .iinc 2 1, 31, []), (31, .goto (-27), 34, [4]), (34, .iload_n 1, 35, []), (35, .ireturn, 36, [])]
theorem gX2_goneDice : mGood mX2_goneDice tX2_goneDice := ⟨by decide, ⟨by decide, rfl, Or.inl rfl⟩, Or.inl rfl, by decide +kernel⟩
def tX2_isSalt : mTb := [(0, .aload_n 0, 1, []), (1, .getfield 15, 4, []), (4, .bipush 30, 6, []), (6, .iaload, 7, []), (7, .iload_n 1, 8, []), (8, .ishr, 9, []), (9, .iconst 1, 10, []), (10, .iand, 11, []), (11, .iconst 1, 12, []), (12, .if_icmp .ne 7, 15, [19]), (15, .iconst 1, 16, []), (16, .goto 4, 19, [20]), (19, .iconst 0, 20, []), (20, .ireturn, 21, [])]
theorem gX2_isSalt : mGood mX2_isSalt tX2_isSalt := ⟨by decide, ⟨by decide, rfl, Or.inl rfl⟩, Or.inl rfl, by decide +kernel⟩
def tX2_makeSalt : mTb := [(0, .aload_n 0, 1, []), (1, .iload_n 1, 2, []), (2, .invokevirtual 62, 5, []), (5, .ifCond .eq 16, 8, [21]), (8, .aload_n 0, 9, []), (9, .getfield 15, 12, []), (12, .bipush 30, 14, []), (14, .dup2, 15, []), (15, .iaload, 16, []), (16, .iconst 1, 17, []), (17, .iload_n 1, 18, []), (18, .ishl, 19, []), (19, .ior, 20, []), (20, .iastore, 21, []), (21, .return_, 22, [])]
theorem gX2_makeSalt : mGood mX2_makeSalt tX2_makeSalt := ⟨by decide, ⟨by decide, rfl, Or.inl rfl⟩, Or.inl rfl, by decide +kernel⟩
def tX2_heat : mTb := [(0, .aload_n 0, 1, []), (1, .iload_n 1, 2, []), (2, .invokevirtual 65, 5, []), (5, .ifCond .eq 15, 8, [20]), (8, .aload_n 0, 9, []), (9, .getfield 15, 12, []), (12, .bipush 31, 14, []), (14, .iload_n 1, 15, []), (15, .iadd, 16, []), (16, .iaload, 17, []), (17, .goto 4, 20, [21]), (20, .iconst 0, 21, []), (21, .ireturn, 22, [])]
theorem gX2_heat : mGood mX2_heat tX2_heat := ⟨by decide, ⟨by decide, rfl, Or.inl rfl⟩, Or.inl rfl, by decide +kernel⟩
def tX2_cool : mTb := [(0, .aload_n 0, 1, []), (1, .iload_n 1, 2, []), (2, .invokevirtual 65, 5, []), (5, .ifCond .eq 13, 8, [18]), (8, .aload_n 0, 9, []), (9, .getfield 15, 12, []), (12, .bipush 31, 14, []), (14, .iload_n 1, 15, []), (15, .iadd, 16, []), (16, .iconst 0, 17, []), (17, .iastore, 18, []), (18, .return_, 19, [])]
theorem gX2_cool : mGood mX2_cool tX2_cool := ⟨by decide, ⟨by decide, rfl, Or.inl rfl⟩, Or.inl rfl, by decide +kernel⟩
def tX2_dieByLot : mTb := [(0, .aload_n 0, 1, []), (1, .iload_n 1, 2, []), (2, .invokevirtual 65, 5, []), (5, .ifCond .eq 15, 8, [20]), (8, .aload_n 0, 9, []), (9, .getfield 15, 12, []), (12, .bipush 35, 14, []), (14, .iload_n 1, 15, []), (15, .iadd, 16, []), (16, .iaload, 17, []), (17, .goto 4, 20, [21]), (20, .iconst (-1), 21, []), (21, .ireturn, 22, [])]
theorem gX2_dieByLot : mGood mX2_dieByLot tX2_dieByLot := ⟨by decide, ⟨by decide, rfl, Or.inl rfl⟩, Or.inl rfl, by decide +kernel⟩
def tX2_wear : mTb := [(0, .aload_n 0, 1, []), (1, .iload_n 1, 2, []), (2, .invokevirtual 62, 5, []), (5, .ifCond .eq 19, 8, [24]), (8, .iload_n 2, 9, []), (9, .i2l, 10, []), (10, .invokestatic 68, 13, []), (13, .ifCond .eq 11, 16, [24]), (16, .aload_n 0, 17, []), (17, .iload_n 1, 18, []), (18, .invokevirtual 72, 21, []), (21, .ifCond .eq 5, 24, [26]), (24, .iconst 0, 25, []), (25, .ireturn, 26, []), (26, .aload_n 0, 27, []), (27, .iload_n 1, 28, []), (28, .iload_n 2, 29, []), (29, .invokevirtual 50, 32, []), (32, .iload_n 3, 33, []), (33, .invokestatic 75, 36, []), (36, .istore 4, 38, []), (38, .aload_n 0, 39, []), (39, .getfield 15, 42, []), (42, .iload_n 1, 43, []), (43, .bipush 6, 45, []), (45, .imul, 46, []), (46, .iload_n 2, 47, []), (47, .iadd, 48, []), (48, .iconst 1, 49, []), (49, .isub, 50, []), (50, .dup2, 51, []), (51, .iaload, 52, []), (52, .iload 4, 54, []), (54, .isub, 55, []), (55, .iastore, 56, []), (56, .iload 4, 58, []), (58, .ireturn, 59, [])]
theorem gX2_wear : mGood mX2_wear tX2_wear := ⟨by decide, ⟨by decide, rfl, Or.inl rfl⟩, Or.inl rfl, by decide +kernel⟩
def tX2_hasRoomForThrow : mTb := [(0, .aload_n 0, 1, []), (1, .getfield 40, 4, []), (4, .bipush 60, 6, []), (6, .if_icmp .ge 7, 9, [13]), (9, .iconst 1, 10, []), (10, .goto 4, 13, [14]), (13, .iconst 0, 14, []), (14, .ireturn, 15, [])]
theorem gX2_hasRoomForThrow : mGood mX2_hasRoomForThrow tX2_hasRoomForThrow := ⟨by decide, ⟨by decide, rfl, Or.inl rfl⟩, Or.inl rfl, by decide +kernel⟩
def tX2_whyNot : mTb := [(0, .aload_n 0, 1, []), (1, .iload_n 1, 2, []), (2, .invokevirtual 62, 5, []), (5, .ifCond .eq 19, 8, [24]), (8, .aload_n 0, 9, []), (9, .iload_n 2, 10, []), (10, .invokevirtual 65, 13, []), (13, .ifCond .eq 11, 16, [24]), (16, .iload_n 3, 17, []), (17, .i2l, 18, []), (18, .invokestatic 68, 21, []), (21, .ifCond .ne 5, 24, [26]), (24, .iconst 1, 25, []), (25, .ireturn, 26, []), (26, .aload_n 0, 27, []), (27, .iload_n 1, 28, []), (28, .invokevirtual 58, 31, []), (31, .ifCond .eq 5, 34, [36]), (34, .iconst 2, 35, []), (35, .ireturn, 36, []), (36, .aload_n 0, 37, []), (37, .iload_n 1, 38, []), (38, .iload_n 3, 39, []), (39, .invokevirtual 50, 42, []), (42, .ifCond .ne 5, 45, [47]), (45, .iconst 3, 46, []), (46, .ireturn, 47, []), (47, .aload_n 0, 48, []), (48, .invokevirtual 80, 51, []), (51, .ifCond .eq 7, 54, [58]), (54, .iconst 0, 55, []), (55, .goto 4, 58, [59]), (58, .iconst 4, 59, []), (59, .ireturn, 60, [])]
theorem gX2_whyNot : mGood mX2_whyNot tX2_whyNot := ⟨by decide, ⟨by decide, rfl, Or.inl rfl⟩, Or.inl rfl, by decide +kernel⟩
def tX2_whyNotTold : mTb := [(0, .lload_n 1, 1, []), (1, .lconst 0, 2, []), (2, .lcmp, 3, []), (3, .ifCond .lt 11, 6, [14]), (6, .lload_n 1, 7, []), (7, .ldc2_w 84, 10, []), (10, .lcmp, 11, []), (11, .ifCond .lt 5, 14, [16]), (14, .iconst 1, 15, []), (15, .ireturn, 16, []), (16, .lload_n 1, 17, []), (17, .l2i, 18, []), (18, .istore_n 3, 19, []), (19, .aload_n 0, 20, []), (20, .iload_n 3, 21, []), (21, .bipush 100, 23, []), (23, .idiv, 24, []), (24, .iload_n 3, 25, []), (25, .bipush 10, 27, []), (27, .idiv, 28, []), (28, .bipush 10, 30, []), (30, .irem, 31, []), (31, .iload_n 3, 32, []), (32, .bipush 10, 34, []), (34, .irem, 35, []), (35, .invokevirtual 86, 38, []), (38, .ireturn, 39, [])]
theorem gX2_whyNotTold : mGood mX2_whyNotTold tX2_whyNotTold := ⟨by decide, ⟨by decide, rfl, Or.inl rfl⟩, Or.inl rfl, by decide +kernel⟩
def tX2_throwToldOne : mTb := [(0, .aload_n 0, 1, []), (1, .iload_n 1, 2, []), (2, .bipush 100, 4, []), (4, .idiv, 5, []), (5, .iload_n 1, 6, []), (6, .bipush 10, 8, []), (8, .idiv, 9, []), (9, .bipush 10, 11, []), (11, .irem, 12, []), (12, .iload_n 1, 13, []), (13, .bipush 10, 15, []), (15, .irem, 16, []), (16, .invokevirtual 90, 19, []), (19, .return_, 20, [])]
theorem gX2_throwToldOne : mGood mX2_throwToldOne tX2_throwToldOne := ⟨by decide, ⟨by decide, rfl, Or.inl rfl⟩, Or.inl rfl, by decide +kernel⟩
def tX2_faceByDraw : mTb := [(0, .aload_n 0, 1, []), (1, .iload_n 1, 2, []), (2, .invokevirtual 54, 5, []), (5, .istore_n 3, 6, []), (6, .iload_n 3, 7, []), (7, .ifCond .le 9, 10, [16]), (10, .iload_n 2, 11, []), (11, .iload_n 3, 12, []), (12, .irem, 13, []), (13, .goto 4, 16, [17]), (16, .iconst 0, 17, []), (17, .istore 4, 19, []), (19, .iconst 1, 20, []), (20, .istore 5, 22, []), (22, .iload 5, 24, []), (24, .bipush 6, 26, []), (26, .if_icmp .ge 29, 29, [55]), (29, .iload 4, 31, []), (31, .aload_n 0, 32, []), (32, .iload_n 1, 33, []), (33, .iload 5, 35, []), (35, .invokevirtual 50, 38, []), (38, .isub, 39, []), (39, .istore 4, 41, []), (41, .iload 4, 43, []), (43, .ifCond .ge 6, 46, [49]), (46, .iload 5, 48, []), (48, .ireturn, 49, []), (49, .iinc 5 1, 52, []), (52, .goto (-30), 55, [22]), (55, .bipush 6, 57, []), (57, .ireturn, 58, [])]
theorem gX2_faceByDraw : mGood mX2_faceByDraw tX2_faceByDraw := ⟨by decide, ⟨by decide, rfl, Or.inl rfl⟩, Or.inl rfl, by decide +kernel⟩
def tX2_throwFace : mTb := [(0, .aload_n 0, 1, []), (1, .iload_n 1, 2, []), (2, .invokevirtual 62, 5, []), (5, .ifCond .eq 26, 8, [31]), (8, .aload_n 0, 9, []), (9, .iload_n 2, 10, []), (10, .invokevirtual 65, 13, []), (13, .ifCond .eq 18, 16, [31]), (16, .iload_n 3, 17, []), (17, .i2l, 18, []), (18, .invokestatic 68, 21, []), (21, .ifCond .eq 10, 24, [31]), (24, .aload_n 0, 25, []), (25, .invokevirtual 80, 28, []), (28, .ifCond .ne 4, 31, [32]), (31, .return_, 32, []), (32, .aload_n 0, 33, []), (33, .getfield 15, 36, []), (36, .iconst 0, 37, []), (37, .aload_n 0, 38, []), (38, .getfield 22, 41, []), (41, .aload_n 0, 42, []), (42, .getfield 40, 45, []), (45, .bipush 39, 47, []), (47, .imul, 48, []), (48, .bipush 39, 50, []), (50, .invokestatic 44, 53, []), (53, .aload_n 0, 54, []), (54, .getfield 19, 57, []), (57, .aload_n 0, 58, []), (58, .getfield 40, 61, []), (61, .bipush 100, 63, []), (63, .iload_n 1, 64, []), (64, .imul, 65, []), (65, .bipush 10, 67, []), (67, .iload_n 2, 68, []), (68, .imul, 69, []), (69, .iadd, 70, []), (70, .iload_n 3, 71, []), (71, .iadd, 72, []), (72, .iastore, 73, []), (73, .aload_n 0, 74, []), (74, .dup, 75, []), (75, .getfield 40, 78, []), (78, .iconst 1, 79, []), (79, .iadd, 80, []), (80, .putfield 40, 83, []), (83, .aload_n 0, 84, []), (84, .iload_n 1, 85, []), (85, .iload_n 3, 86, []), (86, .aload_n 0, 87, []), (87, .iload_n 2, 88, []), (88, .invokevirtual 94, 91, []), (91, .invokevirtual 97, 94, []), (94, .pop, 95, []), (95, .aload_n 0, 96, []), (96, .getfield 15, 99, []), (99, .bipush 31, 101, []), (101, .iload_n 2, 102, []), (102, .iadd, 103, []), (103, .aload_n 0, 104, []), (104, .iload_n 2, 105, []), (105, .invokevirtual 94, 108, []), (108, .iconst 1, 109, []), (109, .iadd, 110, []), (110, .bipush 9, 112, []), (112, .invokestatic 75, 115, []), (115, .iastore, 116, []), (116, .return_, 117, [])]
theorem gX2_throwFace : mGood mX2_throwFace tX2_throwFace := ⟨by decide, ⟨by decide, rfl, Or.inl rfl⟩, Or.inl rfl, by decide +kernel⟩
def tX2_undo : mTb := [(0, .iload_n 1, 1, []), (1, .ifCond .le 42, 4, [43]), (4, .iload_n 1, 5, []), (5, .aload_n 0, 6, []), (6, .getfield 40, 9, []), (9, .if_icmp .gt 34, 12, [43]), (12, .aload_n 0, 13, []), (13, .dup, 14, []), (14, .getfield 40, 17, []), (17, .iload_n 1, 18, []), (18, .isub, 19, []), (19, .putfield 40, 22, []), (22, .aload_n 0, 23, []), (23, .getfield 22, 26, []), (26, .aload_n 0, 27, []), (27, .getfield 40, 30, []), (30, .bipush 39, 32, []), (32, .imul, 33, []), (33, .aload_n 0, 34, []), (34, .getfield 15, 37, []), (37, .iconst 0, 38, []), (38, .bipush 39, 40, []), (40, .invokestatic 44, 43, []), (43, .return_, 44, [])]
theorem gX2_undo : mGood mX2_undo tX2_undo := ⟨by decide, ⟨by decide, rfl, Or.inl rfl⟩, Or.inl rfl, by decide +kernel⟩
def tX2_toldThrow : mTb := [(0, .iload_n 1, 1, []), (1, .ifCond .lt 20, 4, [21]), (4, .iload_n 1, 5, []), (5, .aload_n 0, 6, []), (6, .getfield 40, 9, []), (9, .if_icmp .ge 12, 12, [21]), (12, .aload_n 0, 13, []), (13, .getfield 19, 16, []), (16, .iload_n 1, 17, []), (17, .iaload, 18, []), (18, .goto 4, 21, [22]), (21, .iconst 0, 22, []), (22, .ireturn, 23, [])]
theorem gX2_toldThrow : mGood mX2_toldThrow tX2_toldThrow := ⟨by decide, ⟨by decide, rfl, Or.inl rfl⟩, Or.inl rfl, by decide +kernel⟩
def tX2_dieOfThrow : mTb := [(0, .aload_n 0, 1, []), (1, .iload_n 1, 2, []), (2, .invokevirtual 100, 5, []), (5, .bipush 100, 7, []), (7, .idiv, 8, []), (8, .ireturn, 9, [])]
theorem gX2_dieOfThrow : mGood mX2_dieOfThrow tX2_dieOfThrow := ⟨by decide, ⟨by decide, rfl, Or.inl rfl⟩, Or.inl rfl, by decide +kernel⟩
def tX2_handOfThrow : mTb := [(0, .aload_n 0, 1, []), (1, .iload_n 1, 2, []), (2, .invokevirtual 100, 5, []), (5, .bipush 10, 7, []), (7, .idiv, 8, []), (8, .bipush 10, 10, []), (10, .irem, 11, []), (11, .ireturn, 12, [])]
theorem gX2_handOfThrow : mGood mX2_handOfThrow tX2_handOfThrow := ⟨by decide, ⟨by decide, rfl, Or.inl rfl⟩, Or.inl rfl, by decide +kernel⟩
def tX2_faceOfThrow : mTb := [(0, .aload_n 0, 1, []), (1, .iload_n 1, 2, []), (2, .invokevirtual 100, 5, []), (5, .bipush 10, 7, []), (7, .irem, 8, []), (8, .ireturn, 9, [])]
theorem gX2_faceOfThrow : mGood mX2_faceOfThrow tX2_faceOfThrow := ⟨by decide, ⟨by decide, rfl, Or.inl rfl⟩, Or.inl rfl, by decide +kernel⟩
def tX2_faceForAnts : mTb := [(0, .aload_n 0, 1, []), (1, .getfield 9, 4, []), (4, .iconst 1, 5, []), (5, .isub, 6, []), (6, .iload_n 1, 7, []), (7, .iadd, 8, []), (8, .bipush 6, 10, []), (10, .irem, 11, []), (11, .iconst 1, 12, []), (12, .iadd, 13, []), (13, .ireturn, 14, [])]
theorem gX2_faceForAnts : mGood mX2_faceForAnts tX2_faceForAnts := ⟨by decide, ⟨by decide, rfl, Or.inl rfl⟩, Or.inl rfl, by decide +kernel⟩
def tX2_feedAnts : mTb := [(0, .iconst 0, 1, []), (1, .istore_n 3, 2, []), (2, .iconst 0, 3, []), (3, .istore 4, 5, []), (5, .iload 4, 7, []), (7, .bipush 6, 9, []), (9, .if_icmp .ge 26, 12, [35]), (12, .iload_n 3, 13, []), (13, .aload_n 0, 14, []), (14, .iload_n 1, 15, []), (15, .aload_n 0, 16, []), (16, .iload 4, 18, []), (18, .invokevirtual 103, 21, []), (21, .iload_n 2, 22, []), (22, .iload_n 3, 23, []), (23, .isub, 24, []), (24, .invokevirtual 97, 27, []), (27, .iadd, 28, []), (28, .istore_n 3, 29, []), (29, .iinc 4 1, 32, []), (32, .goto (-27), 35, [5]), (35, .iload_n 3, 36, []), (36, .ireturn, 37, [])]
theorem gX2_feedAnts : mGood mX2_feedAnts tX2_feedAnts := ⟨by decide, ⟨by decide, rfl, Or.inl rfl⟩, Or.inl rfl, by decide +kernel⟩
def tX2_weightAfterAnts : mTb := [(0, .aload_n 0, 1, []), (1, .iload_n 1, 2, []), (2, .invokevirtual 72, 5, []), (5, .ifCond .eq 10, 8, [15]), (8, .aload_n 0, 9, []), (9, .iload_n 1, 10, []), (10, .iload_n 2, 11, []), (11, .invokevirtual 50, 14, []), (14, .ireturn, 15, []), (15, .iload_n 3, 16, []), (16, .istore 4, 18, []), (18, .iconst 0, 19, []), (19, .istore 5, 21, []), (21, .iload 5, 23, []), (23, .bipush 6, 25, []), (25, .if_icmp .ge 40, 28, [65]), (28, .aload_n 0, 29, []), (29, .iload 5, 31, []), (31, .invokevirtual 103, 34, []), (34, .iload_n 2, 35, []), (35, .if_icmp .eq 30, 38, [65]), (38, .iload 4, 40, []), (40, .iload 4, 42, []), (42, .aload_n 0, 43, []), (43, .iload_n 1, 44, []), (44, .aload_n 0, 45, []), (45, .iload 5, 47, []), (47, .invokevirtual 103, 50, []), (50, .invokevirtual 50, 53, []), (53, .invokestatic 75, 56, []), (56, .isub, 57, []), (57, .istore 4, 59, []), (59, .iinc 5 1, 62, []), (62, .goto (-41), 65, [21]), (65, .aload_n 0, 66, []), (66, .iload_n 1, 67, []), (67, .iload_n 2, 68, []), (68, .invokevirtual 50, 71, []), (71, .iload 4, 73, []), (73, .isub, 74, []), (74, .iconst 0, 75, []), (75, .invokestatic 106, 78, []), (78, .ireturn, 79, [])]
theorem gX2_weightAfterAnts : mGood mX2_weightAfterAnts tX2_weightAfterAnts := ⟨by decide, ⟨by decide, rfl, Or.inl rfl⟩, Or.inl rfl, by decide +kernel⟩
def tX2_lastFaceForAnts : mTb := [(0, .iconst (-1), 1, []), (1, .istore_n 2, 2, []), (2, .iconst 0, 3, []), (3, .istore_n 3, 4, []), (4, .iload_n 3, 5, []), (5, .bipush 6, 7, []), (7, .if_icmp .ge 28, 10, [35]), (10, .aload_n 0, 11, []), (11, .iload_n 1, 12, []), (12, .aload_n 0, 13, []), (13, .iload_n 3, 14, []), (14, .invokevirtual 103, 17, []), (17, .invokevirtual 50, 20, []), (20, .ifCond .le 9, 23, [29]), (23, .aload_n 0, 24, []), (24, .iload_n 3, 25, []), (25, .invokevirtual 103, 28, []), (28, .istore_n 2, 29, []), (29, .iinc 3 1, 32, []), (32, .goto (-28), 35, [4]), (35, .iload_n 2, 36, []), (36, .ireturn, 37, [])]
theorem gX2_lastFaceForAnts : mGood mX2_lastFaceForAnts tX2_lastFaceForAnts := ⟨by decide, ⟨by decide, rfl, Or.inl rfl⟩, Or.inl rfl, by decide +kernel⟩
def tX2_drawLots : mTb := [(0, .iconst 0, 1, []), (1, .istore_n 2, 2, []), (2, .iconst 0, 3, []), (3, .istore_n 3, 4, []), (4, .iconst 0, 5, []), (5, .istore 4, 7, []), (7, .iload 4, 9, []), (9, .aload_n 0, 10, []), (10, .getfield 38, 13, []), (13, .if_icmp .ge 68, 16, [81]), (16, .aload_n 0, 17, []), (17, .getfield 34, 20, []), (20, .iload_n 3, 21, []), (21, .isub, 22, []), (22, .istore 5, 24, []), (24, .iload 5, 26, []), (26, .ifCond .le 18, 29, [44]), (29, .aload_n 0, 30, []), (30, .iload_n 2, 31, []), (31, .aload_n 1, 32, []), (32, .invokevirtual 109, 35, []), (35, .iload 5, 37, []), (37, .irem, 38, []), (38, .invokevirtual 115, 41, []), (41, .goto 4, 44, [45]), (44, .iconst (-1), 45, []), (45, .istore 6, 47, []), (47, .aload_n 0, 48, []), (48, .getfield 15, 51, []), (51, .bipush 35, 53, []), (53, .iload 4, 55, []), (55, .iadd, 56, []), (56, .iload 6, 58, []), (58, .iastore, 59, []), (59, .iload 6, 61, []), (61, .iconst (-1), 62, []), (62, .if_icmp .eq 13, 65, [75]), (65, .iload_n 2, 66, []), (66, .iconst 1, 67, []), (67, .iload 6, 69, []), (69, .ishl, 70, []), (70, .ior, 71, []), (71, .istore_n 2, 72, []), (72, .iinc 3 1, 75, []), (75, .iinc 4 1, 78, []), (78, .goto (-71), 81, [7]), (81, .iload_n 3, 82, []), (82, .ireturn, 83, [])]
theorem gX2_drawLots : mGood mX2_drawLots tX2_drawLots := ⟨by decide, ⟨by decide, rfl, Or.inl rfl⟩, Or.inl rfl, by decide +kernel⟩
def tX2_dieLeft : mTb := [(0, .iconst 0, 1, []), (1, .istore_n 3, 2, []), (2, .iconst 0, 3, []), (3, .istore 4, 5, []), (5, .iload 4, 7, []), (7, .aload_n 0, 8, []), (8, .getfield 34, 11, []), (11, .if_icmp .ge 29, 14, [40]), (14, .iload_n 1, 15, []), (15, .iload 4, 17, []), (17, .ishr, 18, []), (18, .iconst 1, 19, []), (19, .iand, 20, []), (20, .ifCond .ne 14, 23, [34]), (23, .iload_n 3, 24, []), (24, .iload_n 2, 25, []), (25, .if_icmp .ne 6, 28, [31]), (28, .iload 4, 30, []), (30, .ireturn, 31, []), (31, .iinc 3 1, 34, []), (34, .iinc 4 1, 37, []), (37, .goto (-32), 40, [5]), (40, .iconst (-1), 41, []), (41, .ireturn, 42, [])]
theorem gX2_dieLeft : mGood mX2_dieLeft tX2_dieLeft := ⟨by decide, ⟨by decide, rfl, Or.inl rfl⟩, Or.inl rfl, by decide +kernel⟩
def tX3_init : mTb := [(0, .aload_n 0, 1, []), (1, .invokespecial 3, 4, []), (4, .aload_n 0, 5, []), (5, .aload_n 1, 6, []), (6, .putfield 9, 9, []), (9, .return_, 10, [])]
theorem gX3_init : mGood mX3_init tX3_init := ⟨by decide, ⟨by decide, rfl, Or.inl rfl⟩, Or.inl rfl, by decide +kernel⟩
def tX3_throwsOfDie : mTb := [(0, .iconst 0, 1, []), (1, .istore_n 2, 2, []), (2, .iconst 0, 3, []), (3, .istore_n 3, 4, []), (4, .iload_n 3, 5, []), (5, .aload_n 0, 6, []), (6, .getfield 9, 9, []), (9, .getfield 15, 12, []), (12, .if_icmp .ge 29, 15, [41]), (15, .iload_n 2, 16, []), (16, .aload_n 0, 17, []), (17, .getfield 9, 20, []), (20, .iload_n 3, 21, []), (21, .invokevirtual 21, 24, []), (24, .iload_n 1, 25, []), (25, .if_icmp .ne 7, 28, [32]), (28, .iconst 1, 29, []), (29, .goto 4, 32, [33]), (32, .iconst 0, 33, []), (33, .iadd, 34, []), (34, .istore_n 2, 35, []), (35, .iinc 3 1, 38, []), (38, .goto (-34), 41, [4]), (41, .iload_n 2, 42, []), (42, .ireturn, 43, [])]
theorem gX3_throwsOfDie : mGood mX3_throwsOfDie tX3_throwsOfDie := ⟨by decide, ⟨by decide, rfl, Or.inl rfl⟩, Or.inl rfl, by decide +kernel⟩
def tX3_throwsOfHand : mTb := [(0, .iconst 0, 1, []), (1, .istore_n 2, 2, []), (2, .iconst 0, 3, []), (3, .istore_n 3, 4, []), (4, .iload_n 3, 5, []), (5, .aload_n 0, 6, []), (6, .getfield 9, 9, []), (9, .getfield 15, 12, []), (12, .if_icmp .ge 29, 15, [41]), (15, .iload_n 2, 16, []), (16, .aload_n 0, 17, []), (17, .getfield 9, 20, []), (20, .iload_n 3, 21, []), (21, .invokevirtual 25, 24, []), (24, .iload_n 1, 25, []), (25, .if_icmp .ne 7, 28, [32]), (28, .iconst 1, 29, []), (29, .goto 4, 32, [33]), (32, .iconst 0, 33, []), (33, .iadd, 34, []), (34, .istore_n 2, 35, []), (35, .iinc 3 1, 38, []), (38, .goto (-34), 41, [4]), (41, .iload_n 2, 42, []), (42, .ireturn, 43, [])]
theorem gX3_throwsOfHand : mGood mX3_throwsOfHand tX3_throwsOfHand := ⟨by decide, ⟨by decide, rfl, Or.inl rfl⟩, Or.inl rfl, by decide +kernel⟩
def tX3_timesShown : mTb := [(0, .iconst 0, 1, []), (1, .istore_n 3, 2, []), (2, .iconst 0, 3, []), (3, .istore 4, 5, []), (5, .iload 4, 7, []), (7, .aload_n 0, 8, []), (8, .getfield 9, 11, []), (11, .getfield 15, 14, []), (14, .if_icmp .ge 43, 17, [57]), (17, .iload_n 3, 18, []), (18, .aload_n 0, 19, []), (19, .getfield 9, 22, []), (22, .iload 4, 24, []), (24, .invokevirtual 21, 27, []), (27, .iload_n 1, 28, []), (28, .if_icmp .ne 20, 31, [48]), (31, .aload_n 0, 32, []), (32, .getfield 9, 35, []), (35, .iload 4, 37, []), (37, .invokevirtual 28, 40, []), (40, .iload_n 2, 41, []), (41, .if_icmp .ne 7, 44, [48]), (44, .iconst 1, 45, []), (45, .goto 4, 48, [49]), (48, .iconst 0, 49, []), (49, .iadd, 50, []), (50, .istore_n 3, 51, []), (51, .iinc 4 1, 54, []), (54, .goto (-49), 57, [5]), (57, .iload_n 3, 58, []), (58, .ireturn, 59, [])]
theorem gX3_timesShown : mGood mX3_timesShown tX3_timesShown := ⟨by decide, ⟨by decide, rfl, Or.inl rfl⟩, Or.inl rfl, by decide +kernel⟩
def tX3_longestRow : mTb := [(0, .iconst 0, 1, []), (1, .istore_n 2, 2, []), (2, .iconst 0, 3, []), (3, .istore_n 3, 4, []), (4, .iconst 0, 5, []), (5, .istore 4, 7, []), (7, .iload 4, 9, []), (9, .aload_n 0, 10, []), (10, .getfield 9, 13, []), (13, .getfield 15, 16, []), (16, .if_icmp .ge 36, 19, [52]), (19, .aload_n 0, 20, []), (20, .getfield 9, 23, []), (23, .iload 4, 25, []), (25, .invokevirtual 28, 28, []), (28, .iload_n 1, 29, []), (29, .if_icmp .ne 9, 32, [38]), (32, .iload_n 3, 33, []), (33, .iconst 1, 34, []), (34, .iadd, 35, []), (35, .goto 4, 38, [39]), (38, .iconst 0, 39, []), (39, .istore_n 3, 40, []), (40, .iload_n 2, 41, []), (41, .iload_n 3, 42, []), (42, .invokestatic 31, 45, []), (45, .istore_n 2, 46, []), (46, .iinc 4 1, 49, []), (49, .goto (-42), 52, [7]), (52, .iload_n 2, 53, []), (53, .ireturn, 54, [])]
theorem gX3_longestRow : mGood mX3_longestRow tX3_longestRow := ⟨by decide, ⟨by decide, rfl, Or.inl rfl⟩, Or.inl rfl, by decide +kernel⟩
def tX3_howFarOff : mTb := [(0, .aload_n 0, 1, []), (1, .iload_n 1, 2, []), (2, .invokevirtual 37, 5, []), (5, .istore_n 2, 6, []), (6, .iconst 0, 7, []), (7, .istore_n 3, 8, []), (8, .iconst 1, 9, []), (9, .istore 4, 11, []), (11, .iload 4, 13, []), (13, .bipush 6, 15, []), (15, .if_icmp .gt 27, 18, [42]), (18, .iload_n 3, 19, []), (19, .bipush 6, 21, []), (21, .aload_n 0, 22, []), (22, .iload_n 1, 23, []), (23, .iload 4, 25, []), (25, .invokevirtual 40, 28, []), (28, .imul, 29, []), (29, .iload_n 2, 30, []), (30, .isub, 31, []), (31, .invokestatic 43, 34, []), (34, .iadd, 35, []), (35, .istore_n 3, 36, []), (36, .iinc 4 1, 39, []), (39, .goto (-28), 42, [11]), (42, .iload_n 3, 43, []), (43, .ireturn, 44, [])]
theorem gX3_howFarOff : mGood mX3_howFarOff tX3_howFarOff := ⟨by decide, ⟨by decide, rfl, Or.inl rfl⟩, Or.inl rfl, by decide +kernel⟩
def tX3_farthestOff : mTb := [(0, .iconst (-1), 1, []), (1, .istore_n 1, 2, []), (2, .iconst 0, 3, []), (3, .istore_n 2, 4, []), (4, .iconst 0, 5, []), (5, .istore_n 3, 6, []), (6, .iload_n 3, 7, []), (7, .aload_n 0, 8, []), (8, .getfield 9, 11, []), (11, .getfield 46, 14, []), (14, .if_icmp .ge 27, 17, [41]), (17, .aload_n 0, 18, []), (18, .iload_n 3, 19, []), (19, .invokevirtual 49, 22, []), (22, .istore 4, 24, []), (24, .iload 4, 26, []), (26, .iload_n 2, 27, []), (27, .if_icmp .le 8, 30, [35]), (30, .iload_n 3, 31, []), (31, .istore_n 1, 32, []), (32, .iload 4, 34, []), (34, .istore_n 2, 35, []), (35, .iinc 3 1, 38, []), (38, .goto (-32), 41, [6]), (41, .iload_n 1, 42, []), (42, .ireturn, 43, [])]
theorem gX3_farthestOff : mGood mX3_farthestOff tX3_farthestOff := ⟨by decide, ⟨by decide, rfl, Or.inl rfl⟩, Or.inl rfl, by decide +kernel⟩
def tX4_init : mTb := [(0, .aload_n 0, 1, []), (1, .invokespecial 3, 4, []), (4, .aload_n 0, 5, []), (5, .bipush 31, 7, []), (7, .newarray .long, 9, []), (9, .putfield 9, 12, []), (12, .aload_n 0, 13, []), (13, .bipush 31, 15, []), (15, .newarray .long, 17, []), (17, .putfield 15, 20, []), (20, .aload_n 0, 21, []), (21, .bipush 64, 23, []), (23, .newarray .long, 25, []), (25, .putfield 18, 28, []), (28, .aload_n 0, 29, []), (29, .aload_n 1, 30, []), (30, .putfield 21, 33, []), (33, .return_, 34, [])]
theorem gX4_init : mGood mX4_init tX4_init := ⟨by decide, ⟨by decide, rfl, Or.inl rfl⟩, Or.inl rfl, by decide +kernel⟩
def tX4_wholeOf : mTb := [(0, .lconst 1, 1, []), (1, .lstore_n 2, 2, []), (2, .iconst 0, 3, []), (3, .istore 4, 5, []), (5, .iload 4, 7, []), (7, .aload_n 0, 8, []), (8, .getfield 21, 11, []), (11, .getfield 25, 14, []), (14, .if_icmp .ge 31, 17, [45]), (17, .iload_n 1, 18, []), (18, .iload 4, 20, []), (20, .invokestatic 31, 23, []), (23, .ifCond .eq 16, 26, [39]), (26, .lload_n 2, 27, []), (27, .aload_n 0, 28, []), (28, .getfield 21, 31, []), (31, .iload 4, 33, []), (33, .invokevirtual 35, 36, []), (36, .i2l, 37, []), (37, .lmul, 38, []), (38, .lstore_n 2, 39, []), (39, .iinc 4 1, 42, []), (42, .goto (-37), 45, [5]), (45, .lload_n 2, 46, []), (46, .lreturn, 47, [])]
theorem gX4_wholeOf : mGood mX4_wholeOf tX4_wholeOf := ⟨by decide, ⟨by decide, rfl, Or.inl rfl⟩, Or.inl rfl, by decide +kernel⟩
def tX4_waysOfSum : mTb := [(0, .aload_n 0, 1, []), (1, .iload_n 1, 2, []), (2, .invokevirtual 39, 5, []), (5, .iload_n 2, 6, []), (6, .ifCond .lt 21, 9, [27]), (9, .iload_n 2, 10, []), (10, .aload_n 0, 11, []), (11, .getfield 9, 14, []), (14, .arraylength, 15, []), (15, .if_icmp .ge 12, 18, [27]), (18, .aload_n 0, 19, []), (19, .getfield 9, 22, []), (22, .iload_n 2, 23, []), (23, .laload, 24, []), (24, .goto 4, 27, [28]), (27, .lconst 0, 28, []), (28, .lreturn, 29, [])]
theorem gX4_waysOfSum : mGood mX4_waysOfSum tX4_waysOfSum := ⟨by decide, ⟨by decide, rfl, Or.inl rfl⟩, Or.inl rfl, by decide +kernel⟩
def tX4_waysOfSumOrMore : mTb := [(0, .aload_n 0, 1, []), (1, .iload_n 1, 2, []), (2, .invokevirtual 39, 5, []), (5, .lconst 0, 6, []), (6, .lstore_n 3, 7, []), (7, .iload_n 2, 8, []), (8, .iconst 0, 9, []), (9, .invokestatic 43, 12, []), (12, .istore 5, 14, []), (14, .iload 5, 16, []), (16, .aload_n 0, 17, []), (17, .getfield 9, 20, []), (20, .arraylength, 21, []), (21, .if_icmp .ge 19, 24, [40]), (24, .lload_n 3, 25, []), (25, .aload_n 0, 26, []), (26, .getfield 9, 29, []), (29, .iload 5, 31, []), (31, .laload, 32, []), (32, .ladd, 33, []), (33, .lstore_n 3, 34, []), (34, .iinc 5 1, 37, []), (37, .goto (-23), 40, [14]), (40, .lload_n 3, 41, []), (41, .lreturn, 42, [])]
theorem gX4_waysOfSumOrMore : mGood mX4_waysOfSumOrMore tX4_waysOfSumOrMore := ⟨by decide, ⟨by decide, rfl, Or.inl rfl⟩, Or.inl rfl, by decide +kernel⟩
def tX4_waysOfOneFace : mTb := [(0, .iload_n 1, 1, []), (1, .ifCond .ne 5, 4, [6]), (4, .lconst 1, 5, []), (5, .lreturn, 6, []), (6, .lconst 0, 7, []), (7, .lstore_n 2, 8, []), (8, .iconst 1, 9, []), (9, .istore 4, 11, []), (11, .iload 4, 13, []), (13, .bipush 6, 15, []), (15, .if_icmp .gt 68, 18, [83]), (18, .lconst 1, 19, []), (19, .lstore 5, 21, []), (21, .iconst 0, 22, []), (22, .istore 7, 24, []), (24, .iload 7, 26, []), (26, .aload_n 0, 27, []), (27, .getfield 21, 30, []), (30, .getfield 25, 33, []), (33, .if_icmp .ge 39, 36, [72]), (36, .lload 5, 38, []), (38, .iload_n 1, 39, []), (39, .iload 7, 41, []), (41, .invokestatic 31, 44, []), (44, .ifCond .eq 18, 47, [62]), (47, .aload_n 0, 48, []), (48, .getfield 21, 51, []), (51, .iload 7, 53, []), (53, .iload 4, 55, []), (55, .invokevirtual 49, 58, []), (58, .i2l, 59, []), (59, .goto 4, 62, [63]), (62, .lconst 1, 63, []), (63, .lmul, 64, []), (64, .lstore 5, 66, []), (66, .iinc 7 1, 69, []), (69, .goto (-45), 72, [24]), (72, .lload_n 2, 73, []), (73, .lload 5, 75, []), (75, .ladd, 76, []), (76, .lstore_n 2, 77, []), (77, .iinc 4 1, 80, []), (80, .goto (-69), 83, [11]), (83, .lload_n 2, 84, []), (84, .lreturn, 85, [])]
theorem gX4_waysOfOneFace : mGood mX4_waysOfOneFace tX4_waysOfOneFace := ⟨by decide, ⟨by decide, rfl, Or.inl rfl⟩, Or.inl rfl, by decide +kernel⟩
def tX4_likeliestSum : mTb := [(0, .aload_n 0, 1, []), (1, .iload_n 1, 2, []), (2, .invokevirtual 39, 5, []), (5, .iconst 0, 6, []), (6, .istore_n 2, 7, []), (7, .iconst 1, 8, []), (8, .istore_n 3, 9, []), (9, .iload_n 3, 10, []), (10, .aload_n 0, 11, []), (11, .getfield 9, 14, []), (14, .arraylength, 15, []), (15, .if_icmp .ge 27, 18, [42]), (18, .aload_n 0, 19, []), (19, .getfield 9, 22, []), (22, .iload_n 3, 23, []), (23, .laload, 24, []), (24, .aload_n 0, 25, []), (25, .getfield 9, 28, []), (28, .iload_n 2, 29, []), (29, .laload, 30, []), (30, .lcmp, 31, []), (31, .ifCond .le 5, 34, [36]), (34, .iload_n 3, 35, []), (35, .istore_n 2, 36, []), (36, .iinc 3 1, 39, []), (39, .goto (-30), 42, [9]), (42, .iload_n 2, 43, []), (43, .ireturn, 44, [])]
theorem gX4_likeliestSum : mGood mX4_likeliestSum tX4_likeliestSum := ⟨by decide, ⟨by decide, rfl, Or.inl rfl⟩, Or.inl rfl, by decide +kernel⟩
def tX4_possibleSums : mTb := [(0, .aload_n 0, 1, []), (1, .iload_n 1, 2, []), (2, .invokevirtual 39, 5, []), (5, .iconst 0, 6, []), (6, .istore_n 2, 7, []), (7, .iconst 0, 8, []), (8, .istore_n 3, 9, []), (9, .iload_n 3, 10, []), (10, .aload_n 0, 11, []), (11, .getfield 9, 14, []), (14, .arraylength, 15, []), (15, .if_icmp .ge 26, 18, [41]), (18, .aload_n 0, 19, []), (19, .getfield 9, 22, []), (22, .iload_n 3, 23, []), (23, .laload, 24, []), (24, .lconst 0, 25, []), (25, .lcmp, 26, []), (26, .ifCond .le 9, 29, [35]), (29, .iload_n 2, 30, []), (30, .iconst 1, 31, []), (31, .iload_n 3, 32, []), (32, .ishl, 33, []), (33, .ior, 34, []), (34, .istore_n 2, 35, []), (35, .iinc 3 1, 38, []), (38, .goto (-29), 41, [9]), (41, .iload_n 2, 42, []), (42, .ireturn, 43, [])]
theorem gX4_possibleSums : mGood mX4_possibleSums tX4_possibleSums := ⟨by decide, ⟨by decide, rfl, Or.inl rfl⟩, Or.inl rfl, by decide +kernel⟩
def tX4_allSumsWeighed : mTb := [(0, .aload_n 0, 1, []), (1, .iload_n 1, 2, []), (2, .invokevirtual 39, 5, []), (5, .lconst 0, 6, []), (6, .lstore_n 2, 7, []), (7, .iconst 0, 8, []), (8, .istore 4, 10, []), (10, .iload 4, 12, []), (12, .aload_n 0, 13, []), (13, .getfield 9, 16, []), (16, .arraylength, 17, []), (17, .if_icmp .ge 23, 20, [40]), (20, .lload_n 2, 21, []), (21, .iload 4, 23, []), (23, .i2l, 24, []), (24, .aload_n 0, 25, []), (25, .getfield 9, 28, []), (28, .iload 4, 30, []), (30, .laload, 31, []), (31, .lmul, 32, []), (32, .ladd, 33, []), (33, .lstore_n 2, 34, []), (34, .iinc 4 1, 37, []), (37, .goto (-27), 40, [10]), (40, .lload_n 2, 41, []), (41, .lreturn, 42, [])]
theorem gX4_allSumsWeighed : mGood mX4_allSumsWeighed tX4_allSumsWeighed := ⟨by decide, ⟨by decide, rfl, Or.inl rfl⟩, Or.inl rfl, by decide +kernel⟩
def tX4_bestSetFor : mTb := [(0, .iconst (-1), 1, []), (1, .istore_n 3, 2, []), (2, .lconst 0, 3, []), (3, .lstore 4, 5, []), (5, .lconst 1, 6, []), (6, .lstore 6, 8, []), (8, .iconst 1, 9, []), (9, .istore 8, 11, []), (11, .iload 8, 13, []), (13, .iconst 1, 14, []), (14, .aload_n 0, 15, []), (15, .getfield 21, 18, []), (18, .getfield 25, 21, []), (21, .ishl, 22, []), (22, .if_icmp .ge 75, 25, [97]), (25, .aload_n 0, 26, []), (26, .iload 8, 28, []), (28, .invokevirtual 52, 31, []), (31, .lstore 9, 33, []), (33, .iload 8, 35, []), (35, .invokestatic 56, 38, []), (38, .iload_n 1, 39, []), (39, .if_icmp .ne 52, 42, [91]), (42, .lload 9, 44, []), (44, .lconst 0, 45, []), (45, .lcmp, 46, []), (46, .ifCond .ne 6, 49, [52]), (49, .goto 42, 52, [91]), (52, .aload_n 0, 53, []), (53, .iload 8, 55, []), (55, .iload_n 2, 56, []), (56, .invokevirtual 61, 59, []), (59, .lstore 11, 61, []), (61, .iload_n 3, 62, []), (62, .iconst (-1), 63, []), (63, .if_icmp .eq 17, 66, [80]), (66, .lload 11, 68, []), (68, .lload 6, 70, []), (70, .lmul, 71, []), (71, .lload 4, 73, []), (73, .lload 9, 75, []), (75, .lmul, 76, []), (76, .lcmp, 77, []), (77, .ifCond .le 14, 80, [91]), (80, .iload 8, 82, []), (82, .istore_n 3, 83, []), (83, .lload 11, 85, []), (85, .lstore 4, 87, []), (87, .lload 9, 89, []), (89, .lstore 6, 91, []), (91, .iinc 8 1, 94, []), (94, .goto (-83), 97, [11]), (97, .iload_n 3, 98, []), (98, .ireturn, 99, [])]
theorem gX4_bestSetFor : mGood mX4_bestSetFor tX4_bestSetFor := ⟨by decide, ⟨by decide, rfl, Or.inl rfl⟩, Or.inl rfl, by decide +kernel⟩
def tX4_waysOfUnlikeFaces : mTb := [(0, .aload_n 0, 1, []), (1, .getfield 18, 4, []), (4, .invokestatic 65, 7, []), (7, .iconst 0, 8, []), (8, .istore_n 3, 9, []), (9, .iload_n 3, 10, []), (10, .aload_n 0, 11, []), (11, .getfield 21, 14, []), (14, .getfield 25, 17, []), (17, .if_icmp .ge 23, 20, [40]), (20, .iload_n 1, 21, []), (21, .iload_n 3, 22, []), (22, .invokestatic 31, 25, []), (25, .ifCond .eq 9, 28, [34]), (28, .aload_n 0, 29, []), (29, .iload_n 3, 30, []), (30, .iconst 0, 31, []), (31, .invokevirtual 69, 34, []), (34, .iinc 3 1, 37, []), (37, .goto (-28), 40, [9]), (40, .lconst 0, 41, []), (41, .lstore_n 3, 42, []), (42, .iconst 0, 43, []), (43, .istore 5, 45, []), (45, .iload 5, 47, []), (47, .bipush 64, 49, []), (49, .if_icmp .ge 31, 52, [80]), (52, .iload_n 2, 53, []), (53, .ifCond .eq 11, 56, [64]), (56, .iload 5, 58, []), (58, .invokestatic 73, 61, []), (61, .ifCond .eq 13, 64, [74]), (64, .lload_n 3, 65, []), (65, .aload_n 0, 66, []), (66, .getfield 18, 69, []), (69, .iload 5, 71, []), (71, .laload, 72, []), (72, .ladd, 73, []), (73, .lstore_n 3, 74, []), (74, .iinc 5 1, 77, []), (77, .goto (-32), 80, [45]), (80, .lload_n 3, 81, []), (81, .lreturn, 82, [])]
theorem gX4_waysOfUnlikeFaces : mGood mX4_waysOfUnlikeFaces tX4_waysOfUnlikeFaces := ⟨by decide, ⟨by decide, rfl, Or.inl rfl⟩, Or.inl rfl, by decide +kernel⟩
def tX4_waysOfEveryFace : mTb := [(0, .aload_n 0, 1, []), (1, .getfield 18, 4, []), (4, .invokestatic 65, 7, []), (7, .iconst 0, 8, []), (8, .istore_n 3, 9, []), (9, .iload_n 3, 10, []), (10, .iload_n 2, 11, []), (11, .if_icmp .ge 15, 14, [26]), (14, .aload_n 0, 15, []), (15, .iload_n 1, 16, []), (16, .iconst 1, 17, []), (17, .invokevirtual 69, 20, []), (20, .iinc 3 1, 23, []), (23, .goto (-14), 26, [9]), (26, .iconst 0, 27, []), (27, .istore_n 3, 28, []), (28, .iconst 1, 29, []), (29, .istore 4, 31, []), (31, .iload 4, 33, []), (33, .bipush 6, 35, []), (35, .if_icmp .gt 31, 38, [66]), (38, .aload_n 0, 39, []), (39, .getfield 21, 42, []), (42, .iload_n 1, 43, []), (43, .iload 4, 45, []), (45, .invokevirtual 49, 48, []), (48, .ifCond .le 12, 51, [60]), (51, .iload_n 3, 52, []), (52, .iconst 1, 53, []), (53, .iload 4, 55, []), (55, .iconst 1, 56, []), (56, .isub, 57, []), (57, .ishl, 58, []), (58, .ior, 59, []), (59, .istore_n 3, 60, []), (60, .iinc 4 1, 63, []), (63, .goto (-32), 66, [31]), (66, .aload_n 0, 67, []), (67, .getfield 18, 70, []), (70, .iload_n 3, 71, []), (71, .laload, 72, []), (72, .lreturn, 73, [])]
theorem gX4_waysOfEveryFace : mGood mX4_waysOfEveryFace tX4_waysOfEveryFace := ⟨by decide, ⟨by decide, rfl, Or.inl rfl⟩, Or.inl rfl, by decide +kernel⟩
def tX4_waysOfMore : mTb := [(0, .aload_n 0, 1, []), (1, .aload_n 0, 2, []), (2, .getfield 9, 5, []), (5, .iload_n 1, 6, []), (6, .iload_n 3, 7, []), (7, .invokevirtual 77, 10, []), (10, .aload_n 0, 11, []), (11, .aload_n 0, 12, []), (12, .getfield 15, 15, []), (15, .iload_n 2, 16, []), (16, .iload_n 3, 17, []), (17, .invokevirtual 77, 20, []), (20, .lconst 0, 21, []), (21, .lstore 4, 23, []), (23, .lconst 0, 24, []), (24, .lstore 6, 26, []), (26, .iconst 0, 27, []), (27, .istore 8, 29, []), (29, .iload 8, 31, []), (31, .aload_n 0, 32, []), (32, .getfield 9, 35, []), (35, .arraylength, 36, []), (36, .if_icmp .ge 36, 39, [72]), (39, .lload 4, 41, []), (41, .aload_n 0, 42, []), (42, .getfield 9, 45, []), (45, .iload 8, 47, []), (47, .laload, 48, []), (48, .lload 6, 50, []), (50, .lmul, 51, []), (51, .ladd, 52, []), (52, .lstore 4, 54, []), (54, .lload 6, 56, []), (56, .aload_n 0, 57, []), (57, .getfield 15, 60, []), (60, .iload 8, 62, []), (62, .laload, 63, []), (63, .ladd, 64, []), (64, .lstore 6, 66, []), (66, .iinc 8 1, 69, []), (69, .goto (-40), 72, [29]), (72, .lload 4, 74, []), (74, .lreturn, 75, [])]
theorem gX4_waysOfMore : mGood mX4_waysOfMore tX4_waysOfMore := ⟨by decide, ⟨by decide, rfl, Or.inl rfl⟩, Or.inl rfl, by decide +kernel⟩
def tX4_bestByStopping : mTb := [(0, .lconst 0, 1, []), (1, .lstore_n 3, 2, []), (2, .lconst 1, 3, []), (3, .lstore 5, 5, []), (5, .iconst 1, 6, []), (6, .istore 7, 8, []), (8, .iload 7, 10, []), (10, .iload_n 2, 11, []), (11, .if_icmp .gt 72, 14, [83]), (14, .lconst 0, 15, []), (15, .lstore 8, 17, []), (17, .iconst 1, 18, []), (18, .istore 10, 20, []), (20, .iload 10, 22, []), (22, .bipush 6, 24, []), (24, .if_icmp .gt 36, 27, [60]), (27, .lload 8, 29, []), (29, .aload_n 0, 30, []), (30, .getfield 21, 33, []), (33, .iload_n 1, 34, []), (34, .iload 10, 36, []), (36, .invokevirtual 49, 39, []), (39, .i2l, 40, []), (40, .iload 10, 42, []), (42, .i2l, 43, []), (43, .lload 5, 45, []), (45, .lmul, 46, []), (46, .lload_n 3, 47, []), (47, .invokestatic 81, 50, []), (50, .lmul, 51, []), (51, .ladd, 52, []), (52, .lstore 8, 54, []), (54, .iinc 10 1, 57, []), (57, .goto (-37), 60, [20]), (60, .lload 8, 62, []), (62, .lstore_n 3, 63, []), (63, .lload 5, 65, []), (65, .aload_n 0, 66, []), (66, .getfield 21, 69, []), (69, .iload_n 1, 70, []), (70, .invokevirtual 35, 73, []), (73, .i2l, 74, []), (74, .lmul, 75, []), (75, .lstore 5, 77, []), (77, .iinc 7 1, 80, []), (80, .goto (-72), 83, [8]), (83, .lload_n 3, 84, []), (84, .lreturn, 85, [])]
theorem gX4_bestByStopping : mGood mX4_bestByStopping tX4_bestByStopping := ⟨by decide, ⟨by decide, rfl, Or.inl rfl⟩, Or.inl rfl, by decide +kernel⟩
def tX4_leastFaceToStop : mTb := [(0, .aload_n 0, 1, []), (1, .iload_n 1, 2, []), (2, .iload_n 2, 3, []), (3, .iconst 1, 4, []), (4, .isub, 5, []), (5, .invokevirtual 84, 8, []), (8, .lstore_n 3, 9, []), (9, .aload_n 0, 10, []), (10, .getfield 21, 13, []), (13, .iload_n 1, 14, []), (14, .invokevirtual 35, 17, []), (17, .i2l, 18, []), (18, .iload_n 2, 19, []), (19, .iconst 1, 20, []), (20, .isub, 21, []), (21, .invokestatic 87, 24, []), (24, .lstore 5, 26, []), (26, .iconst 1, 27, []), (27, .istore 7, 29, []), (29, .iload 7, 31, []), (31, .bipush 6, 33, []), (33, .if_icmp .ge 20, 36, [53]), (36, .iload 7, 38, []), (38, .i2l, 39, []), (39, .lload 5, 41, []), (41, .lmul, 42, []), (42, .lload_n 3, 43, []), (43, .lcmp, 44, []), (44, .ifCond .ge 9, 47, [53]), (47, .iinc 7 1, 50, []), (50, .goto (-21), 53, [29]), (53, .iload 7, 55, []), (55, .ireturn, 56, [])]
theorem gX4_leastFaceToStop : mGood mX4_leastFaceToStop tX4_leastFaceToStop := ⟨by decide, ⟨by decide, rfl, Or.inl rfl⟩, Or.inl rfl, by decide +kernel⟩
def tX4_countSums : mTb := [(0, .aload_n 0, 1, []), (1, .getfield 9, 4, []), (4, .invokestatic 65, 7, []), (7, .iconst 0, 8, []), (8, .istore_n 2, 9, []), (9, .iload_n 2, 10, []), (10, .aload_n 0, 11, []), (11, .getfield 21, 14, []), (14, .getfield 25, 17, []), (17, .if_icmp .ge 26, 20, [43]), (20, .iload_n 1, 21, []), (21, .iload_n 2, 22, []), (22, .invokestatic 31, 25, []), (25, .ifCond .eq 12, 28, [37]), (28, .aload_n 0, 29, []), (29, .aload_n 0, 30, []), (30, .getfield 9, 33, []), (33, .iload_n 2, 34, []), (34, .invokevirtual 91, 37, []), (37, .iinc 2 1, 40, []), (40, .goto (-31), 43, [9]), (43, .return_, 44, [])]
theorem gX4_countSums : mGood mX4_countSums tX4_countSums := ⟨by decide, ⟨by decide, rfl, Or.inl rfl⟩, Or.inl rfl, by decide +kernel⟩
def tX4_countThrows : mTb := [(0, .aload_n 1, 1, []), (1, .invokestatic 65, 4, []), (4, .iconst 0, 5, []), (5, .istore 4, 7, []), (7, .iload 4, 9, []), (9, .iload_n 3, 10, []), (10, .if_icmp .ge 15, 13, [25]), (13, .aload_n 0, 14, []), (14, .aload_n 1, 15, []), (15, .iload_n 2, 16, []), (16, .invokevirtual 91, 19, []), (19, .iinc 4 1, 22, []), (22, .goto (-15), 25, [7]), (25, .return_, 26, [])]
theorem gX4_countThrows : mGood mX4_countThrows tX4_countThrows := ⟨by decide, ⟨by decide, rfl, Or.inl rfl⟩, Or.inl rfl, by decide +kernel⟩
def tX4_addToSums : mTb := [(0, .aload_n 1, 1, []), (1, .arraylength, 2, []), (2, .iconst 1, 3, []), (3, .isub, 4, []), (4, .istore_n 3, 5, []), (5, .iload_n 3, 6, []), (6, .ifCond .lt 62, 9, [68]), (9, .lconst 0, 10, []), (10, .lstore 4, 12, []), (12, .iconst 1, 13, []), (13, .istore 6, 15, []), (15, .iload 6, 17, []), (17, .bipush 6, 19, []), (19, .if_icmp .gt 38, 22, [57]), (22, .iload 6, 24, []), (24, .iload_n 3, 25, []), (25, .if_icmp .gt 32, 28, [57]), (28, .lload 4, 30, []), (30, .aload_n 0, 31, []), (31, .getfield 21, 34, []), (34, .iload_n 2, 35, []), (35, .iload 6, 37, []), (37, .invokevirtual 49, 40, []), (40, .i2l, 41, []), (41, .aload_n 1, 42, []), (42, .iload_n 3, 43, []), (43, .iload 6, 45, []), (45, .isub, 46, []), (46, .laload, 47, []), (47, .lmul, 48, []), (48, .ladd, 49, []), (49, .lstore 4, 51, []), (51, .iinc 6 1, 54, []), (54, .goto (-39), 57, [15]), (57, .aload_n 1, 58, []), (58, .iload_n 3, 59, []), (59, .lload 4, 61, []), (61, .lastore, 62, []), (62, .iinc 3 (-1), 65, []), (65, .goto (-60), 68, [5]), (68, .return_, 69, [])]
theorem gX4_addToSums : mGood mX4_addToSums tX4_addToSums := ⟨by decide, ⟨by decide, rfl, Or.inl rfl⟩, Or.inl rfl, by decide +kernel⟩
def tX4_addToFaceSets : mTb := [(0, .bipush 63, 2, []), (2, .istore_n 3, 3, []), (3, .iload_n 3, 4, []), (4, .ifCond .lt 96, 7, [100]), (7, .lconst 0, 8, []), (8, .lstore 4, 10, []), (10, .iconst 1, 11, []), (11, .istore 6, 13, []), (13, .iload 6, 15, []), (15, .bipush 6, 17, []), (17, .if_icmp .gt 69, 20, [86]), (20, .iconst 1, 21, []), (21, .iload 6, 23, []), (23, .iconst 1, 24, []), (24, .isub, 25, []), (25, .ishl, 26, []), (26, .istore 7, 28, []), (28, .iload_n 3, 29, []), (29, .iload 7, 31, []), (31, .iand, 32, []), (32, .ifCond .eq 48, 35, [80]), (35, .aload_n 0, 36, []), (36, .getfield 18, 39, []), (39, .iload_n 3, 40, []), (40, .iload 7, 42, []), (42, .ixor, 43, []), (43, .laload, 44, []), (44, .iload_n 2, 45, []), (45, .ifCond .eq 12, 48, [57]), (48, .aload_n 0, 49, []), (49, .getfield 18, 52, []), (52, .iload_n 3, 53, []), (53, .laload, 54, []), (54, .goto 4, 57, [58]), (57, .lconst 0, 58, []), (58, .ladd, 59, []), (59, .lstore 8, 61, []), (61, .lload 4, 63, []), (63, .aload_n 0, 64, []), (64, .getfield 21, 67, []), (67, .iload_n 1, 68, []), (68, .iload 6, 70, []), (70, .invokevirtual 49, 73, []), (73, .i2l, 74, []), (74, .lload 8, 76, []), (76, .lmul, 77, []), (77, .ladd, 78, []), (78, .lstore 4, 80, []), (80, .iinc 6 1, 83, []), (83, .goto (-70), 86, [13]), (86, .aload_n 0, 87, []), (87, .getfield 18, 90, []), (90, .iload_n 3, 91, []), (91, .lload 4, 93, []), (93, .lastore, 94, []), (94, .iinc 3 (-1), 97, []), (97, .goto (-94), 100, [3]), (100, .return_, 101, [])]
theorem gX4_addToFaceSets : mGood mX4_addToFaceSets tX4_addToFaceSets := ⟨by decide, ⟨by decide, rfl, Or.inl rfl⟩, Or.inl rfl, by decide +kernel⟩
def tX4_begin : mTb := [(0, .iconst 0, 1, []), (1, .istore_n 1, 2, []), (2, .iload_n 1, 3, []), (3, .aload_n 0, 4, []), (4, .arraylength, 5, []), (5, .if_icmp .ge 21, 8, [26]), (8, .aload_n 0, 9, []), (9, .iload_n 1, 10, []), (10, .iload_n 1, 11, []), (11, .ifCond .ne 7, 14, [18]), (14, .lconst 1, 15, []), (15, .goto 4, 18, [19]), (18, .lconst 0, 19, []), (19, .lastore, 20, []), (20, .iinc 1 1, 23, []), (23, .goto (-21), 26, [2]), (26, .return_, 27, [])]
theorem gX4_begin : mGood mX4_begin tX4_begin := ⟨by decide, ⟨by decide, rfl, Or.inl rfl⟩, Or.inl rfl, by decide +kernel⟩
def tX4_isIn : mTb := [(0, .iload_n 0, 1, []), (1, .iload_n 1, 2, []), (2, .ishr, 3, []), (3, .iconst 1, 4, []), (4, .iand, 5, []), (5, .iconst 1, 6, []), (6, .if_icmp .ne 7, 9, [13]), (9, .iconst 1, 10, []), (10, .goto 4, 13, [14]), (13, .iconst 0, 14, []), (14, .ireturn, 15, [])]
theorem gX4_isIn : mGood mX4_isIn tX4_isIn := ⟨by decide, ⟨by decide, rfl, Or.inl rfl⟩, Or.inl rfl, by decide +kernel⟩
def tX4_isWithoutGap : mTb := [(0, .iload_n 0, 1, []), (1, .iload_n 0, 2, []), (2, .iload_n 0, 3, []), (3, .ineg, 4, []), (4, .iand, 5, []), (5, .iadd, 6, []), (6, .iload_n 0, 7, []), (7, .iand, 8, []), (8, .ifCond .ne 7, 11, [15]), (11, .iconst 1, 12, []), (12, .goto 4, 15, [16]), (15, .iconst 0, 16, []), (16, .ireturn, 17, [])]
theorem gX4_isWithoutGap : mGood mX4_isWithoutGap tX4_isWithoutGap := ⟨by decide, ⟨by decide, rfl, Or.inl rfl⟩, Or.inl rfl, by decide +kernel⟩
def tX5_init : mTb := [(0, .aload_n 0, 1, []), (1, .invokespecial 3, 4, []), (4, .aload_n 0, 5, []), (5, .bipush 39, 7, []), (7, .newarray .int, 9, []), (9, .putfield 9, 12, []), (12, .aload_n 0, 13, []), (13, .iconst (-1), 14, []), (14, .putfield 15, 17, []), (17, .aload_n 0, 18, []), (18, .aload_n 1, 19, []), (19, .putfield 19, 22, []), (22, .return_, 23, [])]
theorem gX5_init : mGood mX5_init tX5_init := ⟨by decide, ⟨by decide, rfl, Or.inl rfl⟩, Or.inl rfl, by decide +kernel⟩
def tX5_read : mTb := [(0, .aload_n 0, 1, []), (1, .invokevirtual 23, 4, []), (4, .aload_n 0, 5, []), (5, .iload_n 1, 6, []), (6, .putfield 26, 9, []), (9, .aload_n 0, 10, []), (10, .invokevirtual 29, 13, []), (13, .iconst 0, 14, []), (14, .istore_n 2, 15, []), (15, .iload_n 2, 16, []), (16, .iload_n 1, 17, []), (17, .if_icmp .ge 40, 20, [57]), (20, .aload_n 0, 21, []), (21, .getfield 32, 24, []), (24, .ifCond .eq 33, 27, [57]), (27, .aload_n 0, 28, []), (28, .getfield 35, 31, []), (31, .ifCond .ne 26, 34, [57]), (34, .aload_n 0, 35, []), (35, .invokevirtual 38, 38, []), (38, .ifCond .eq 13, 41, [51]), (41, .aload_n 0, 42, []), (42, .dup, 43, []), (43, .getfield 42, 46, []), (46, .iconst 1, 47, []), (47, .iadd, 48, []), (48, .putfield 42, 51, []), (51, .iinc 2 1, 54, []), (54, .goto (-39), 57, [15]), (57, .return_, 58, [])]
theorem gX5_read : mGood mX5_read tX5_read := ⟨by decide, ⟨by decide, rfl, Or.inl rfl⟩, Or.inl rfl, by decide +kernel⟩
def tX5_clear : mTb := [(0, .iconst 0, 1, []), (1, .istore_n 1, 2, []), (2, .iload_n 1, 3, []), (3, .bipush 39, 5, []), (5, .if_icmp .ge 26, 8, [31]), (8, .aload_n 0, 9, []), (9, .getfield 9, 12, []), (12, .iload_n 1, 13, []), (13, .iload_n 1, 14, []), (14, .bipush 35, 16, []), (16, .if_icmp .ge 7, 19, [23]), (19, .iconst 0, 20, []), (20, .goto 4, 23, [24]), (23, .iconst (-1), 24, []), (24, .iastore, 25, []), (25, .iinc 1 1, 28, []), (28, .goto (-26), 31, [2]), (31, .aload_n 0, 32, []), (32, .iconst 0, 33, []), (33, .putfield 42, 36, []), (36, .aload_n 0, 37, []), (37, .iconst 0, 38, []), (38, .putfield 45, 41, []), (41, .aload_n 0, 42, []), (42, .iconst 0, 43, []), (43, .putfield 48, 46, []), (46, .aload_n 0, 47, []), (47, .iconst 5, 48, []), (48, .putfield 51, 51, []), (51, .aload_n 0, 52, []), (52, .iconst 0, 53, []), (53, .putfield 35, 56, []), (56, .aload_n 0, 57, []), (57, .iconst (-1), 58, []), (58, .putfield 15, 61, []), (61, .aload_n 0, 62, []), (62, .iconst 0, 63, []), (63, .putfield 54, 66, []), (66, .return_, 67, [])]
theorem gX5_clear : mGood mX5_clear tX5_clear := ⟨by decide, ⟨by decide, rfl, Or.inl rfl⟩, Or.inl rfl, by decide +kernel⟩
def tX5_readsLine : mTb := [(0, .aload_n 0, 1, []), (1, .getfield 32, 4, []), (4, .tableswitch 56 3 6 #[32, 56, 40, 48], 36, [60, 36, 60, 44, 52]), (36, .aload_n 0, 37, []), (37, .invokevirtual 57, 40, []), (40, .istore_n 1, 41, []), (41, .goto 25, 44, [66]), (44, .aload_n 0, 45, []), (45, .invokevirtual 60, 48, []), (48, .istore_n 1, 49, []), (49, .goto 17, 52, [66]), (52, .aload_n 0, 53, []), (53, .invokevirtual 63, 56, []), (56, .istore_n 1, 57, []), (57, .goto 9, 60, [66]), (60, .aload_n 0, 61, []), (61, .iconst 2, 62, []), (62, .invokevirtual 66, 65, []), (65, .istore_n 1, 66, []), (66, .iload_n 1, 67, []), (67, .ifCond .ne 5, 70, [72]), (70, .iconst 0, 71, []), (71, .ireturn, 72, []), (72, .aload_n 0, 73, []), (73, .getfield 32, 76, []), (76, .iconst 1, 77, []), (77, .if_icmp .eq 9, 80, [86]), (80, .aload_n 0, 81, []), (81, .iconst 2, 82, []), (82, .invokevirtual 66, 85, []), (85, .ireturn, 86, []), (86, .aload_n 0, 87, []), (87, .invokevirtual 29, 90, []), (90, .iconst 1, 91, []), (91, .ireturn, 92, [])]
theorem gX5_readsLine : mGood mX5_readsLine tX5_readsLine := ⟨by decide, ⟨by decide, rfl, Or.inl rfl⟩, Or.inl rfl, by decide +kernel⟩
def tX5_readsDie : mTb := [(0, .aload_n 0, 1, []), (1, .getfield 45, 4, []), (4, .iconst 5, 5, []), (5, .if_icmp .lt 9, 8, [14]), (8, .aload_n 0, 9, []), (9, .iconst 4, 10, []), (10, .invokevirtual 66, 13, []), (13, .ireturn, 14, []), (14, .aload_n 0, 15, []), (15, .invokevirtual 29, 18, []), (18, .iconst 0, 19, []), (19, .istore_n 1, 20, []), (20, .iconst 1, 21, []), (21, .istore_n 2, 22, []), (22, .iload_n 2, 23, []), (23, .bipush 6, 25, []), (25, .if_icmp .gt 68, 28, [93]), (28, .iload_n 2, 29, []), (29, .bipush 6, 31, []), (31, .if_icmp .ne 11, 34, [42]), (34, .iload_n 1, 35, []), (35, .ifCond .ne 7, 38, [42]), (38, .iconst 1, 39, []), (39, .goto 4, 42, [43]), (42, .iconst 0, 43, []), (43, .istore_n 3, 44, []), (44, .aload_n 0, 45, []), (45, .iload_n 3, 46, []), (46, .bipush 20, 48, []), (48, .invokevirtual 70, 51, []), (51, .ifCond .ne 5, 54, [56]), (54, .iconst 0, 55, []), (55, .ireturn, 56, []), (56, .aload_n 0, 57, []), (57, .getfield 9, 60, []), (60, .aload_n 0, 61, []), (61, .getfield 45, 64, []), (64, .bipush 6, 66, []), (66, .imul, 67, []), (67, .iload_n 2, 68, []), (68, .iadd, 69, []), (69, .iconst 1, 70, []), (70, .isub, 71, []), (71, .aload_n 0, 72, []), (72, .getfield 74, 75, []), (75, .iastore, 76, []), (76, .iload_n 1, 77, []), (77, .aload_n 0, 78, []), (78, .getfield 74, 81, []), (81, .iadd, 82, []), (82, .istore_n 1, 83, []), (83, .aload_n 0, 84, []), (84, .invokevirtual 29, 87, []), (87, .iinc 2 1, 90, []), (90, .goto (-68), 93, [22]), (93, .aload_n 0, 94, []), (94, .getfield 32, 97, []), (97, .iconst 4, 98, []), (98, .if_icmp .ne 23, 101, [121]), (101, .aload_n 0, 102, []), (102, .getfield 9, 105, []), (105, .bipush 30, 107, []), (107, .dup2, 108, []), (108, .iaload, 109, []), (109, .iconst 1, 110, []), (110, .aload_n 0, 111, []), (111, .getfield 45, 114, []), (114, .ishl, 115, []), (115, .ior, 116, []), (116, .iastore, 117, []), (117, .aload_n 0, 118, []), (118, .invokevirtual 29, 121, []), (121, .aload_n 0, 122, []), (122, .dup, 123, []), (123, .getfield 45, 126, []), (126, .iconst 1, 127, []), (127, .iadd, 128, []), (128, .putfield 45, 131, []), (131, .iconst 1, 132, []), (132, .ireturn, 133, [])]
theorem gX5_readsDie : mGood mX5_readsDie tX5_readsDie := ⟨by decide, ⟨by decide, rfl, Or.inl rfl⟩, Or.inl rfl, by decide +kernel⟩
def tX5_readsHand : mTb := [(0, .aload_n 0, 1, []), (1, .getfield 48, 4, []), (4, .iconst 4, 5, []), (5, .if_icmp .lt 9, 8, [14]), (8, .aload_n 0, 9, []), (9, .iconst 4, 10, []), (10, .invokevirtual 66, 13, []), (13, .ireturn, 14, []), (14, .aload_n 0, 15, []), (15, .invokevirtual 29, 18, []), (18, .aload_n 0, 19, []), (19, .iconst 0, 20, []), (20, .bipush 9, 22, []), (22, .invokevirtual 70, 25, []), (25, .ifCond .ne 5, 28, [30]), (28, .iconst 0, 29, []), (29, .ireturn, 30, []), (30, .aload_n 0, 31, []), (31, .getfield 9, 34, []), (34, .bipush 31, 36, []), (36, .aload_n 0, 37, []), (37, .getfield 48, 40, []), (40, .iadd, 41, []), (41, .aload_n 0, 42, []), (42, .getfield 74, 45, []), (45, .iastore, 46, []), (46, .aload_n 0, 47, []), (47, .dup, 48, []), (48, .getfield 48, 51, []), (51, .iconst 1, 52, []), (52, .iadd, 53, []), (53, .putfield 48, 56, []), (56, .aload_n 0, 57, []), (57, .invokevirtual 29, 60, []), (60, .iconst 1, 61, []), (61, .ireturn, 62, [])]
theorem gX5_readsHand : mGood mX5_readsHand tX5_readsHand := ⟨by decide, ⟨by decide, rfl, Or.inl rfl⟩, Or.inl rfl, by decide +kernel⟩
def tX5_readsAnts : mTb := [(0, .aload_n 0, 1, []), (1, .invokevirtual 29, 4, []), (4, .aload_n 0, 5, []), (5, .iconst 1, 6, []), (6, .bipush 6, 8, []), (8, .invokevirtual 70, 11, []), (11, .ifCond .ne 5, 14, [16]), (14, .iconst 0, 15, []), (15, .ireturn, 16, []), (16, .aload_n 0, 17, []), (17, .aload_n 0, 18, []), (18, .getfield 74, 21, []), (21, .putfield 51, 24, []), (24, .aload_n 0, 25, []), (25, .invokevirtual 29, 28, []), (28, .iconst 1, 29, []), (29, .ireturn, 30, [])]
theorem gX5_readsAnts : mGood mX5_readsAnts tX5_readsAnts := ⟨by decide, ⟨by decide, rfl, Or.inl rfl⟩, Or.inl rfl, by decide +kernel⟩
def tX5_readsNumber : mTb := [(0, .aload_n 0, 1, []), (1, .getfield 32, 4, []), (4, .iconst 2, 5, []), (5, .if_icmp .eq 9, 8, [14]), (8, .aload_n 0, 9, []), (9, .iconst 2, 10, []), (10, .invokevirtual 66, 13, []), (13, .ireturn, 14, []), (14, .aload_n 0, 15, []), (15, .getfield 74, 18, []), (18, .iload_n 1, 19, []), (19, .if_icmp .lt 11, 22, [30]), (22, .aload_n 0, 23, []), (23, .getfield 74, 26, []), (26, .iload_n 2, 27, []), (27, .if_icmp .le 9, 30, [36]), (30, .aload_n 0, 31, []), (31, .iconst 3, 32, []), (32, .invokevirtual 66, 35, []), (35, .ireturn, 36, []), (36, .iconst 1, 37, []), (37, .ireturn, 38, [])]
theorem gX5_readsNumber : mGood mX5_readsNumber tX5_readsNumber := ⟨by decide, ⟨by decide, rfl, Or.inl rfl⟩, Or.inl rfl, by decide +kernel⟩
def tX5_isFaulty : mTb := [(0, .aload_n 0, 1, []), (1, .aload_n 0, 2, []), (2, .getfield 32, 5, []), (5, .bipush 8, 7, []), (7, .if_icmp .ne 7, 10, [14]), (10, .iconst 1, 11, []), (11, .goto 4, 14, [15]), (14, .iload_n 1, 15, []), (15, .putfield 35, 18, []), (18, .aload_n 0, 19, []), (19, .aload_n 0, 20, []), (20, .getfield 77, 23, []), (23, .putfield 15, 26, []), (26, .iconst 0, 27, []), (27, .ireturn, 28, [])]
theorem gX5_isFaulty : mGood mX5_isFaulty tX5_isFaulty := ⟨by decide, ⟨by decide, rfl, Or.inl rfl⟩, Or.inl rfl, by decide +kernel⟩
def tX5_nextToken : mTb := [(0, .aload_n 0, 1, []), (1, .getfield 54, 4, []), (4, .aload_n 0, 5, []), (5, .getfield 26, 8, []), (8, .if_icmp .ge 33, 11, [41]), (11, .aload_n 0, 12, []), (12, .getfield 19, 15, []), (15, .aload_n 0, 16, []), (16, .getfield 54, 19, []), (19, .invokevirtual 80, 22, []), (22, .invokestatic 86, 25, []), (25, .ifCond .eq 16, 28, [41]), (28, .aload_n 0, 29, []), (29, .dup, 30, []), (30, .getfield 54, 33, []), (33, .iconst 1, 34, []), (34, .iadd, 35, []), (35, .putfield 54, 38, []), (38, .goto (-38), 41, [0]), (41, .aload_n 0, 42, []), (42, .aload_n 0, 43, []), (43, .getfield 54, 46, []), (46, .putfield 77, 49, []), (49, .aload_n 0, 50, []), (50, .getfield 19, 53, []), (53, .aload_n 0, 54, []), (54, .getfield 54, 57, []), (57, .invokevirtual 80, 60, []), (60, .istore_n 1, 61, []), (61, .aload_n 0, 62, []), (62, .getfield 54, 65, []), (65, .aload_n 0, 66, []), (66, .getfield 26, 69, []), (69, .if_icmp .lt 11, 72, [80]), (72, .aload_n 0, 73, []), (73, .iconst 0, 74, []), (74, .putfield 32, 77, []), (77, .goto 61, 80, [138]), (80, .iload_n 1, 81, []), (81, .bipush 59, 83, []), (83, .if_icmp .ne 21, 86, [104]), (86, .aload_n 0, 87, []), (87, .dup, 88, []), (88, .getfield 54, 91, []), (91, .iconst 1, 92, []), (92, .iadd, 93, []), (93, .putfield 54, 96, []), (96, .aload_n 0, 97, []), (97, .iconst 1, 98, []), (98, .putfield 32, 101, []), (101, .goto 37, 104, [138]), (104, .iload_n 1, 105, []), (105, .invokestatic 89, 108, []), (108, .ifCond .eq 10, 111, [118]), (111, .aload_n 0, 112, []), (112, .invokevirtual 92, 115, []), (115, .goto 23, 118, [138]), (118, .iload_n 1, 119, []), (119, .invokestatic 95, 122, []), (122, .ifCond .eq 10, 125, [132]), (125, .aload_n 0, 126, []), (126, .invokevirtual 98, 129, []), (129, .goto 9, 132, [138]), (132, .aload_n 0, 133, []), (133, .bipush 8, 135, []), (135, .putfield 32, 138, []), (138, .return_, 139, [])]
theorem gX5_nextToken : mGood mX5_nextToken tX5_nextToken := ⟨by decide, ⟨by decide, rfl, Or.inl rfl⟩, Or.inl rfl, by decide +kernel⟩
def tX5_nextNumber : mTb := [(0, .aload_n 0, 1, []), (1, .iconst 0, 2, []), (2, .putfield 74, 5, []), (5, .aload_n 0, 6, []), (6, .getfield 54, 9, []), (9, .aload_n 0, 10, []), (10, .getfield 26, 13, []), (13, .if_icmp .ge 72, 16, [85]), (16, .aload_n 0, 17, []), (17, .getfield 19, 20, []), (20, .aload_n 0, 21, []), (21, .getfield 54, 24, []), (24, .invokevirtual 80, 27, []), (27, .invokestatic 89, 30, []), (30, .ifCond .eq 55, 33, [85]), (33, .aload_n 0, 34, []), (34, .getfield 54, 37, []), (37, .aload_n 0, 38, []), (38, .getfield 77, 41, []), (41, .isub, 42, []), (42, .iconst 3, 43, []), (43, .if_icmp .ge 29, 46, [72]), (46, .aload_n 0, 47, []), (47, .aload_n 0, 48, []), (48, .getfield 74, 51, []), (51, .bipush 10, 53, []), (53, .imul, 54, []), (54, .aload_n 0, 55, []), (55, .getfield 19, 58, []), (58, .aload_n 0, 59, []), (59, .getfield 54, 62, []), (62, .invokevirtual 80, 65, []), (65, .iadd, 66, []), (66, .bipush 48, 68, []), (68, .isub, 69, []), (69, .putfield 74, 72, []), (72, .aload_n 0, 73, []), (73, .dup, 74, []), (74, .getfield 54, 77, []), (77, .iconst 1, 78, []), (78, .iadd, 79, []), (79, .putfield 54, 82, []), (82, .goto (-77), 85, [5]), (85, .aload_n 0, 86, []), (86, .aload_n 0, 87, []), (87, .getfield 54, 90, []), (90, .aload_n 0, 91, []), (91, .getfield 77, 94, []), (94, .isub, 95, []), (95, .iconst 3, 96, []), (96, .if_icmp .gt 7, 99, [103]), (99, .iconst 2, 100, []), (100, .goto 5, 103, [105]), (103, .bipush 8, 105, []), (105, .putfield 32, 108, []), (108, .return_, 109, [])]
theorem gX5_nextNumber : mGood mX5_nextNumber tX5_nextNumber := ⟨by decide, ⟨by decide, rfl, Or.inl rfl⟩, Or.inl rfl, by decide +kernel⟩
def tX5_nextWord : mTb := [(0, .aload_n 0, 1, []), (1, .getfield 54, 4, []), (4, .aload_n 0, 5, []), (5, .getfield 26, 8, []), (8, .if_icmp .ge 33, 11, [41]), (11, .aload_n 0, 12, []), (12, .getfield 19, 15, []), (15, .aload_n 0, 16, []), (16, .getfield 54, 19, []), (19, .invokevirtual 80, 22, []), (22, .invokestatic 95, 25, []), (25, .ifCond .eq 16, 28, [41]), (28, .aload_n 0, 29, []), (29, .dup, 30, []), (30, .getfield 54, 33, []), (33, .iconst 1, 34, []), (34, .iadd, 35, []), (35, .putfield 54, 38, []), (38, .goto (-38), 41, [0]), (41, .aload_n 0, 42, []), (42, .ldc 101, 44, []), (44, .invokevirtual 103, 47, []), (47, .ifCond .eq 11, 50, [58]), (50, .aload_n 0, 51, []), (51, .iconst 3, 52, []), (52, .putfield 32, 55, []), (55, .goto 61, 58, [116]), (58, .aload_n 0, 59, []), (59, .ldc 107, 61, []), (61, .invokevirtual 103, 64, []), (64, .ifCond .eq 11, 67, [75]), (67, .aload_n 0, 68, []), (68, .iconst 4, 69, []), (69, .putfield 32, 72, []), (72, .goto 44, 75, [116]), (75, .aload_n 0, 76, []), (76, .ldc 109, 78, []), (78, .invokevirtual 103, 81, []), (81, .ifCond .eq 11, 84, [92]), (84, .aload_n 0, 85, []), (85, .iconst 5, 86, []), (86, .putfield 32, 89, []), (89, .goto 27, 92, [116]), (92, .aload_n 0, 93, []), (93, .ldc 111, 95, []), (95, .invokevirtual 103, 98, []), (98, .ifCond .eq 12, 101, [110]), (101, .aload_n 0, 102, []), (102, .bipush 6, 104, []), (104, .putfield 32, 107, []), (107, .goto 9, 110, [116]), (110, .aload_n 0, 111, []), (111, .bipush 7, 113, []), (113, .putfield 32, 116, []), (116, .return_, 117, [])]
theorem gX5_nextWord : mGood mX5_nextWord tX5_nextWord := ⟨by decide, ⟨by decide, rfl, Or.inl rfl⟩, Or.inl rfl, by decide +kernel⟩
def tX5_isWord : mTb := [(0, .aload_n 0, 1, []), (1, .getfield 54, 4, []), (4, .aload_n 0, 5, []), (5, .getfield 77, 8, []), (8, .isub, 9, []), (9, .aload_n 1, 10, []), (10, .invokevirtual 113, 13, []), (13, .if_icmp .eq 5, 16, [18]), (16, .iconst 0, 17, []), (17, .ireturn, 18, []), (18, .iconst 0, 19, []), (19, .istore_n 2, 20, []), (20, .iload_n 2, 21, []), (21, .aload_n 1, 22, []), (22, .invokevirtual 113, 25, []), (25, .if_icmp .ge 32, 28, [57]), (28, .aload_n 0, 29, []), (29, .getfield 19, 32, []), (32, .aload_n 0, 33, []), (33, .getfield 77, 36, []), (36, .iload_n 2, 37, []), (37, .iadd, 38, []), (38, .invokevirtual 80, 41, []), (41, .aload_n 1, 42, []), (42, .iload_n 2, 43, []), (43, .invokevirtual 118, 46, []), (46, .if_icmp .eq 5, 49, [51]), (49, .iconst 0, 50, []), (50, .ireturn, 51, []), (51, .iinc 2 1, 54, []), (54, .goto (-34), 57, [20]), (57, .iconst 1, 58, []), (58, .ireturn, 59, [])]
theorem gX5_isWord : mGood mX5_isWord tX5_isWord := ⟨by decide, ⟨by decide, rfl, Or.inl rfl⟩, Or.inl rfl, by decide +kernel⟩
def tX5_isBlank : mTb := [(0, .iload_n 0, 1, []), (1, .bipush 10, 3, []), (3, .if_icmp .eq 9, 6, [12]), (6, .iload_n 0, 7, []), (7, .bipush 32, 9, []), (9, .if_icmp .ne 7, 12, [16]), (12, .iconst 1, 13, []), (13, .goto 4, 16, [17]), (16, .iconst 0, 17, []), (17, .ireturn, 18, [])]
theorem gX5_isBlank : mGood mX5_isBlank tX5_isBlank := ⟨by decide, ⟨by decide, rfl, Or.inl rfl⟩, Or.inl rfl, by decide +kernel⟩
def tX5_isDigit : mTb := [(0, .iload_n 0, 1, []), (1, .bipush 48, 3, []), (3, .if_icmp .lt 13, 6, [16]), (6, .iload_n 0, 7, []), (7, .bipush 57, 9, []), (9, .if_icmp .gt 7, 12, [16]), (12, .iconst 1, 13, []), (13, .goto 4, 16, [17]), (16, .iconst 0, 17, []), (17, .ireturn, 18, [])]
theorem gX5_isDigit : mGood mX5_isDigit tX5_isDigit := ⟨by decide, ⟨by decide, rfl, Or.inl rfl⟩, Or.inl rfl, by decide +kernel⟩
def tX5_isLetter : mTb := [(0, .iload_n 0, 1, []), (1, .bipush 97, 3, []), (3, .if_icmp .lt 13, 6, [16]), (6, .iload_n 0, 7, []), (7, .bipush 122, 9, []), (9, .if_icmp .gt 7, 12, [16]), (12, .iconst 1, 13, []), (13, .goto 4, 16, [17]), (16, .iconst 0, 17, []), (17, .ireturn, 18, [])]
theorem gX5_isLetter : mGood mX5_isLetter tX5_isLetter := ⟨by decide, ⟨by decide, rfl, Or.inl rfl⟩, Or.inl rfl, by decide +kernel⟩
def tX6_init : mTb := [(0, .aload_n 0, 1, []), (1, .invokespecial 3, 4, []), (4, .aload_n 0, 5, []), (5, .sipush 600, 8, []), (8, .newarray .byte, 10, []), (10, .putfield 9, 13, []), (13, .return_, 14, [])]
theorem gX6_init : mGood mX6_init tX6_init := ⟨by decide, ⟨by decide, rfl, Or.inl rfl⟩, Or.inl rfl, by decide +kernel⟩
def tX6_hasRoomForFeed : mTb := [(0, .aload_n 0, 1, []), (1, .getfield 15, 4, []), (4, .bipush 20, 6, []), (6, .iadd, 7, []), (7, .sipush 600, 10, []), (10, .if_icmp .gt 7, 13, [17]), (13, .iconst 1, 14, []), (14, .goto 4, 17, [18]), (17, .iconst 0, 18, []), (18, .ireturn, 19, [])]
theorem gX6_hasRoomForFeed : mGood mX6_hasRoomForFeed tX6_hasRoomForFeed := ⟨by decide, ⟨by decide, rfl, Or.inl rfl⟩, Or.inl rfl, by decide +kernel⟩
def tX6_put : mTb := [(0, .bipush 24, 2, []), (2, .istore_n 2, 3, []), (3, .iload_n 2, 4, []), (4, .ifCond .lt 44, 7, [48]), (7, .aload_n 0, 8, []), (8, .getfield 15, 11, []), (11, .aload_n 0, 12, []), (12, .getfield 9, 15, []), (15, .arraylength, 16, []), (16, .if_icmp .ge 32, 19, [48]), (19, .aload_n 0, 20, []), (20, .getfield 9, 23, []), (23, .aload_n 0, 24, []), (24, .getfield 15, 27, []), (27, .iload_n 1, 28, []), (28, .iload_n 2, 29, []), (29, .iushr, 30, []), (30, .i2b, 31, []), (31, .bastore, 32, []), (32, .aload_n 0, 33, []), (33, .dup, 34, []), (34, .getfield 15, 37, []), (37, .iconst 1, 38, []), (38, .iadd, 39, []), (39, .putfield 15, 42, []), (42, .iinc 2 (-8), 45, []), (45, .goto (-42), 48, [3]), (48, .return_, 49, [])]
theorem gX6_put : mGood mX6_put tX6_put := ⟨by decide, ⟨by decide, rfl, Or.inl rfl⟩, Or.inl rfl, by decide +kernel⟩
def tX6_byteAt : mTb := [(0, .iload_n 1, 1, []), (1, .ifCond .lt 20, 4, [21]), (4, .iload_n 1, 5, []), (5, .aload_n 0, 6, []), (6, .getfield 15, 9, []), (9, .if_icmp .ge 12, 12, [21]), (12, .aload_n 0, 13, []), (13, .getfield 9, 16, []), (16, .iload_n 1, 17, []), (17, .baload, 18, []), (18, .goto 4, 21, [22]), (21, .iconst 0, 22, []), (22, .ireturn, 23, [])]
theorem gX6_byteAt : mGood mX6_byteAt tX6_byteAt := ⟨by decide, ⟨by decide, rfl, Or.inl rfl⟩, Or.inl rfl, by decide +kernel⟩
def tX7_init : mTb := [(0, .aload_n 0, 1, []), (1, .invokespecial 3, 4, []), (4, .aload_n 0, 5, []), (5, .bipush 30, 7, []), (7, .newarray .long, 9, []), (9, .putfield 9, 12, []), (12, .aload_n 0, 13, []), (13, .iconst 1, 14, []), (14, .putfield 15, 17, []), (17, .return_, 18, [])]
theorem gX7_init : mGood mX7_init tX7_init := ⟨by decide, ⟨by decide, rfl, Or.inl rfl⟩, Or.inl rfl, by decide +kernel⟩
def tX7_lay : mTb := [(0, .aload_n 0, 1, []), (1, .iconst 0, 2, []), (2, .putfield 15, 5, []), (5, .aload_n 0, 6, []), (6, .iload_n 1, 7, []), (7, .putfield 19, 10, []), (10, .aload_n 0, 11, []), (11, .iload_n 2, 12, []), (12, .putfield 23, 15, []), (15, .iconst 0, 16, []), (16, .istore_n 3, 17, []), (17, .iload_n 3, 18, []), (18, .aload_n 0, 19, []), (19, .getfield 9, 22, []), (22, .arraylength, 23, []), (23, .if_icmp .ge 16, 26, [39]), (26, .aload_n 0, 27, []), (27, .getfield 9, 30, []), (30, .iload_n 3, 31, []), (31, .lconst 0, 32, []), (32, .lastore, 33, []), (33, .iinc 3 1, 36, []), (36, .goto (-19), 39, [17]), (39, .return_, 40, [])]
theorem gX7_lay : mGood mX7_lay tX7_lay := ⟨by decide, ⟨by decide, rfl, Or.inl rfl⟩, Or.inl rfl, by decide +kernel⟩
def tX7_put : mTb := [(0, .iload_n 1, 1, []), (1, .ifCond .lt 31, 4, [32]), (4, .iload_n 1, 5, []), (5, .aload_n 0, 6, []), (6, .getfield 23, 9, []), (9, .if_icmp .ge 23, 12, [32]), (12, .iload_n 1, 13, []), (13, .aload_n 0, 14, []), (14, .getfield 9, 17, []), (17, .arraylength, 18, []), (18, .if_icmp .ge 14, 21, [32]), (21, .aload_n 0, 22, []), (22, .getfield 9, 25, []), (25, .iload_n 1, 26, []), (26, .aload_n 0, 27, []), (27, .lload_n 2, 28, []), (28, .invokevirtual 26, 31, []), (31, .lastore, 32, []), (32, .return_, 33, [])]
theorem gX7_put : mGood mX7_put tX7_put := ⟨by decide, ⟨by decide, rfl, Or.inl rfl⟩, Or.inl rfl, by decide +kernel⟩
def tX7_number : mTb := [(0, .iload_n 1, 1, []), (1, .ifCond .lt 29, 4, [30]), (4, .iload_n 1, 5, []), (5, .aload_n 0, 6, []), (6, .getfield 23, 9, []), (9, .if_icmp .ge 21, 12, [30]), (12, .iload_n 1, 13, []), (13, .aload_n 0, 14, []), (14, .getfield 9, 17, []), (17, .arraylength, 18, []), (18, .if_icmp .ge 12, 21, [30]), (21, .aload_n 0, 22, []), (22, .getfield 9, 25, []), (25, .iload_n 1, 26, []), (26, .laload, 27, []), (27, .goto 4, 30, [31]), (30, .lconst 0, 31, []), (31, .lreturn, 32, [])]
theorem gX7_number : mGood mX7_number tX7_number := ⟨by decide, ⟨by decide, rfl, Or.inl rfl⟩, Or.inl rfl, by decide +kernel⟩
def tX7_cut : mTb := [(0, .aload_n 0, 1, []), (1, .getfield 19, 4, []), (4, .tableswitch 42 0 2 #[28, 33, 38], 32, [46, 32, 37, 42]), (32, .lload_n 1, 33, []), (33, .l2i, 34, []), (34, .i2b, 35, []), (35, .i2l, 36, []), (36, .lreturn, 37, []), (37, .lload_n 1, 38, []), (38, .l2i, 39, []), (39, .i2s, 40, []), (40, .i2l, 41, []), (41, .lreturn, 42, []), (42, .lload_n 1, 43, []), (43, .l2i, 44, []), (44, .i2l, 45, []), (45, .lreturn, 46, []), (46, .lload_n 1, 47, []), (47, .lreturn, 48, [])]
theorem gX7_cut : mGood mX7_cut tX7_cut := ⟨by decide, ⟨by decide, rfl, Or.inl rfl⟩, Or.inl rfl, by decide +kernel⟩
def tX7_holdsToldFaces : mTb := [(0, .aload_n 0, 1, []), (1, .getfield 23, 4, []), (4, .iconst 1, 5, []), (5, .if_icmp .lt 15, 8, [20]), (8, .aload_n 0, 9, []), (9, .getfield 23, 12, []), (12, .iconst 5, 13, []), (13, .if_icmp .gt 7, 16, [20]), (16, .iconst 1, 17, []), (17, .goto 4, 20, [21]), (20, .iconst 0, 21, []), (21, .istore_n 1, 22, []), (22, .iconst 0, 23, []), (23, .istore_n 2, 24, []), (24, .iload_n 2, 25, []), (25, .aload_n 0, 26, []), (26, .getfield 23, 29, []), (29, .if_icmp .ge 22, 32, [51]), (32, .iload_n 1, 33, []), (33, .ifCond .eq 18, 36, [51]), (36, .aload_n 0, 37, []), (37, .iload_n 2, 38, []), (38, .invokevirtual 30, 41, []), (41, .invokestatic 34, 44, []), (44, .istore_n 1, 45, []), (45, .iinc 2 1, 48, []), (48, .goto (-24), 51, [24]), (51, .iload_n 1, 52, []), (52, .ireturn, 53, [])]
theorem gX7_holdsToldFaces : mGood mX7_holdsToldFaces tX7_holdsToldFaces := ⟨by decide, ⟨by decide, rfl, Or.inl rfl⟩, Or.inl rfl, by decide +kernel⟩
def tX7_face : mTb := [(0, .aload_n 0, 1, []), (1, .iload_n 1, 2, []), (2, .invokevirtual 30, 5, []), (5, .invokestatic 34, 8, []), (8, .ifCond .eq 12, 11, [20]), (11, .aload_n 0, 12, []), (12, .iload_n 1, 13, []), (13, .invokevirtual 30, 16, []), (16, .l2i, 17, []), (17, .goto 4, 20, [21]), (20, .iconst 1, 21, []), (21, .ireturn, 22, [])]
theorem gX7_face : mGood mX7_face tX7_face := ⟨by decide, ⟨by decide, rfl, Or.inl rfl⟩, Or.inl rfl, by decide +kernel⟩
def tX8_init : mTb := [(0, .aload_n 0, 1, []), (1, .invokespecial 3, 4, []), (4, .aload_n 0, 5, []), (5, .bipush 7, 7, []), (7, .newarray .int, 9, []), (9, .putfield 9, 12, []), (12, .aload_n 0, 13, []), (13, .iconst 4, 14, []), (14, .newarray .int, 16, []), (16, .putfield 15, 19, []), (19, .aload_n 0, 20, []), (20, .aload_n 1, 21, []), (21, .putfield 18, 24, []), (24, .return_, 25, [])]
theorem gX8_init : mGood mX8_init tX8_init := ⟨by decide, ⟨by decide, rfl, Or.inl rfl⟩, Or.inl rfl, by decide +kernel⟩
def tX8_likeliestDie : mTb := [(0, .iconst (-1), 1, []), (1, .istore_n 2, 2, []), (2, .lconst 0, 3, []), (3, .lstore_n 3, 4, []), (4, .lconst 1, 5, []), (5, .lstore 5, 7, []), (7, .iconst 0, 8, []), (8, .istore 7, 10, []), (10, .iload 7, 12, []), (12, .aload_n 0, 13, []), (13, .getfield 18, 16, []), (16, .getfield 22, 19, []), (19, .if_icmp .ge 93, 22, [112]), (22, .lconst 1, 23, []), (23, .lstore 8, 25, []), (25, .iconst 0, 26, []), (26, .istore 10, 28, []), (28, .iload 10, 30, []), (30, .aload_n 1, 31, []), (31, .getfield 28, 34, []), (34, .if_icmp .ge 30, 37, [64]), (37, .lload 8, 39, []), (39, .aload_n 0, 40, []), (40, .getfield 18, 43, []), (43, .iload 7, 45, []), (45, .aload_n 1, 46, []), (46, .iload 10, 48, []), (48, .invokevirtual 33, 51, []), (51, .invokevirtual 37, 54, []), (54, .i2l, 55, []), (55, .lmul, 56, []), (56, .lstore 8, 58, []), (58, .iinc 10 1, 61, []), (61, .goto (-33), 64, [28]), (64, .aload_n 0, 65, []), (65, .getfield 18, 68, []), (68, .iload 7, 70, []), (70, .invokevirtual 41, 73, []), (73, .i2l, 74, []), (74, .aload_n 1, 75, []), (75, .getfield 28, 78, []), (78, .invokestatic 44, 81, []), (81, .lstore 10, 83, []), (83, .lload 8, 85, []), (85, .lload 5, 87, []), (87, .lmul, 88, []), (88, .lload_n 3, 89, []), (89, .lload 10, 91, []), (91, .lmul, 92, []), (92, .lcmp, 93, []), (93, .ifCond .le 13, 96, [106]), (96, .iload 7, 98, []), (98, .istore_n 2, 99, []), (99, .lload 8, 101, []), (101, .lstore_n 3, 102, []), (102, .lload 10, 104, []), (104, .lstore 5, 106, []), (106, .iinc 7 1, 109, []), (109, .goto (-99), 112, [10]), (112, .iload_n 2, 113, []), (113, .ireturn, 114, [])]
theorem gX8_likeliestDie : mGood mX8_likeliestDie tX8_likeliestDie := ⟨by decide, ⟨by decide, rfl, Or.inl rfl⟩, Or.inl rfl, by decide +kernel⟩
def tX8_rowsOfDice : mTb := [(0, .iconst 1, 1, []), (1, .istore_n 2, 2, []), (2, .iconst 0, 3, []), (3, .istore_n 3, 4, []), (4, .iload_n 3, 5, []), (5, .aload_n 1, 6, []), (6, .getfield 28, 9, []), (9, .if_icmp .ge 65, 12, [74]), (12, .iconst 0, 13, []), (13, .istore 4, 15, []), (15, .iconst 0, 16, []), (16, .istore 5, 18, []), (18, .iload 5, 20, []), (20, .aload_n 0, 21, []), (21, .getfield 18, 24, []), (24, .getfield 22, 27, []), (27, .if_icmp .ge 36, 30, [63]), (30, .iload 4, 32, []), (32, .aload_n 0, 33, []), (33, .getfield 18, 36, []), (36, .iload 5, 38, []), (38, .aload_n 1, 39, []), (39, .iload_n 3, 40, []), (40, .invokevirtual 33, 43, []), (43, .invokevirtual 37, 46, []), (46, .ifCond .le 7, 49, [53]), (49, .iconst 1, 50, []), (50, .goto 4, 53, [54]), (53, .iconst 0, 54, []), (54, .iadd, 55, []), (55, .istore 4, 57, []), (57, .iinc 5 1, 60, []), (60, .goto (-42), 63, [18]), (63, .iload_n 2, 64, []), (64, .iload 4, 66, []), (66, .imul, 67, []), (67, .istore_n 2, 68, []), (68, .iinc 3 1, 71, []), (71, .goto (-67), 74, [4]), (74, .iload_n 2, 75, []), (75, .ireturn, 76, [])]
theorem gX8_rowsOfDice : mGood mX8_rowsOfDice tX8_rowsOfDice := ⟨by decide, ⟨by decide, rfl, Or.inl rfl⟩, Or.inl rfl, by decide +kernel⟩
def tX8_rowOfHands : mTb := [(0, .iload_n 3, 1, []), (1, .ifCond .ge 7, 4, [8]), (4, .iconst 0, 5, []), (5, .goto 11, 8, [16]), (8, .iconst 1, 9, []), (9, .iconst 2, 10, []), (10, .aload_n 2, 11, []), (11, .getfield 28, 14, []), (14, .imul, 15, []), (15, .ishl, 16, []), (16, .istore 5, 18, []), (18, .iconst 0, 19, []), (19, .istore 6, 21, []), (21, .iconst 0, 22, []), (22, .istore 7, 24, []), (24, .iload 7, 26, []), (26, .iload 5, 28, []), (28, .if_icmp .ge 34, 31, [62]), (31, .aload_n 0, 32, []), (32, .iload_n 1, 33, []), (33, .aload_n 2, 34, []), (34, .iload 7, 36, []), (36, .invokevirtual 48, 39, []), (39, .iload_n 3, 40, []), (40, .if_icmp .ne 16, 43, [56]), (43, .iload 6, 45, []), (45, .iload 4, 47, []), (47, .if_icmp .ne 6, 50, [53]), (50, .iload 7, 52, []), (52, .ireturn, 53, []), (53, .iinc 6 1, 56, []), (56, .iinc 7 1, 59, []), (59, .goto (-35), 62, [24]), (62, .iload 4, 64, []), (64, .iconst (-1), 65, []), (65, .if_icmp .ne 8, 68, [73]), (68, .iload 6, 70, []), (70, .goto 4, 73, [74]), (73, .iconst (-1), 74, []), (74, .ireturn, 75, [])]
theorem gX8_rowOfHands : mGood mX8_rowOfHands tX8_rowOfHands := ⟨by decide, ⟨by decide, rfl, Or.inl rfl⟩, Or.inl rfl, by decide +kernel⟩
def tX8_totalBehind : mTb := [(0, .aload_n 0, 1, []), (1, .iload_n 1, 2, []), (2, .invokevirtual 52, 5, []), (5, .aload_n 0, 6, []), (6, .getfield 18, 9, []), (9, .iload_n 1, 10, []), (10, .invokevirtual 41, 13, []), (13, .istore 4, 15, []), (15, .iconst 0, 16, []), (16, .istore 5, 18, []), (18, .iload 5, 20, []), (20, .aload_n 2, 21, []), (21, .getfield 28, 24, []), (24, .if_icmp .ge 132, 27, [156]), (27, .iload_n 3, 28, []), (28, .iconst 2, 29, []), (29, .aload_n 2, 30, []), (30, .getfield 28, 33, []), (33, .iconst 1, 34, []), (34, .isub, 35, []), (35, .iload 5, 37, []), (37, .isub, 38, []), (38, .imul, 39, []), (39, .ishr, 40, []), (40, .iconst 3, 41, []), (41, .iand, 42, []), (42, .istore 6, 44, []), (44, .aload_n 2, 45, []), (45, .iload 5, 47, []), (47, .invokevirtual 33, 50, []), (50, .istore 7, 52, []), (52, .aload_n 0, 53, []), (53, .getfield 18, 56, []), (56, .iload 6, 58, []), (58, .invokevirtual 56, 61, []), (61, .ifCond .eq 13, 64, [74]), (64, .aload_n 0, 65, []), (65, .getfield 9, 68, []), (68, .iload 7, 70, []), (70, .iaload, 71, []), (71, .ifCond .ne 5, 74, [76]), (74, .iconst (-1), 75, []), (75, .ireturn, 76, []), (76, .aload_n 0, 77, []), (77, .getfield 18, 80, []), (80, .iload_n 1, 81, []), (81, .invokevirtual 60, 84, []), (84, .ifCond .eq 7, 87, [91]), (87, .iconst 0, 88, []), (88, .goto 20, 91, [108]), (91, .aload_n 0, 92, []), (92, .getfield 9, 95, []), (95, .iload 7, 97, []), (97, .iaload, 98, []), (98, .aload_n 0, 99, []), (99, .getfield 15, 102, []), (102, .iload 6, 104, []), (104, .iaload, 105, []), (105, .invokestatic 63, 108, []), (108, .istore 8, 110, []), (110, .aload_n 0, 111, []), (111, .getfield 9, 114, []), (114, .iload 7, 116, []), (116, .dup2, 117, []), (117, .iaload, 118, []), (118, .iload 8, 120, []), (120, .isub, 121, []), (121, .iastore, 122, []), (122, .iload 4, 124, []), (124, .iload 8, 126, []), (126, .isub, 127, []), (127, .istore 4, 129, []), (129, .aload_n 0, 130, []), (130, .getfield 15, 133, []), (133, .iload 6, 135, []), (135, .aload_n 0, 136, []), (136, .getfield 15, 139, []), (139, .iload 6, 141, []), (141, .iaload, 142, []), (142, .iconst 1, 143, []), (143, .iadd, 144, []), (144, .bipush 9, 146, []), (146, .invokestatic 63, 149, []), (149, .iastore, 150, []), (150, .iinc 5 1, 153, []), (153, .goto (-135), 156, [18]), (156, .iload 4, 158, []), (158, .ireturn, 159, [])]
theorem gX8_totalBehind : mGood mX8_totalBehind tX8_totalBehind := ⟨by decide, ⟨by decide, rfl, Or.inl rfl⟩, Or.inl rfl, by decide +kernel⟩
def tX8_begin : mTb := [(0, .iconst 1, 1, []), (1, .istore_n 2, 2, []), (2, .iload_n 2, 3, []), (3, .bipush 6, 5, []), (5, .if_icmp .gt 24, 8, [29]), (8, .aload_n 0, 9, []), (9, .getfield 9, 12, []), (12, .iload_n 2, 13, []), (13, .aload_n 0, 14, []), (14, .getfield 18, 17, []), (17, .iload_n 1, 18, []), (18, .iload_n 2, 19, []), (19, .invokevirtual 37, 22, []), (22, .iastore, 23, []), (23, .iinc 2 1, 26, []), (26, .goto (-24), 29, [2]), (29, .iconst 0, 30, []), (30, .istore_n 2, 31, []), (31, .iload_n 2, 32, []), (32, .iconst 4, 33, []), (33, .if_icmp .ge 23, 36, [56]), (36, .aload_n 0, 37, []), (37, .getfield 15, 40, []), (40, .iload_n 2, 41, []), (41, .aload_n 0, 42, []), (42, .getfield 18, 45, []), (45, .iload_n 2, 46, []), (46, .invokevirtual 68, 49, []), (49, .iastore, 50, []), (50, .iinc 2 1, 53, []), (53, .goto (-22), 56, [31]), (56, .return_, 57, [])]
theorem gX8_begin : mGood mX8_begin tX8_begin := ⟨by decide, ⟨by decide, rfl, Or.inl rfl⟩, Or.inl rfl, by decide +kernel⟩
def tJ6_bitCount_0f7a4 : mTb := [(0, .iload_n 0, 1, []), (1, .iload_n 0, 2, []), (2, .iconst 1, 3, []), (3, .iushr, 4, []), (4, .ldc_w 265, 7, []), (7, .iand, 8, []), (8, .isub, 9, []), (9, .istore_n 0, 10, []), (10, .iload_n 0, 11, []), (11, .ldc_w 266, 14, []), (14, .iand, 15, []), (15, .iload_n 0, 16, []), (16, .iconst 2, 17, []), (17, .iushr, 18, []), (18, .ldc_w 266, 21, []), (21, .iand, 22, []), (22, .iadd, 23, []), (23, .istore_n 0, 24, []), (24, .iload_n 0, 25, []), (25, .iload_n 0, 26, []), (26, .iconst 4, 27, []), (27, .iushr, 28, []), (28, .iadd, 29, []), (29, .ldc_w 267, 32, []), (32, .iand, 33, []), (33, .istore_n 0, 34, []), (34, .iload_n 0, 35, []), (35, .iload_n 0, 36, []), (36, .bipush 8, 38, []), (38, .iushr, 39, []), (39, .iadd, 40, []), (40, .istore_n 0, 41, []), (41, .iload_n 0, 42, []), (42, .iload_n 0, 43, []), (43, .bipush 16, 45, []), (45, .iushr, 46, []), (46, .iadd, 47, []), (47, .istore_n 0, 48, []), (48, .iload_n 0, 49, []), (49, .bipush 63, 51, []), (51, .iand, 52, []), (52, .ireturn, 53, [])]
theorem gJ6_bitCount_0f7a4 : mGood mJ6_bitCount_0f7a4 tJ6_bitCount_0f7a4 := ⟨by decide, ⟨by decide, rfl, Or.inl rfl⟩, Or.inl rfl, by decide +kernel⟩
end
section
def tX9_init : mTb := [(0, .aload_n 0, 1, []), (1, .invokespecial 3, 4, []), (4, .aload_n 0, 5, []), (5, .new 9, 8, []), (8, .dup, 9, []), (9, .invokespecial 11, 12, []), (12, .putfield 12, 15, []), (15, .aload_n 0, 16, []), (16, .new 16, 19, []), (19, .dup, 20, []), (20, .aload_n 0, 21, []), (21, .getfield 12, 24, []), (24, .invokespecial 18, 27, []), (27, .putfield 21, 30, []), (30, .aload_n 0, 31, []), (31, .new 25, 34, []), (34, .dup, 35, []), (35, .invokespecial 27, 38, []), (38, .putfield 28, 41, []), (41, .aload_n 0, 42, []), (42, .new 32, 45, []), (45, .dup, 46, []), (46, .invokespecial 34, 49, []), (49, .putfield 35, 52, []), (52, .aload_n 0, 53, []), (53, .new 39, 56, []), (56, .dup, 57, []), (57, .aload_n 0, 58, []), (58, .getfield 28, 61, []), (61, .invokespecial 41, 64, []), (64, .putfield 44, 67, []), (67, .aload_n 0, 68, []), (68, .new 48, 71, []), (71, .dup, 72, []), (72, .aload_n 0, 73, []), (73, .getfield 28, 76, []), (76, .invokespecial 50, 79, []), (79, .putfield 51, 82, []), (82, .aload_n 0, 83, []), (83, .new 55, 86, []), (86, .dup, 87, []), (87, .aload_n 0, 88, []), (88, .getfield 28, 91, []), (91, .invokespecial 57, 94, []), (94, .putfield 58, 97, []), (97, .aload_n 0, 98, []), (98, .new 62, 101, []), (101, .dup, 102, []), (102, .aload_n 0, 103, []), (103, .getfield 28, 106, []), (106, .invokespecial 64, 109, []), (109, .putfield 65, 112, []), (112, .aload_n 0, 113, []), (113, .iconst 4, 114, []), (114, .anewarray 69, 117, []), (117, .putfield 71, 120, []), (120, .iconst 0, 121, []), (121, .istore_n 1, 122, []), (122, .iload_n 1, 123, []), (123, .iconst 4, 124, []), (124, .if_icmp .ge 22, 127, [146]), (127, .aload_n 0, 128, []), (128, .getfield 71, 131, []), (131, .iload_n 1, 132, []), (132, .new 69, 135, []), (135, .dup, 136, []), (136, .invokespecial 75, 139, []), (139, .aastore, 140, []), (140, .iinc 1 1, 143, []), (143, .goto (-21), 146, [122]), (146, .aload_n 0, 147, []), (147, .iconst 3, 148, []), (148, .anewarray 25, 151, []), (151, .putfield 76, 154, []), (154, .return_, 155, [])]
theorem gX9_init : mGood mX9_init tX9_init := ⟨by decide, ⟨by decide, rfl, Or.inl rfl⟩, Or.inl rfl, by decide +kernel⟩
def tX9_feed : mTb := [(0, .aload_n 0, 1, []), (1, .getfield 12, 4, []), (4, .invokevirtual 80, 7, []), (7, .ifCond .ne 5, 10, [12]), (10, .iconst (-1), 11, []), (11, .ireturn, 12, []), (12, .aload_n 0, 13, []), (13, .getfield 12, 16, []), (16, .iload_n 1, 17, []), (17, .invokevirtual 84, 20, []), (20, .aload_n 0, 21, []), (21, .getfield 12, 24, []), (24, .iload_n 2, 25, []), (25, .invokevirtual 84, 28, []), (28, .aload_n 0, 29, []), (29, .getfield 12, 32, []), (32, .iload_n 3, 33, []), (33, .invokevirtual 84, 36, []), (36, .aload_n 0, 37, []), (37, .getfield 12, 40, []), (40, .iload 4, 42, []), (42, .invokevirtual 84, 45, []), (45, .aload_n 0, 46, []), (46, .getfield 12, 49, []), (49, .iload 5, 51, []), (51, .invokevirtual 84, 54, []), (54, .aload_n 0, 55, []), (55, .getfield 12, 58, []), (58, .getfield 88, 61, []), (61, .ireturn, 62, [])]
theorem gX9_feed : mGood mX9_feed tX9_feed := ⟨by decide, ⟨by decide, rfl, Or.inl rfl⟩, Or.inl rfl, by decide +kernel⟩
def tX9_table : mTb := [(0, .iload_n 1, 1, []), (1, .ifCond .lt 14, 4, [15]), (4, .iload_n 1, 5, []), (5, .aload_n 0, 6, []), (6, .getfield 12, 9, []), (9, .getfield 88, 12, []), (12, .if_icmp .le 13, 15, [25]), (15, .new 92, 18, []), (18, .dup, 19, []), (19, .ldc 94, 21, []), (21, .invokespecial 96, 24, []), (24, .athrow, 25, []), (25, .aload_n 0, 26, []), (26, .getfield 21, 29, []), (29, .iload_n 1, 30, []), (30, .invokevirtual 99, 33, []), (33, .aload_n 0, 34, []), (34, .getfield 12, 37, []), (37, .iconst 0, 38, []), (38, .putfield 88, 41, []), (41, .aload_n 0, 42, []), (42, .getfield 21, 45, []), (45, .getfield 102, 48, []), (48, .ifCond .eq 14, 51, [62]), (51, .bipush (-10), 53, []), (53, .aload_n 0, 54, []), (54, .getfield 21, 57, []), (57, .getfield 102, 60, []), (60, .isub, 61, []), (61, .ireturn, 62, []), (62, .aload_n 0, 63, []), (63, .getfield 28, 66, []), (66, .aload_n 0, 67, []), (67, .getfield 21, 70, []), (70, .invokevirtual 105, 73, []), (73, .aload_n 0, 74, []), (74, .getfield 28, 77, []), (77, .getfield 109, 80, []), (80, .ireturn, 81, [])]
theorem gX9_table : mGood mX9_table tX9_table := ⟨by decide, ⟨by decide, rfl, Or.inl rfl⟩, Or.inl rfl, by decide +kernel⟩
def tX9_fault : mTb := [(0, .iload_n 1, 1, []), (1, .lookupswitch 43 #[(0, 27), (1, 35)], 28, [44, 28, 36]), (28, .aload_n 0, 29, []), (29, .getfield 21, 32, []), (32, .getfield 102, 35, []), (35, .ireturn, 36, []), (36, .aload_n 0, 37, []), (37, .getfield 21, 40, []), (40, .getfield 112, 43, []), (43, .ireturn, 44, []), (44, .iconst (-1), 45, []), (45, .ireturn, 46, [])]
theorem gX9_fault : mGood mX9_fault tX9_fault := ⟨by decide, ⟨by decide, rfl, Or.inl rfl⟩, Or.inl rfl, by decide +kernel⟩
def tX9_die : mTb := [(0, .aload_n 0, 1, []), (1, .iload_n 1, 2, []), (2, .invokevirtual 115, 5, []), (5, .aload_n 0, 6, []), (6, .iload_n 2, 7, []), (7, .iconst 1, 8, []), (8, .bipush 10, 10, []), (10, .invokevirtual 118, 13, []), (13, .iload_n 2, 14, []), (14, .tableswitch 82 7 10 #[30, 39, 56, 73], 44, [96, 44, 53, 70, 87]), (44, .aload_n 0, 45, []), (45, .getfield 28, 48, []), (48, .iload_n 1, 49, []), (49, .invokevirtual 122, 52, []), (52, .ireturn, 53, []), (53, .aload_n 0, 54, []), (54, .getfield 28, 57, []), (57, .iload_n 1, 58, []), (58, .invokevirtual 126, 61, []), (61, .ifCond .eq 7, 64, [68]), (64, .iconst 1, 65, []), (65, .goto 4, 68, [69]), (68, .iconst 0, 69, []), (69, .ireturn, 70, []), (70, .aload_n 0, 71, []), (71, .getfield 28, 74, []), (74, .iload_n 1, 75, []), (75, .invokevirtual 130, 78, []), (78, .ifCond .eq 7, 81, [85]), (81, .iconst 1, 82, []), (82, .goto 4, 85, [86]), (85, .iconst 0, 86, []), (86, .ireturn, 87, []), (87, .aload_n 0, 88, []), (88, .getfield 65, 91, []), (91, .iload_n 1, 92, []), (92, .invokevirtual 133, 95, []), (95, .ireturn, 96, []), (96, .aload_n 0, 97, []), (97, .getfield 28, 100, []), (100, .iload_n 1, 101, []), (101, .iload_n 2, 102, []), (102, .invokevirtual 136, 105, []), (105, .ireturn, 106, [])]
theorem gX9_die : mGood mX9_die tX9_die := ⟨by decide, ⟨by decide, rfl, Or.inl rfl⟩, Or.inl rfl, by decide +kernel⟩
def tX9_hand : mTb := [(0, .aload_n 0, 1, []), (1, .iload_n 1, 2, []), (2, .invokevirtual 140, 5, []), (5, .aload_n 0, 6, []), (6, .iload_n 2, 7, []), (7, .iconst 0, 8, []), (8, .iconst 2, 9, []), (9, .invokevirtual 118, 12, []), (12, .iload_n 2, 13, []), (13, .lookupswitch 45 #[(0, 27), (1, 36)], 40, [58, 40, 49]), (40, .aload_n 0, 41, []), (41, .getfield 28, 44, []), (44, .iload_n 1, 45, []), (45, .invokevirtual 143, 48, []), (48, .ireturn, 49, []), (49, .aload_n 0, 50, []), (50, .getfield 28, 53, []), (53, .iload_n 1, 54, []), (54, .invokevirtual 146, 57, []), (57, .ireturn, 58, []), (58, .aload_n 0, 59, []), (59, .getfield 65, 62, []), (62, .iload_n 1, 63, []), (63, .invokevirtual 149, 66, []), (66, .ireturn, 67, [])]
theorem gX9_hand : mGood mX9_hand tX9_hand := ⟨by decide, ⟨by decide, rfl, Or.inl rfl⟩, Or.inl rfl, by decide +kernel⟩
def tX9_salts : mTb := [(0, .aload_n 0, 1, []), (1, .iload_n 1, 2, []), (2, .invokevirtual 115, 5, []), (5, .aload_n 0, 6, []), (6, .getfield 28, 9, []), (9, .iload_n 1, 10, []), (10, .invokevirtual 126, 13, []), (13, .ifCond .ne 7, 16, [20]), (16, .iconst 1, 17, []), (17, .goto 4, 20, [21]), (20, .iconst 0, 21, []), (21, .istore_n 2, 22, []), (22, .aload_n 0, 23, []), (23, .getfield 28, 26, []), (26, .iload_n 1, 27, []), (27, .invokevirtual 152, 30, []), (30, .iload_n 2, 31, []), (31, .ireturn, 32, [])]
theorem gX9_salts : mGood mX9_salts tX9_salts := ⟨by decide, ⟨by decide, rfl, Or.inl rfl⟩, Or.inl rfl, by decide +kernel⟩
def tX9_cast : mTb := [(0, .aload_n 0, 1, []), (1, .iload_n 1, 2, []), (2, .invokevirtual 115, 5, []), (5, .aload_n 0, 6, []), (6, .iload_n 2, 7, []), (7, .invokevirtual 140, 10, []), (10, .aload_n 0, 11, []), (11, .iload_n 1, 12, []), (12, .invokevirtual 155, 15, []), (15, .aload_n 0, 16, []), (16, .invokevirtual 158, 19, []), (19, .aload_n 0, 20, []), (20, .getfield 35, 23, []), (23, .iload_n 3, 24, []), (24, .invokevirtual 161, 27, []), (27, .aload_n 0, 28, []), (28, .getfield 28, 31, []), (31, .iload_n 1, 32, []), (32, .aload_n 0, 33, []), (33, .getfield 35, 36, []), (36, .invokevirtual 163, 39, []), (39, .invokevirtual 167, 42, []), (42, .istore 4, 44, []), (44, .aload_n 0, 45, []), (45, .getfield 28, 48, []), (48, .iload_n 1, 49, []), (49, .iload_n 2, 50, []), (50, .iload 4, 52, []), (52, .invokevirtual 170, 55, []), (55, .iload 4, 57, []), (57, .ireturn, 58, [])]
theorem gX9_cast : mGood mX9_cast tX9_cast := ⟨by decide, ⟨by decide, rfl, Or.inl rfl⟩, Or.inl rfl, by decide +kernel⟩
def tX9_shows : mTb := [(0, .aload_n 0, 1, []), (1, .iload_n 1, 2, []), (2, .invokevirtual 115, 5, []), (5, .aload_n 0, 6, []), (6, .iload_n 2, 7, []), (7, .invokevirtual 140, 10, []), (10, .aload_n 0, 11, []), (11, .iload_n 3, 12, []), (12, .invokevirtual 173, 15, []), (15, .aload_n 0, 16, []), (16, .getfield 28, 19, []), (19, .iload_n 1, 20, []), (20, .iload_n 2, 21, []), (21, .iload_n 3, 22, []), (22, .invokevirtual 176, 25, []), (25, .ifCond .eq 13, 28, [38]), (28, .new 180, 31, []), (31, .dup, 32, []), (32, .ldc 182, 34, []), (34, .invokespecial 184, 37, []), (37, .athrow, 38, []), (38, .aload_n 0, 39, []), (39, .getfield 28, 42, []), (42, .iload_n 1, 43, []), (43, .iload_n 2, 44, []), (44, .iload_n 3, 45, []), (45, .invokevirtual 170, 48, []), (48, .aload_n 0, 49, []), (49, .getfield 28, 52, []), (52, .iload_n 1, 53, []), (53, .invokevirtual 122, 56, []), (56, .ireturn, 57, [])]
theorem gX9_shows : mGood mX9_shows tX9_shows := ⟨by decide, ⟨by decide, rfl, Or.inl rfl⟩, Or.inl rfl, by decide +kernel⟩
def tX9_back : mTb := [(0, .iload_n 1, 1, []), (1, .ifCond .lt 14, 4, [15]), (4, .iload_n 1, 5, []), (5, .aload_n 0, 6, []), (6, .getfield 28, 9, []), (9, .getfield 185, 12, []), (12, .if_icmp .le 13, 15, [25]), (15, .new 92, 18, []), (18, .dup, 19, []), (19, .ldc 188, 21, []), (21, .invokespecial 96, 24, []), (24, .athrow, 25, []), (25, .aload_n 0, 26, []), (26, .getfield 28, 29, []), (29, .iload_n 1, 30, []), (30, .invokevirtual 190, 33, []), (33, .aload_n 0, 34, []), (34, .getfield 28, 37, []), (37, .getfield 185, 40, []), (40, .ireturn, 41, [])]
theorem gX9_back : mGood mX9_back tX9_back := ⟨by decide, ⟨by decide, rfl, Or.inl rfl⟩, Or.inl rfl, by decide +kernel⟩
def tX9_past : mTb := [(0, .iload_n 1, 1, []), (1, .ifCond .lt 14, 4, [15]), (4, .iload_n 1, 5, []), (5, .aload_n 0, 6, []), (6, .getfield 28, 9, []), (9, .getfield 185, 12, []), (12, .if_icmp .lt 13, 15, [25]), (15, .new 193, 18, []), (18, .dup, 19, []), (19, .ldc 195, 21, []), (21, .invokespecial 197, 24, []), (24, .athrow, 25, []), (25, .aload_n 0, 26, []), (26, .iload_n 2, 27, []), (27, .iconst 0, 28, []), (28, .iconst 2, 29, []), (29, .invokevirtual 118, 32, []), (32, .iload_n 2, 33, []), (33, .lookupswitch 45 #[(0, 27), (1, 36)], 60, [78, 60, 69]), (60, .aload_n 0, 61, []), (61, .getfield 28, 64, []), (64, .iload_n 1, 65, []), (65, .invokevirtual 198, 68, []), (68, .ireturn, 69, []), (69, .aload_n 0, 70, []), (70, .getfield 28, 73, []), (73, .iload_n 1, 74, []), (74, .invokevirtual 201, 77, []), (77, .ireturn, 78, []), (78, .aload_n 0, 79, []), (79, .getfield 28, 82, []), (82, .iload_n 1, 83, []), (83, .invokevirtual 204, 86, []), (86, .ireturn, 87, [])]
theorem gX9_past : mGood mX9_past tX9_past := ⟨by decide, ⟨by decide, rfl, Or.inl rfl⟩, Or.inl rfl, by decide +kernel⟩
def tX9_evening : mTb := [(0, .iload_n 2, 1, []), (1, .iconst 1, 2, []), (2, .if_icmp .lt 9, 5, [11]), (5, .iload_n 2, 6, []), (6, .bipush 40, 8, []), (8, .if_icmp .le 13, 11, [21]), (11, .new 92, 14, []), (14, .dup, 15, []), (15, .ldc 207, 17, []), (17, .invokespecial 96, 20, []), (20, .athrow, 21, []), (21, .aload_n 0, 22, []), (22, .getfield 28, 25, []), (25, .getfield 209, 28, []), (28, .ifCond .eq 13, 31, [41]), (31, .aload_n 0, 32, []), (32, .getfield 28, 35, []), (35, .getfield 212, 38, []), (38, .ifCond .ne 13, 41, [51]), (41, .new 180, 44, []), (44, .dup, 45, []), (45, .ldc 215, 47, []), (47, .invokespecial 184, 50, []), (50, .athrow, 51, []), (51, .aload_n 0, 52, []), (52, .getfield 28, 55, []), (55, .getfield 185, 58, []), (58, .istore_n 3, 59, []), (59, .aload_n 0, 60, []), (60, .getfield 35, 63, []), (63, .iload_n 1, 64, []), (64, .invokevirtual 161, 67, []), (67, .iconst 0, 68, []), (68, .istore 4, 70, []), (70, .iload 4, 72, []), (72, .iload_n 2, 73, []), (73, .if_icmp .ge 92, 76, [165]), (76, .aload_n 0, 77, []), (77, .getfield 35, 80, []), (80, .invokevirtual 163, 83, []), (83, .aload_n 0, 84, []), (84, .getfield 28, 87, []), (87, .getfield 209, 90, []), (90, .irem, 91, []), (91, .istore 5, 93, []), (93, .aload_n 0, 94, []), (94, .getfield 35, 97, []), (97, .invokevirtual 163, 100, []), (100, .aload_n 0, 101, []), (101, .getfield 28, 104, []), (104, .getfield 212, 107, []), (107, .irem, 108, []), (108, .istore 6, 110, []), (110, .aload_n 0, 111, []), (111, .getfield 28, 114, []), (114, .iload 5, 116, []), (116, .invokevirtual 130, 119, []), (119, .ifCond .ne 40, 122, [159]), (122, .aload_n 0, 123, []), (123, .getfield 28, 126, []), (126, .invokevirtual 217, 129, []), (129, .ifCond .eq 30, 132, [159]), (132, .aload_n 0, 133, []), (133, .getfield 28, 136, []), (136, .iload 5, 138, []), (138, .iload 6, 140, []), (140, .aload_n 0, 141, []), (141, .getfield 28, 144, []), (144, .iload 5, 146, []), (146, .aload_n 0, 147, []), (147, .getfield 35, 150, []), (150, .invokevirtual 163, 153, []), (153, .invokevirtual 167, 156, []), (156, .invokevirtual 170, 159, []), (159, .iinc 4 1, 162, []), (162, .goto (-92), 165, [70]), (165, .aload_n 0, 166, []), (166, .getfield 28, 169, []), (169, .getfield 185, 172, []), (172, .iload_n 3, 173, []), (173, .isub, 174, []), (174, .ireturn, 175, [])]
theorem gX9_evening : mGood mX9_evening tX9_evening := ⟨by decide, ⟨by decide, rfl, Or.inl rfl⟩, Or.inl rfl, by decide +kernel⟩
def tX9_judge : mTb := [(0, .aload_n 0, 1, []), (1, .iload_n 1, 2, []), (2, .invokevirtual 220, 5, []), (5, .astore_n 3, 6, []), (6, .aload_n 0, 7, []), (7, .iload_n 2, 8, []), (8, .iconst 0, 9, []), (9, .iconst 2, 10, []), (10, .invokevirtual 118, 13, []), (13, .aload_n 0, 14, []), (14, .aload_n 3, 15, []), (15, .invokevirtual 224, 18, []), (18, .istore 4, 20, []), (20, .iload 4, 22, []), (22, .aload_n 3, 23, []), (23, .getfield 228, 26, []), (26, .if_icmp .ne 7, 29, [33]), (29, .iconst 1, 30, []), (30, .goto 4, 33, [34]), (33, .iconst 0, 34, []), (34, .istore 5, 36, []), (36, .iload_n 2, 37, []), (37, .lookupswitch 70 #[(0, 27), (1, 43)], 64, [107, 64, 80]), (64, .iload 5, 66, []), (66, .ifCond .eq 7, 69, [73]), (69, .iconst (-1), 70, []), (70, .goto 5, 73, [75]), (73, .iload 4, 75, []), (75, .istore 6, 77, []), (77, .goto 39, 80, [116]), (80, .iload 5, 82, []), (82, .ifCond .eq 7, 85, [89]), (85, .iconst 0, 86, []), (86, .goto 16, 89, [102]), (89, .aload_n 0, 90, []), (90, .getfield 28, 93, []), (93, .aload_n 3, 94, []), (94, .iload 4, 96, []), (96, .invokevirtual 231, 99, []), (99, .invokevirtual 235, 102, []), (102, .istore 6, 104, []), (104, .goto 12, 107, [116]), (107, .aload_n 0, 108, []), (108, .getfield 28, 111, []), (111, .invokevirtual 239, 114, []), (114, .istore 6, 116, []), (116, .aload_n 0, 117, []), (117, .getfield 28, 120, []), (120, .iload 4, 122, []), (122, .invokevirtual 190, 125, []), (125, .iload 6, 127, []), (127, .ireturn, 128, [])]
theorem gX9_judge : mGood mX9_judge tX9_judge := ⟨by decide, ⟨by decide, rfl, Or.inl rfl⟩, Or.inl rfl, by decide +kernel⟩
def tX9_perform : mTb := [(0, .aload_n 0, 1, []), (1, .aload_n 0, 2, []), (2, .iload_n 1, 3, []), (3, .invokevirtual 220, 6, []), (6, .invokevirtual 224, 9, []), (9, .ireturn, 10, [])]
theorem gX9_perform : mGood mX9_perform tX9_perform := ⟨by decide, ⟨by decide, rfl, Or.inl rfl⟩, Or.inl rfl, by decide +kernel⟩
def tX9_ants : mTb := [(0, .aload_n 0, 1, []), (1, .iload_n 1, 2, []), (2, .iconst 1, 3, []), (3, .invokevirtual 242, 6, []), (6, .iconst 0, 7, []), (7, .istore_n 2, 8, []), (8, .iconst 0, 9, []), (9, .istore_n 3, 10, []), (10, .iload_n 3, 11, []), (11, .aload_n 0, 12, []), (12, .getfield 28, 15, []), (15, .getfield 209, 18, []), (18, .if_icmp .ge 21, 21, [39]), (21, .iload_n 2, 22, []), (22, .aload_n 0, 23, []), (23, .getfield 28, 26, []), (26, .iload_n 3, 27, []), (27, .iload_n 1, 28, []), (28, .invokevirtual 246, 31, []), (31, .iadd, 32, []), (32, .istore_n 2, 33, []), (33, .iinc 3 1, 36, []), (36, .goto (-26), 39, [10]), (39, .iload_n 2, 40, []), (40, .ireturn, 41, [])]
theorem gX9_ants : mGood mX9_ants tX9_ants := ⟨by decide, ⟨by decide, rfl, Or.inl rfl⟩, Or.inl rfl, by decide +kernel⟩
def tX9_eaten : mTb := [(0, .aload_n 0, 1, []), (1, .iload_n 1, 2, []), (2, .invokevirtual 115, 5, []), (5, .aload_n 0, 6, []), (6, .iload_n 2, 7, []), (7, .invokevirtual 173, 10, []), (10, .aload_n 0, 11, []), (11, .iload_n 3, 12, []), (12, .iconst 0, 13, []), (13, .invokevirtual 242, 16, []), (16, .aload_n 0, 17, []), (17, .getfield 28, 20, []), (20, .iload_n 1, 21, []), (21, .iload_n 2, 22, []), (22, .iload_n 3, 23, []), (23, .invokevirtual 249, 26, []), (26, .ireturn, 27, [])]
theorem gX9_eaten : mGood mX9_eaten tX9_eaten := ⟨by decide, ⟨by decide, rfl, Or.inl rfl⟩, Or.inl rfl, by decide +kernel⟩
def tX9_lasts : mTb := [(0, .aload_n 0, 1, []), (1, .iload_n 1, 2, []), (2, .invokevirtual 115, 5, []), (5, .aload_n 0, 6, []), (6, .getfield 28, 9, []), (9, .iload_n 1, 10, []), (10, .invokevirtual 126, 13, []), (13, .ifCond .eq 18, 16, [31]), (16, .aload_n 0, 17, []), (17, .getfield 28, 20, []), (20, .iload_n 1, 21, []), (21, .invokevirtual 130, 24, []), (24, .ifCond .ne 7, 27, [31]), (27, .iconst (-1), 28, []), (28, .goto 11, 31, [39]), (31, .aload_n 0, 32, []), (32, .getfield 28, 35, []), (35, .iload_n 1, 36, []), (36, .invokevirtual 122, 39, []), (39, .ireturn, 40, [])]
theorem gX9_lasts : mGood mX9_lasts tX9_lasts := ⟨by decide, ⟨by decide, rfl, Or.inl rfl⟩, Or.inl rfl, by decide +kernel⟩
def tX9_lastFace : mTb := [(0, .aload_n 0, 1, []), (1, .iload_n 1, 2, []), (2, .invokevirtual 115, 5, []), (5, .aload_n 0, 6, []), (6, .getfield 28, 9, []), (9, .iload_n 1, 10, []), (10, .invokevirtual 126, 13, []), (13, .ifCond .eq 7, 16, [20]), (16, .iconst (-1), 17, []), (17, .goto 11, 20, [28]), (20, .aload_n 0, 21, []), (21, .getfield 28, 24, []), (24, .iload_n 1, 25, []), (25, .invokevirtual 252, 28, []), (28, .ireturn, 29, [])]
theorem gX9_lastFace : mGood mX9_lastFace tX9_lastFace := ⟨by decide, ⟨by decide, rfl, Or.inl rfl⟩, Or.inl rfl, by decide +kernel⟩
def tX9_rain : mTb := [(0, .iload_n 1, 1, []), (1, .iconst 1, 2, []), (2, .if_icmp .lt 9, 5, [11]), (5, .iload_n 1, 6, []), (6, .bipush 20, 8, []), (8, .if_icmp .le 13, 11, [21]), (11, .new 92, 14, []), (14, .dup, 15, []), (15, .ldc 255, 17, []), (17, .invokespecial 96, 20, []), (20, .athrow, 21, []), (21, .iconst 0, 22, []), (22, .istore_n 2, 23, []), (23, .iconst 0, 24, []), (24, .istore_n 3, 25, []), (25, .iload_n 3, 26, []), (26, .aload_n 0, 27, []), (27, .getfield 28, 30, []), (30, .getfield 209, 33, []), (33, .if_icmp .ge 39, 36, [72]), (36, .iconst 1, 37, []), (37, .istore 4, 39, []), (39, .iload 4, 41, []), (41, .bipush 6, 43, []), (43, .if_icmp .gt 23, 46, [66]), (46, .iload_n 2, 47, []), (47, .aload_n 0, 48, []), (48, .getfield 28, 51, []), (51, .iload_n 3, 52, []), (52, .iload 4, 54, []), (54, .iload_n 1, 55, []), (55, .invokevirtual 257, 58, []), (58, .iadd, 59, []), (59, .istore_n 2, 60, []), (60, .iinc 4 1, 63, []), (63, .goto (-24), 66, [39]), (66, .iinc 3 1, 69, []), (69, .goto (-44), 72, [25]), (72, .iload_n 2, 73, []), (73, .ireturn, 74, [])]
theorem gX9_rain : mGood mX9_rain tX9_rain := ⟨by decide, ⟨by decide, rfl, Or.inl rfl⟩, Or.inl rfl, by decide +kernel⟩
def tX9_fan : mTb := [(0, .aload_n 0, 1, []), (1, .iload_n 1, 2, []), (2, .invokevirtual 140, 5, []), (5, .aload_n 0, 6, []), (6, .getfield 28, 9, []), (9, .iload_n 1, 10, []), (10, .invokevirtual 143, 13, []), (13, .istore_n 2, 14, []), (14, .aload_n 0, 15, []), (15, .getfield 28, 18, []), (18, .iload_n 1, 19, []), (19, .invokevirtual 260, 22, []), (22, .iload_n 2, 23, []), (23, .ireturn, 24, [])]
theorem gX9_fan : mGood mX9_fan tX9_fan := ⟨by decide, ⟨by decide, rfl, Or.inl rfl⟩, Or.inl rfl, by decide +kernel⟩
def tX9_lot : mTb := [(0, .aload_n 0, 1, []), (1, .getfield 35, 4, []), (4, .iload_n 1, 5, []), (5, .invokevirtual 161, 8, []), (8, .aload_n 0, 9, []), (9, .getfield 28, 12, []), (12, .aload_n 0, 13, []), (13, .getfield 35, 16, []), (16, .invokevirtual 263, 19, []), (19, .ireturn, 20, [])]
theorem gX9_lot : mGood mX9_lot tX9_lot := ⟨by decide, ⟨by decide, rfl, Or.inl rfl⟩, Or.inl rfl, by decide +kernel⟩
def tX9_whole : mTb := [(0, .aload_n 0, 1, []), (1, .iload_n 1, 2, []), (2, .invokevirtual 267, 5, []), (5, .aload_n 0, 6, []), (6, .getfield 44, 9, []), (9, .iload_n 1, 10, []), (10, .invokevirtual 270, 13, []), (13, .lreturn, 14, [])]
theorem gX9_whole : mGood mX9_whole tX9_whole := ⟨by decide, ⟨by decide, rfl, Or.inl rfl⟩, Or.inl rfl, by decide +kernel⟩
def tX9_sum : mTb := [(0, .aload_n 0, 1, []), (1, .iload_n 1, 2, []), (2, .invokevirtual 267, 5, []), (5, .aload_n 0, 6, []), (6, .getfield 44, 9, []), (9, .iload_n 1, 10, []), (10, .iload_n 2, 11, []), (11, .invokevirtual 273, 14, []), (14, .lreturn, 15, [])]
theorem gX9_sum : mGood mX9_sum tX9_sum := ⟨by decide, ⟨by decide, rfl, Or.inl rfl⟩, Or.inl rfl, by decide +kernel⟩
def tX9_least : mTb := [(0, .aload_n 0, 1, []), (1, .iload_n 1, 2, []), (2, .invokevirtual 267, 5, []), (5, .aload_n 0, 6, []), (6, .getfield 44, 9, []), (9, .iload_n 1, 10, []), (10, .iload_n 2, 11, []), (11, .invokevirtual 277, 14, []), (14, .lreturn, 15, [])]
theorem gX9_least : mGood mX9_least tX9_least := ⟨by decide, ⟨by decide, rfl, Or.inl rfl⟩, Or.inl rfl, by decide +kernel⟩
def tX9_alike : mTb := [(0, .aload_n 0, 1, []), (1, .iload_n 1, 2, []), (2, .invokevirtual 267, 5, []), (5, .aload_n 0, 6, []), (6, .getfield 44, 9, []), (9, .iload_n 1, 10, []), (10, .invokevirtual 280, 13, []), (13, .lreturn, 14, [])]
theorem gX9_alike : mGood mX9_alike tX9_alike := ⟨by decide, ⟨by decide, rfl, Or.inl rfl⟩, Or.inl rfl, by decide +kernel⟩
def tX9_mode : mTb := [(0, .aload_n 0, 1, []), (1, .iload_n 1, 2, []), (2, .invokevirtual 267, 5, []), (5, .aload_n 0, 6, []), (6, .getfield 44, 9, []), (9, .iload_n 1, 10, []), (10, .invokevirtual 283, 13, []), (13, .ireturn, 14, [])]
theorem gX9_mode : mGood mX9_mode tX9_mode := ⟨by decide, ⟨by decide, rfl, Or.inl rfl⟩, Or.inl rfl, by decide +kernel⟩
def tX9_sums : mTb := [(0, .aload_n 0, 1, []), (1, .iload_n 1, 2, []), (2, .invokevirtual 267, 5, []), (5, .aload_n 0, 6, []), (6, .getfield 44, 9, []), (9, .iload_n 1, 10, []), (10, .invokevirtual 286, 13, []), (13, .ireturn, 14, [])]
theorem gX9_sums : mGood mX9_sums tX9_sums := ⟨by decide, ⟨by decide, rfl, Or.inl rfl⟩, Or.inl rfl, by decide +kernel⟩
def tX9_mean : mTb := [(0, .aload_n 0, 1, []), (1, .iload_n 1, 2, []), (2, .invokevirtual 289, 5, []), (5, .aload_n 0, 6, []), (6, .iload_n 2, 7, []), (7, .iconst 0, 8, []), (8, .iconst 1, 9, []), (9, .invokevirtual 118, 12, []), (12, .aload_n 0, 13, []), (13, .iload_n 1, 14, []), (14, .invokevirtual 292, 17, []), (17, .aload_n 0, 18, []), (18, .getfield 44, 21, []), (21, .iload_n 1, 22, []), (22, .invokevirtual 270, 25, []), (25, .lstore_n 3, 26, []), (26, .lload_n 3, 27, []), (27, .lconst 0, 28, []), (28, .lcmp, 29, []), (29, .ifCond .gt 7, 32, [36]), (32, .ldc2_w 295, 35, []), (35, .lreturn, 36, []), (36, .aload_n 0, 37, []), (37, .getfield 44, 40, []), (40, .iload_n 1, 41, []), (41, .invokevirtual 297, 44, []), (44, .lstore 5, 46, []), (46, .iload_n 2, 47, []), (47, .ifCond .ne 10, 50, [57]), (50, .lload 5, 52, []), (52, .lload_n 3, 53, []), (53, .ldiv, 54, []), (54, .goto 7, 57, [61]), (57, .lload 5, 59, []), (59, .lload_n 3, 60, []), (60, .lrem, 61, []), (61, .lreturn, 62, [])]
theorem gX9_mean : mGood mX9_mean tX9_mean := ⟨by decide, ⟨by decide, rfl, Or.inl rfl⟩, Or.inl rfl, by decide +kernel⟩
def tX9_bestSet : mTb := [(0, .aload_n 0, 1, []), (1, .iload_n 1, 2, []), (2, .invokevirtual 300, 5, []), (5, .aload_n 0, 6, []), (6, .getfield 44, 9, []), (9, .iload_n 1, 10, []), (10, .iload_n 2, 11, []), (11, .invokevirtual 303, 14, []), (14, .ireturn, 15, [])]
theorem gX9_bestSet : mGood mX9_bestSet tX9_bestSet := ⟨by decide, ⟨by decide, rfl, Or.inl rfl⟩, Or.inl rfl, by decide +kernel⟩
def tX9_unlike : mTb := [(0, .aload_n 0, 1, []), (1, .iload_n 1, 2, []), (2, .invokevirtual 267, 5, []), (5, .aload_n 0, 6, []), (6, .getfield 44, 9, []), (9, .iload_n 1, 10, []), (10, .iconst 0, 11, []), (11, .invokevirtual 306, 14, []), (14, .lreturn, 15, [])]
theorem gX9_unlike : mGood mX9_unlike tX9_unlike := ⟨by decide, ⟨by decide, rfl, Or.inl rfl⟩, Or.inl rfl, by decide +kernel⟩
def tX9_run : mTb := [(0, .aload_n 0, 1, []), (1, .iload_n 1, 2, []), (2, .invokevirtual 267, 5, []), (5, .aload_n 0, 6, []), (6, .getfield 44, 9, []), (9, .iload_n 1, 10, []), (10, .iconst 1, 11, []), (11, .invokevirtual 306, 14, []), (14, .lreturn, 15, [])]
theorem gX9_run : mGood mX9_run tX9_run := ⟨by decide, ⟨by decide, rfl, Or.inl rfl⟩, Or.inl rfl, by decide +kernel⟩
def tX9_cannot : mTb := [(0, .aload_n 0, 1, []), (1, .iload_n 1, 2, []), (2, .invokevirtual 173, 5, []), (5, .iconst 0, 6, []), (6, .istore_n 2, 7, []), (7, .iconst 0, 8, []), (8, .istore_n 3, 9, []), (9, .iload_n 3, 10, []), (10, .aload_n 0, 11, []), (11, .getfield 28, 14, []), (14, .getfield 209, 17, []), (17, .if_icmp .ge 27, 20, [44]), (20, .aload_n 0, 21, []), (21, .getfield 28, 24, []), (24, .iload_n 3, 25, []), (25, .iload_n 1, 26, []), (26, .invokevirtual 136, 29, []), (29, .ifCond .ne 9, 32, [38]), (32, .iload_n 2, 33, []), (33, .iconst 1, 34, []), (34, .iload_n 3, 35, []), (35, .ishl, 36, []), (36, .ior, 37, []), (37, .istore_n 2, 38, []), (38, .iinc 3 1, 41, []), (41, .goto (-32), 44, [9]), (44, .iload_n 2, 45, []), (45, .ireturn, 46, [])]
theorem gX9_cannot : mGood mX9_cannot tX9_cannot := ⟨by decide, ⟨by decide, rfl, Or.inl rfl⟩, Or.inl rfl, by decide +kernel⟩
def tX9_once : mTb := [(0, .aload_n 0, 1, []), (1, .iload_n 1, 2, []), (2, .invokevirtual 115, 5, []), (5, .aload_n 0, 6, []), (6, .iload_n 2, 7, []), (7, .invokevirtual 173, 10, []), (10, .aload_n 0, 11, []), (11, .iload_n 3, 12, []), (12, .iconst 1, 13, []), (13, .invokevirtual 310, 16, []), (16, .aload_n 0, 17, []), (17, .iload_n 1, 18, []), (18, .invokevirtual 155, 21, []), (21, .aload_n 0, 22, []), (22, .getfield 28, 25, []), (25, .iload_n 1, 26, []), (26, .invokevirtual 122, 29, []), (29, .istore 4, 31, []), (31, .iload 4, 33, []), (33, .i2l, 34, []), (34, .iload_n 3, 35, []), (35, .invokestatic 313, 38, []), (38, .iload 4, 40, []), (40, .aload_n 0, 41, []), (41, .getfield 28, 44, []), (44, .iload_n 1, 45, []), (45, .iload_n 2, 46, []), (46, .invokevirtual 136, 49, []), (49, .isub, 50, []), (50, .i2l, 51, []), (51, .iload_n 3, 52, []), (52, .invokestatic 313, 55, []), (55, .lsub, 56, []), (56, .lreturn, 57, [])]
theorem gX9_once : mGood mX9_once tX9_once := ⟨by decide, ⟨by decide, rfl, Or.inl rfl⟩, Or.inl rfl, by decide +kernel⟩
def tX9_allFaces : mTb := [(0, .aload_n 0, 1, []), (1, .iload_n 1, 2, []), (2, .invokevirtual 115, 5, []), (5, .aload_n 0, 6, []), (6, .iload_n 2, 7, []), (7, .iconst 1, 8, []), (8, .invokevirtual 310, 11, []), (11, .aload_n 0, 12, []), (12, .iload_n 1, 13, []), (13, .invokevirtual 155, 16, []), (16, .aload_n 0, 17, []), (17, .getfield 44, 20, []), (20, .iload_n 1, 21, []), (21, .iload_n 2, 22, []), (22, .invokevirtual 317, 25, []), (25, .lreturn, 26, [])]
theorem gX9_allFaces : mGood mX9_allFaces tX9_allFaces := ⟨by decide, ⟨by decide, rfl, Or.inl rfl⟩, Or.inl rfl, by decide +kernel⟩
def tX9_coins : mTb := [(0, .aload_n 0, 1, []), (1, .iload_n 1, 2, []), (2, .invokevirtual 115, 5, []), (5, .iload_n 2, 6, []), (6, .iconst 1, 7, []), (7, .if_icmp .lt 20, 10, [27]), (10, .iload_n 2, 11, []), (11, .bipush 9, 13, []), (13, .if_icmp .gt 14, 16, [27]), (16, .iload_n 3, 17, []), (17, .iload_n 2, 18, []), (18, .if_icmp .le 9, 21, [27]), (21, .iload_n 3, 22, []), (22, .bipush 10, 24, []), (24, .if_icmp .le 14, 27, [38]), (27, .new 92, 30, []), (30, .dup, 31, []), (31, .ldc_w 320, 34, []), (34, .invokespecial 96, 37, []), (37, .athrow, 38, []), (38, .aload_n 0, 39, []), (39, .iload 4, 41, []), (41, .iconst 0, 42, []), (42, .invokevirtual 310, 45, []), (45, .aload_n 0, 46, []), (46, .iload_n 1, 47, []), (47, .invokevirtual 155, 50, []), (50, .aload_n 0, 51, []), (51, .getfield 28, 54, []), (54, .iload_n 1, 55, []), (55, .iconst 4, 56, []), (56, .invokevirtual 136, 59, []), (59, .aload_n 0, 60, []), (60, .getfield 28, 63, []), (63, .iload_n 1, 64, []), (64, .iconst 5, 65, []), (65, .invokevirtual 136, 68, []), (68, .iadd, 69, []), (69, .aload_n 0, 70, []), (70, .getfield 28, 73, []), (73, .iload_n 1, 74, []), (74, .bipush 6, 76, []), (76, .invokevirtual 136, 79, []), (79, .iadd, 80, []), (80, .istore 5, 82, []), (82, .iload 5, 84, []), (84, .aload_n 0, 85, []), (85, .getfield 28, 88, []), (88, .iload_n 1, 89, []), (89, .invokevirtual 122, 92, []), (92, .iload_n 2, 93, []), (93, .iload_n 3, 94, []), (94, .iload 4, 96, []), (96, .invokestatic 322, 99, []), (99, .lreturn, 100, [])]
theorem gX9_coins : mGood mX9_coins tX9_coins := ⟨by decide, ⟨by decide, rfl, Or.inl rfl⟩, Or.inl rfl, by decide +kernel⟩
def tX9_beats : mTb := [(0, .aload_n 0, 1, []), (1, .iload_n 1, 2, []), (2, .iload_n 2, 3, []), (3, .invokevirtual 326, 6, []), (6, .aload_n 0, 7, []), (7, .getfield 51, 10, []), (10, .iload_n 1, 11, []), (11, .iload_n 2, 12, []), (12, .invokevirtual 329, 15, []), (15, .ireturn, 16, [])]
theorem gX9_beats : mGood mX9_beats tX9_beats := ⟨by decide, ⟨by decide, rfl, Or.inl rfl⟩, Or.inl rfl, by decide +kernel⟩
def tX9_ties : mTb := [(0, .aload_n 0, 1, []), (1, .iload_n 1, 2, []), (2, .iload_n 2, 3, []), (3, .invokevirtual 326, 6, []), (6, .aload_n 0, 7, []), (7, .getfield 51, 10, []), (10, .iload_n 1, 11, []), (11, .iload_n 2, 12, []), (12, .invokevirtual 332, 15, []), (15, .ireturn, 16, [])]
theorem gX9_ties : mGood mX9_ties tX9_ties := ⟨by decide, ⟨by decide, rfl, Or.inl rfl⟩, Or.inl rfl, by decide +kernel⟩
def tX9_strongest : mTb := [(0, .aload_n 0, 1, []), (1, .getfield 51, 4, []), (4, .invokevirtual 335, 7, []), (7, .ireturn, 8, [])]
theorem gX9_strongest : mGood mX9_strongest tX9_strongest := ⟨by decide, ⟨by decide, rfl, Or.inl rfl⟩, Or.inl rfl, by decide +kernel⟩
def tX9_ring : mTb := [(0, .aload_n 0, 1, []), (1, .getfield 51, 4, []), (4, .iload_n 1, 5, []), (5, .invokevirtual 338, 8, []), (8, .ireturn, 9, [])]
theorem gX9_ring : mGood mX9_ring tX9_ring := ⟨by decide, ⟨by decide, rfl, Or.inl rfl⟩, Or.inl rfl, by decide +kernel⟩
def tX9_series : mTb := [(0, .aload_n 0, 1, []), (1, .iload_n 1, 2, []), (2, .iload_n 2, 3, []), (3, .invokevirtual 326, 6, []), (6, .aload_n 0, 7, []), (7, .iload_n 3, 8, []), (8, .invokevirtual 300, 11, []), (11, .aload_n 0, 12, []), (12, .getfield 51, 15, []), (15, .iload_n 1, 16, []), (16, .iload_n 2, 17, []), (17, .invokevirtual 329, 20, []), (20, .i2l, 21, []), (21, .aload_n 0, 22, []), (22, .getfield 51, 25, []), (25, .iload_n 1, 26, []), (26, .iload_n 2, 27, []), (27, .invokevirtual 332, 30, []), (30, .i2l, 31, []), (31, .aload_n 0, 32, []), (32, .getfield 51, 35, []), (35, .iload_n 2, 36, []), (36, .iload_n 1, 37, []), (37, .invokevirtual 329, 40, []), (40, .i2l, 41, []), (41, .iconst 0, 42, []), (42, .iload_n 3, 43, []), (43, .invokestatic 341, 46, []), (46, .lreturn, 47, [])]
theorem gX9_series : mGood mX9_series tX9_series := ⟨by decide, ⟨by decide, rfl, Or.inl rfl⟩, Or.inl rfl, by decide +kernel⟩
def tX9_more : mTb := [(0, .aload_n 0, 1, []), (1, .iload_n 1, 2, []), (2, .iload_n 2, 3, []), (3, .invokevirtual 326, 6, []), (6, .aload_n 0, 7, []), (7, .iload_n 3, 8, []), (8, .invokevirtual 300, 11, []), (11, .aload_n 0, 12, []), (12, .getfield 44, 15, []), (15, .iload_n 1, 16, []), (16, .iload_n 2, 17, []), (17, .iload_n 3, 18, []), (18, .invokevirtual 345, 21, []), (21, .lreturn, 22, [])]
theorem gX9_more : mGood mX9_more tX9_more := ⟨by decide, ⟨by decide, rfl, Or.inl rfl⟩, Or.inl rfl, by decide +kernel⟩
def tX9_evenest : mTb := [(0, .aload_n 0, 1, []), (1, .getfield 51, 4, []), (4, .invokevirtual 349, 7, []), (7, .ireturn, 8, [])]
theorem gX9_evenest : mGood mX9_evenest tX9_evenest := ⟨by decide, ⟨by decide, rfl, Or.inl rfl⟩, Or.inl rfl, by decide +kernel⟩
def tX9_stopping : mTb := [(0, .aload_n 0, 1, []), (1, .iload_n 1, 2, []), (2, .invokevirtual 115, 5, []), (5, .aload_n 0, 6, []), (6, .iload_n 1, 7, []), (7, .invokevirtual 155, 10, []), (10, .iload_n 2, 11, []), (11, .iconst 1, 12, []), (12, .if_icmp .lt 8, 15, [20]), (15, .iload_n 2, 16, []), (16, .iconst 5, 17, []), (17, .if_icmp .le 14, 20, [31]), (20, .new 92, 23, []), (23, .dup, 24, []), (24, .ldc_w 352, 27, []), (27, .invokespecial 96, 30, []), (30, .athrow, 31, []), (31, .aload_n 0, 32, []), (32, .iload_n 3, 33, []), (33, .iconst 0, 34, []), (34, .iconst 2, 35, []), (35, .invokevirtual 118, 38, []), (38, .iload_n 3, 39, []), (39, .iconst 2, 40, []), (40, .if_icmp .ne 14, 43, [54]), (43, .aload_n 0, 44, []), (44, .getfield 44, 47, []), (47, .iload_n 1, 48, []), (48, .iload_n 2, 49, []), (49, .invokevirtual 354, 52, []), (52, .i2l, 53, []), (53, .lreturn, 54, []), (54, .aload_n 0, 55, []), (55, .getfield 28, 58, []), (58, .iload_n 1, 59, []), (59, .invokevirtual 122, 62, []), (62, .i2l, 63, []), (63, .iload_n 2, 64, []), (64, .invokestatic 313, 67, []), (67, .lstore 4, 69, []), (69, .lload 4, 71, []), (71, .lconst 0, 72, []), (72, .lcmp, 73, []), (73, .ifCond .gt 7, 76, [80]), (76, .ldc2_w 295, 79, []), (79, .lreturn, 80, []), (80, .aload_n 0, 81, []), (81, .getfield 44, 84, []), (84, .iload_n 1, 85, []), (85, .iload_n 2, 86, []), (86, .invokevirtual 357, 89, []), (89, .lstore 6, 91, []), (91, .iload_n 3, 92, []), (92, .ifCond .ne 11, 95, [103]), (95, .lload 6, 97, []), (97, .lload 4, 99, []), (99, .ldiv, 100, []), (100, .goto 8, 103, [108]), (103, .lload 6, 105, []), (105, .lload 4, 107, []), (107, .lrem, 108, []), (108, .lreturn, 109, [])]
theorem gX9_stopping : mGood mX9_stopping tX9_stopping := ⟨by decide, ⟨by decide, rfl, Or.inl rfl⟩, Or.inl rfl, by decide +kernel⟩
def tX9_likelier : mTb := [(0, .aload_n 0, 1, []), (1, .iload_n 1, 2, []), (2, .invokevirtual 220, 5, []), (5, .astore_n 2, 6, []), (6, .aload_n 0, 7, []), (7, .aload_n 2, 8, []), (8, .invokevirtual 360, 11, []), (11, .aload_n 0, 12, []), (12, .getfield 58, 15, []), (15, .aload_n 2, 16, []), (16, .invokevirtual 364, 19, []), (19, .ireturn, 20, [])]
theorem gX9_likelier : mGood mX9_likelier tX9_likelier := ⟨by decide, ⟨by decide, rfl, Or.inl rfl⟩, Or.inl rfl, by decide +kernel⟩
def tX9_fits : mTb := [(0, .aload_n 0, 1, []), (1, .iload_n 1, 2, []), (2, .invokevirtual 220, 5, []), (5, .astore_n 2, 6, []), (6, .aload_n 0, 7, []), (7, .aload_n 2, 8, []), (8, .invokevirtual 360, 11, []), (11, .aload_n 0, 12, []), (12, .getfield 58, 15, []), (15, .aload_n 2, 16, []), (16, .invokevirtual 367, 19, []), (19, .ireturn, 20, [])]
theorem gX9_fits : mGood mX9_fits tX9_fits := ⟨by decide, ⟨by decide, rfl, Or.inl rfl⟩, Or.inl rfl, by decide +kernel⟩
def tX9_worn : mTb := [(0, .aload_n 0, 1, []), (1, .iload_n 1, 2, []), (2, .invokevirtual 115, 5, []), (5, .aload_n 0, 6, []), (6, .iload_n 2, 7, []), (7, .invokevirtual 220, 10, []), (10, .astore 5, 12, []), (12, .aload_n 0, 13, []), (13, .aload 5, 15, []), (15, .invokevirtual 360, 18, []), (18, .aload_n 0, 19, []), (19, .getfield 58, 22, []), (22, .iload_n 1, 23, []), (23, .aload 5, 25, []), (25, .iload_n 3, 26, []), (26, .iload 4, 28, []), (28, .invokevirtual 370, 31, []), (31, .ireturn, 32, [])]
theorem gX9_worn : mGood mX9_worn tX9_worn := ⟨by decide, ⟨by decide, rfl, Or.inl rfl⟩, Or.inl rfl, by decide +kernel⟩
def tX9_tally : mTb := [(0, .aload_n 0, 1, []), (1, .iload_n 1, 2, []), (2, .invokevirtual 115, 5, []), (5, .aload_n 0, 6, []), (6, .iload_n 2, 7, []), (7, .invokevirtual 173, 10, []), (10, .aload_n 0, 11, []), (11, .getfield 65, 14, []), (14, .iload_n 1, 15, []), (15, .iload_n 2, 16, []), (16, .invokevirtual 374, 19, []), (19, .ireturn, 20, [])]
theorem gX9_tally : mGood mX9_tally tX9_tally := ⟨by decide, ⟨by decide, rfl, Or.inl rfl⟩, Or.inl rfl, by decide +kernel⟩
def tX9_streak : mTb := [(0, .aload_n 0, 1, []), (1, .iload_n 1, 2, []), (2, .invokevirtual 173, 5, []), (5, .aload_n 0, 6, []), (6, .getfield 65, 9, []), (9, .iload_n 1, 10, []), (10, .invokevirtual 377, 13, []), (13, .ireturn, 14, [])]
theorem gX9_streak : mGood mX9_streak tX9_streak := ⟨by decide, ⟨by decide, rfl, Or.inl rfl⟩, Or.inl rfl, by decide +kernel⟩
def tX9_off : mTb := [(0, .aload_n 0, 1, []), (1, .iload_n 1, 2, []), (2, .invokevirtual 115, 5, []), (5, .aload_n 0, 6, []), (6, .getfield 65, 9, []), (9, .iload_n 1, 10, []), (10, .invokevirtual 380, 13, []), (13, .ireturn, 14, [])]
theorem gX9_off : mGood mX9_off tX9_off := ⟨by decide, ⟨by decide, rfl, Or.inl rfl⟩, Or.inl rfl, by decide +kernel⟩
def tX9_loaded : mTb := [(0, .aload_n 0, 1, []), (1, .getfield 65, 4, []), (4, .invokevirtual 383, 7, []), (7, .ireturn, 8, [])]
theorem gX9_loaded : mGood mX9_loaded tX9_loaded := ⟨by decide, ⟨by decide, rfl, Or.inl rfl⟩, Or.inl rfl, by decide +kernel⟩
def tX9_tray : mTb := [(0, .aload_n 0, 1, []), (1, .iload_n 1, 2, []), (2, .invokevirtual 386, 5, []), (5, .astore 4, 7, []), (7, .iload_n 2, 8, []), (8, .ifCond .lt 18, 11, [26]), (11, .iload_n 2, 12, []), (12, .iconst 3, 13, []), (13, .if_icmp .gt 13, 16, [26]), (16, .iload_n 3, 17, []), (17, .ifCond .lt 9, 20, [26]), (20, .iload_n 3, 21, []), (21, .bipush 30, 23, []), (23, .if_icmp .le 14, 26, [37]), (26, .new 92, 29, []), (29, .dup, 30, []), (30, .ldc_w 389, 33, []), (33, .invokespecial 96, 36, []), (36, .athrow, 37, []), (37, .aload 4, 39, []), (39, .iload_n 2, 40, []), (40, .iload_n 3, 41, []), (41, .invokevirtual 391, 44, []), (44, .return_, 45, [])]
theorem gX9_tray : mGood mX9_tray tX9_tray := ⟨by decide, ⟨by decide, rfl, Or.inl rfl⟩, Or.inl rfl, by decide +kernel⟩
def tX9_write : mTb := [(0, .aload_n 0, 1, []), (1, .iload_n 1, 2, []), (2, .invokevirtual 220, 5, []), (5, .astore 5, 7, []), (7, .iload_n 2, 8, []), (8, .ifCond .lt 12, 11, [20]), (11, .iload_n 2, 12, []), (12, .aload 5, 14, []), (14, .getfield 228, 17, []), (17, .if_icmp .lt 14, 20, [31]), (20, .new 394, 23, []), (23, .dup, 24, []), (24, .ldc_w 396, 27, []), (27, .invokespecial 398, 30, []), (30, .athrow, 31, []), (31, .aload 5, 33, []), (33, .iload_n 2, 34, []), (34, .lload_n 3, 35, []), (35, .invokevirtual 399, 38, []), (38, .aload 5, 40, []), (40, .iload_n 2, 41, []), (41, .invokevirtual 231, 44, []), (44, .lreturn, 45, [])]
theorem gX9_write : mGood mX9_write tX9_write := ⟨by decide, ⟨by decide, rfl, Or.inl rfl⟩, Or.inl rfl, by decide +kernel⟩
def tX9_pour : mTb := [(0, .aload_n 0, 1, []), (1, .iload_n 1, 2, []), (2, .invokevirtual 220, 5, []), (5, .astore_n 2, 6, []), (6, .aload_n 2, 7, []), (7, .getfield 228, 10, []), (10, .aload_n 0, 11, []), (11, .getfield 28, 14, []), (14, .getfield 185, 17, []), (17, .invokestatic 402, 20, []), (20, .istore_n 3, 21, []), (21, .iconst 0, 22, []), (22, .istore 4, 24, []), (24, .iload 4, 26, []), (26, .iload_n 3, 27, []), (27, .if_icmp .ge 25, 30, [52]), (30, .aload_n 2, 31, []), (31, .iload 4, 33, []), (33, .aload_n 0, 34, []), (34, .getfield 28, 37, []), (37, .iload 4, 39, []), (39, .invokevirtual 204, 42, []), (42, .i2l, 43, []), (43, .invokevirtual 399, 46, []), (46, .iinc 4 1, 49, []), (49, .goto (-25), 52, [24]), (52, .iload_n 3, 53, []), (53, .ireturn, 54, [])]
theorem gX9_pour : mGood mX9_pour tX9_pour := ⟨by decide, ⟨by decide, rfl, Or.inl rfl⟩, Or.inl rfl, by decide +kernel⟩
def tX9_image : mTb := [(0, .aload_n 0, 1, []), (1, .iload_n 1, 2, []), (2, .invokevirtual 407, 5, []), (5, .aload_n 0, 6, []), (6, .getfield 76, 9, []), (9, .iload_n 1, 10, []), (10, .aaload, 11, []), (11, .ifnonnull 16, 14, [27]), (14, .aload_n 0, 15, []), (15, .getfield 76, 18, []), (18, .iload_n 1, 19, []), (19, .new 25, 22, []), (22, .dup, 23, []), (23, .invokespecial 27, 26, []), (26, .aastore, 27, []), (27, .aload_n 0, 28, []), (28, .getfield 76, 31, []), (31, .iload_n 1, 32, []), (32, .aaload, 33, []), (33, .aload_n 0, 34, []), (34, .getfield 28, 37, []), (37, .invokevirtual 410, 40, []), (40, .return_, 41, [])]
theorem gX9_image : mGood mX9_image tX9_image := ⟨by decide, ⟨by decide, rfl, Or.inl rfl⟩, Or.inl rfl, by decide +kernel⟩
def tX9_restore : mTb := [(0, .aload_n 0, 1, []), (1, .iload_n 1, 2, []), (2, .invokevirtual 407, 5, []), (5, .aload_n 0, 6, []), (6, .getfield 76, 9, []), (9, .iload_n 1, 10, []), (10, .aaload, 11, []), (11, .ifnonnull 14, 14, [25]), (14, .new 180, 17, []), (17, .dup, 18, []), (18, .ldc_w 413, 21, []), (21, .invokespecial 184, 24, []), (24, .athrow, 25, []), (25, .aload_n 0, 26, []), (26, .getfield 28, 29, []), (29, .aload_n 0, 30, []), (30, .getfield 76, 33, []), (33, .iload_n 1, 34, []), (34, .aaload, 35, []), (35, .invokevirtual 410, 38, []), (38, .return_, 39, [])]
theorem gX9_restore : mGood mX9_restore tX9_restore := ⟨by decide, ⟨by decide, rfl, Or.inl rfl⟩, Or.inl rfl, by decide +kernel⟩
def tX9_count : mTb := [(0, .iload_n 1, 1, []), (1, .tableswitch 111 0 7 #[47, 55, 63, 71, 79, 87, 95, 103], 48, [112, 48, 56, 64, 72, 80, 88, 96, 104]), (48, .aload_n 0, 49, []), (49, .getfield 28, 52, []), (52, .getfield 109, 55, []), (55, .ireturn, 56, []), (56, .aload_n 0, 57, []), (57, .getfield 28, 60, []), (60, .getfield 209, 63, []), (63, .ireturn, 64, []), (64, .aload_n 0, 65, []), (65, .getfield 28, 68, []), (68, .getfield 212, 71, []), (71, .ireturn, 72, []), (72, .aload_n 0, 73, []), (73, .getfield 28, 76, []), (76, .getfield 415, 79, []), (79, .ireturn, 80, []), (80, .aload_n 0, 81, []), (81, .getfield 28, 84, []), (84, .getfield 185, 87, []), (87, .ireturn, 88, []), (88, .aload_n 0, 89, []), (89, .getfield 28, 92, []), (92, .invokevirtual 418, 95, []), (95, .ireturn, 96, []), (96, .aload_n 0, 97, []), (97, .getfield 28, 100, []), (100, .invokevirtual 239, 103, []), (103, .ireturn, 104, []), (104, .aload_n 0, 105, []), (105, .getfield 12, 108, []), (108, .getfield 88, 111, []), (111, .ireturn, 112, []), (112, .iconst (-1), 113, []), (113, .ireturn, 114, [])]
theorem gX9_count : mGood mX9_count tX9_count := ⟨by decide, ⟨by decide, rfl, Or.inl rfl⟩, Or.inl rfl, by decide +kernel⟩
def tX9_needDie : mTb := [(0, .aload_n 0, 1, []), (1, .getfield 28, 4, []), (4, .iload_n 1, 5, []), (5, .invokevirtual 421, 8, []), (8, .ifCond .ne 14, 11, [22]), (11, .new 193, 14, []), (14, .dup, 15, []), (15, .ldc_w 424, 18, []), (18, .invokespecial 197, 21, []), (21, .athrow, 22, []), (22, .return_, 23, [])]
theorem gX9_needDie : mGood mX9_needDie tX9_needDie := ⟨by decide, ⟨by decide, rfl, Or.inl rfl⟩, Or.inl rfl, by decide +kernel⟩
def tX9_needHand : mTb := [(0, .aload_n 0, 1, []), (1, .getfield 28, 4, []), (4, .iload_n 1, 5, []), (5, .invokevirtual 426, 8, []), (8, .ifCond .ne 14, 11, [22]), (11, .new 193, 14, []), (14, .dup, 15, []), (15, .ldc_w 429, 18, []), (18, .invokespecial 197, 21, []), (21, .athrow, 22, []), (22, .return_, 23, [])]
theorem gX9_needHand : mGood mX9_needHand tX9_needHand := ⟨by decide, ⟨by decide, rfl, Or.inl rfl⟩, Or.inl rfl, by decide +kernel⟩
def tX9_needNotGone : mTb := [(0, .aload_n 0, 1, []), (1, .getfield 28, 4, []), (4, .iload_n 1, 5, []), (5, .invokevirtual 130, 8, []), (8, .ifCond .eq 14, 11, [22]), (11, .new 180, 14, []), (14, .dup, 15, []), (15, .ldc_w 431, 18, []), (18, .invokespecial 184, 21, []), (21, .athrow, 22, []), (22, .return_, 23, [])]
theorem gX9_needNotGone : mGood mX9_needNotGone tX9_needNotGone := ⟨by decide, ⟨by decide, rfl, Or.inl rfl⟩, Or.inl rfl, by decide +kernel⟩
def tX9_needTwoDice : mTb := [(0, .aload_n 0, 1, []), (1, .iload_n 1, 2, []), (2, .invokevirtual 115, 5, []), (5, .aload_n 0, 6, []), (6, .iload_n 2, 7, []), (7, .invokevirtual 115, 10, []), (10, .aload_n 0, 11, []), (11, .iload_n 1, 12, []), (12, .invokevirtual 155, 15, []), (15, .aload_n 0, 16, []), (16, .iload_n 2, 17, []), (17, .invokevirtual 155, 20, []), (20, .return_, 21, [])]
theorem gX9_needTwoDice : mGood mX9_needTwoDice tX9_needTwoDice := ⟨by decide, ⟨by decide, rfl, Or.inl rfl⟩, Or.inl rfl, by decide +kernel⟩
def tX9_needRoomForThrow : mTb := [(0, .aload_n 0, 1, []), (1, .getfield 28, 4, []), (4, .invokevirtual 217, 7, []), (7, .ifCond .ne 14, 10, [21]), (10, .new 180, 13, []), (13, .dup, 14, []), (14, .ldc_w 433, 17, []), (17, .invokespecial 184, 20, []), (20, .athrow, 21, []), (21, .return_, 22, [])]
theorem gX9_needRoomForThrow : mGood mX9_needRoomForThrow tX9_needRoomForThrow := ⟨by decide, ⟨by decide, rfl, Or.inl rfl⟩, Or.inl rfl, by decide +kernel⟩
def tX9_needFace : mTb := [(0, .iload_n 1, 1, []), (1, .i2l, 2, []), (2, .invokestatic 435, 5, []), (5, .ifCond .ne 14, 8, [19]), (8, .new 92, 11, []), (11, .dup, 12, []), (12, .ldc_w 439, 15, []), (15, .invokespecial 96, 18, []), (18, .athrow, 19, []), (19, .return_, 20, [])]
theorem gX9_needFace : mGood mX9_needFace tX9_needFace := ⟨by decide, ⟨by decide, rfl, Or.inl rfl⟩, Or.inl rfl, by decide +kernel⟩
def tX9_needWhat : mTb := [(0, .iload_n 1, 1, []), (1, .iload_n 2, 2, []), (2, .if_icmp .lt 8, 5, [10]), (5, .iload_n 1, 6, []), (6, .iload_n 3, 7, []), (7, .if_icmp .le 14, 10, [21]), (10, .new 92, 13, []), (13, .dup, 14, []), (14, .ldc_w 441, 17, []), (17, .invokespecial 96, 20, []), (20, .athrow, 21, []), (21, .return_, 22, [])]
theorem gX9_needWhat : mGood mX9_needWhat tX9_needWhat := ⟨by decide, ⟨by decide, rfl, Or.inl rfl⟩, Or.inl rfl, by decide +kernel⟩
def tX9_needMinutes : mTb := [(0, .iload_n 1, 1, []), (1, .iload_n 2, 2, []), (2, .if_icmp .lt 9, 5, [11]), (5, .iload_n 1, 6, []), (6, .bipush 99, 8, []), (8, .if_icmp .le 14, 11, [22]), (11, .new 92, 14, []), (14, .dup, 15, []), (15, .ldc_w 443, 18, []), (18, .invokespecial 96, 21, []), (21, .athrow, 22, []), (22, .return_, 23, [])]
theorem gX9_needMinutes : mGood mX9_needMinutes tX9_needMinutes := ⟨by decide, ⟨by decide, rfl, Or.inl rfl⟩, Or.inl rfl, by decide +kernel⟩
def tX9_needThrowsUpToEight : mTb := [(0, .iload_n 1, 1, []), (1, .iload_n 2, 2, []), (2, .if_icmp .lt 9, 5, [11]), (5, .iload_n 1, 6, []), (6, .bipush 8, 8, []), (8, .if_icmp .le 14, 11, [22]), (11, .new 92, 14, []), (14, .dup, 15, []), (15, .ldc_w 445, 18, []), (18, .invokespecial 96, 21, []), (21, .athrow, 22, []), (22, .return_, 23, [])]
theorem gX9_needThrowsUpToEight : mGood mX9_needThrowsUpToEight tX9_needThrowsUpToEight := ⟨by decide, ⟨by decide, rfl, Or.inl rfl⟩, Or.inl rfl, by decide +kernel⟩
def tX9_needOneToThree : mTb := [(0, .iload_n 1, 1, []), (1, .iconst 1, 2, []), (2, .if_icmp .lt 8, 5, [10]), (5, .iload_n 1, 6, []), (6, .iconst 3, 7, []), (7, .if_icmp .le 14, 10, [21]), (10, .new 92, 13, []), (13, .dup, 14, []), (14, .ldc_w 447, 17, []), (17, .invokespecial 96, 20, []), (20, .athrow, 21, []), (21, .return_, 22, [])]
theorem gX9_needOneToThree : mGood mX9_needOneToThree tX9_needOneToThree := ⟨by decide, ⟨by decide, rfl, Or.inl rfl⟩, Or.inl rfl, by decide +kernel⟩
def tX9_needSet : mTb := [(0, .iload_n 1, 1, []), (1, .ifCond .lt 16, 4, [17]), (4, .iload_n 1, 5, []), (5, .iconst 1, 6, []), (6, .aload_n 0, 7, []), (7, .getfield 28, 10, []), (10, .getfield 209, 13, []), (13, .ishl, 14, []), (14, .if_icmp .lt 14, 17, [28]), (17, .new 92, 20, []), (20, .dup, 21, []), (21, .ldc_w 449, 24, []), (24, .invokespecial 96, 27, []), (27, .athrow, 28, []), (28, .return_, 29, [])]
theorem gX9_needSet : mGood mX9_needSet tX9_needSet := ⟨by decide, ⟨by decide, rfl, Or.inl rfl⟩, Or.inl rfl, by decide +kernel⟩
def tX9_needNoneGone : mTb := [(0, .aload_n 0, 1, []), (1, .getfield 44, 4, []), (4, .iload_n 1, 5, []), (5, .invokevirtual 270, 8, []), (8, .lconst 0, 9, []), (9, .lcmp, 10, []), (10, .ifCond .ne 14, 13, [24]), (13, .new 180, 16, []), (16, .dup, 17, []), (17, .ldc_w 451, 20, []), (20, .invokespecial 184, 23, []), (23, .athrow, 24, []), (24, .return_, 25, [])]
theorem gX9_needNoneGone : mGood mX9_needNoneGone tX9_needNoneGone := ⟨by decide, ⟨by decide, rfl, Or.inl rfl⟩, Or.inl rfl, by decide +kernel⟩
def tX9_needSetNotGone : mTb := [(0, .aload_n 0, 1, []), (1, .iload_n 1, 2, []), (2, .invokevirtual 289, 5, []), (5, .aload_n 0, 6, []), (6, .iload_n 1, 7, []), (7, .invokevirtual 292, 10, []), (10, .return_, 11, [])]
theorem gX9_needSetNotGone : mGood mX9_needSetNotGone tX9_needSetNotGone := ⟨by decide, ⟨by decide, rfl, Or.inl rfl⟩, Or.inl rfl, by decide +kernel⟩
def tX9_needFaces : mTb := [(0, .aload_n 1, 1, []), (1, .invokevirtual 453, 4, []), (4, .ifCond .ne 14, 7, [18]), (7, .new 92, 10, []), (10, .dup, 11, []), (11, .ldc_w 456, 14, []), (14, .invokespecial 96, 17, []), (17, .athrow, 18, []), (18, .return_, 19, [])]
theorem gX9_needFaces : mGood mX9_needFaces tX9_needFaces := ⟨by decide, ⟨by decide, rfl, Or.inl rfl⟩, Or.inl rfl, by decide +kernel⟩
def tX9_needImagePlace : mTb := [(0, .iload_n 1, 1, []), (1, .ifCond .lt 12, 4, [13]), (4, .iload_n 1, 5, []), (5, .aload_n 0, 6, []), (6, .getfield 76, 9, []), (9, .arraylength, 10, []), (10, .if_icmp .lt 14, 13, [24]), (13, .new 193, 16, []), (16, .dup, 17, []), (17, .ldc_w 458, 20, []), (20, .invokespecial 197, 23, []), (23, .athrow, 24, []), (24, .return_, 25, [])]
theorem gX9_needImagePlace : mGood mX9_needImagePlace tX9_needImagePlace := ⟨by decide, ⟨by decide, rfl, Or.inl rfl⟩, Or.inl rfl, by decide +kernel⟩
def tX9_anyTray : mTb := [(0, .iload_n 1, 1, []), (1, .ifCond .lt 12, 4, [13]), (4, .iload_n 1, 5, []), (5, .aload_n 0, 6, []), (6, .getfield 71, 9, []), (9, .arraylength, 10, []), (10, .if_icmp .lt 14, 13, [24]), (13, .new 193, 16, []), (16, .dup, 17, []), (17, .ldc_w 460, 20, []), (20, .invokespecial 197, 23, []), (23, .athrow, 24, []), (24, .aload_n 0, 25, []), (25, .getfield 71, 28, []), (28, .iload_n 1, 29, []), (29, .aaload, 30, []), (30, .areturn, 31, [])]
theorem gX9_anyTray : mGood mX9_anyTray tX9_anyTray := ⟨by decide, ⟨by decide, rfl, Or.inl rfl⟩, Or.inl rfl, by decide +kernel⟩
def tX9_neededTray : mTb := [(0, .aload_n 0, 1, []), (1, .iload_n 1, 2, []), (2, .invokevirtual 386, 5, []), (5, .astore_n 2, 6, []), (6, .aload_n 2, 7, []), (7, .getfield 462, 10, []), (10, .ifCond .eq 14, 13, [24]), (13, .new 180, 16, []), (16, .dup, 17, []), (17, .ldc_w 466, 20, []), (20, .invokespecial 184, 23, []), (23, .athrow, 24, []), (24, .aload_n 2, 25, []), (25, .areturn, 26, [])]
theorem gX9_neededTray : mGood mX9_neededTray tX9_neededTray := ⟨by decide, ⟨by decide, rfl, Or.inl rfl⟩, Or.inl rfl, by decide +kernel⟩
def tX9_throwTold : mTb := [(0, .iconst 0, 1, []), (1, .istore_n 2, 2, []), (2, .iconst 0, 3, []), (3, .istore_n 3, 4, []), (4, .iload_n 3, 5, []), (5, .aload_n 1, 6, []), (6, .getfield 228, 9, []), (9, .if_icmp .ge 40, 12, [49]), (12, .aload_n 0, 13, []), (13, .getfield 28, 16, []), (16, .aload_n 1, 17, []), (17, .iload_n 3, 18, []), (18, .invokevirtual 231, 21, []), (21, .invokevirtual 235, 24, []), (24, .ifCond .ne 25, 27, [49]), (27, .aload_n 0, 28, []), (28, .getfield 28, 31, []), (31, .aload_n 1, 32, []), (32, .iload_n 3, 33, []), (33, .invokevirtual 231, 36, []), (36, .l2i, 37, []), (37, .invokevirtual 468, 40, []), (40, .iinc 2 1, 43, []), (43, .iinc 3 1, 46, []), (46, .goto (-42), 49, [4]), (49, .iload_n 2, 50, []), (50, .ireturn, 51, [])]
theorem gX9_throwTold : mGood mX9_throwTold tX9_throwTold := ⟨by decide, ⟨by decide, rfl, Or.inl rfl⟩, Or.inl rfl, by decide +kernel⟩
def tX9_isFace : mTb := [(0, .lload_n 0, 1, []), (1, .lconst 1, 2, []), (2, .lcmp, 3, []), (3, .ifCond .lt 15, 6, [18]), (6, .lload_n 0, 7, []), (7, .ldc2_w 471, 10, []), (10, .lcmp, 11, []), (11, .ifCond .gt 7, 14, [18]), (14, .iconst 1, 15, []), (15, .goto 4, 18, [19]), (18, .iconst 0, 19, []), (19, .ireturn, 20, [])]
theorem gX9_isFace : mGood mX9_isFace tX9_isFace := ⟨by decide, ⟨by decide, rfl, Or.inl rfl⟩, Or.inl rfl, by decide +kernel⟩
def tX9_power : mTb := [(0, .lconst 1, 1, []), (1, .lstore_n 3, 2, []), (2, .iconst 0, 3, []), (3, .istore 5, 5, []), (5, .iload 5, 7, []), (7, .iload_n 2, 8, []), (8, .if_icmp .ge 13, 11, [21]), (11, .lload_n 3, 12, []), (12, .lload_n 0, 13, []), (13, .lmul, 14, []), (14, .lstore_n 3, 15, []), (15, .iinc 5 1, 18, []), (18, .goto (-13), 21, [5]), (21, .lload_n 3, 22, []), (22, .lreturn, 23, [])]
theorem gX9_power : mGood mX9_power tX9_power := ⟨by decide, ⟨by decide, rfl, Or.inl rfl⟩, Or.inl rfl, by decide +kernel⟩
def tX9_waysToGoal : mTb := [(0, .iload_n 2, 1, []), (1, .iload_n 3, 2, []), (2, .if_icmp .lt 11, 5, [13]), (5, .iload_n 1, 6, []), (6, .i2l, 7, []), (7, .iload 4, 9, []), (9, .invokestatic 313, 12, []), (12, .lreturn, 13, []), (13, .iload_n 2, 14, []), (14, .ifCond .le 8, 17, [22]), (17, .iload 4, 19, []), (19, .ifCond .gt 5, 22, [24]), (22, .lconst 0, 23, []), (23, .lreturn, 24, []), (24, .iload_n 0, 25, []), (25, .i2l, 26, []), (26, .iload_n 0, 27, []), (27, .iload_n 1, 28, []), (28, .iload_n 2, 29, []), (29, .iconst 1, 30, []), (30, .iadd, 31, []), (31, .iload_n 3, 32, []), (32, .iload 4, 34, []), (34, .iconst 1, 35, []), (35, .isub, 36, []), (36, .invokestatic 322, 39, []), (39, .lmul, 40, []), (40, .iload_n 1, 41, []), (41, .iload_n 0, 42, []), (42, .isub, 43, []), (43, .i2l, 44, []), (44, .iload_n 0, 45, []), (45, .iload_n 1, 46, []), (46, .iload_n 2, 47, []), (47, .iconst 1, 48, []), (48, .isub, 49, []), (49, .iload_n 3, 50, []), (50, .iload 4, 52, []), (52, .iconst 1, 53, []), (53, .isub, 54, []), (54, .invokestatic 322, 57, []), (57, .lmul, 58, []), (58, .ladd, 59, []), (59, .lreturn, 60, [])]
theorem gX9_waysToGoal : mGood mX9_waysToGoal tX9_waysToGoal := ⟨by decide, ⟨by decide, rfl, Or.inl rfl⟩, Or.inl rfl, by decide +kernel⟩
def tX9_waysToLead : mTb := [(0, .iload 7, 2, []), (2, .ifCond .gt 14, 5, [16]), (5, .iload 6, 7, []), (7, .ifCond .le 7, 10, [14]), (10, .lconst 1, 11, []), (11, .goto 4, 14, [15]), (14, .lconst 0, 15, []), (15, .lreturn, 16, []), (16, .lload_n 0, 17, []), (17, .lload_n 0, 18, []), (18, .lload_n 2, 19, []), (19, .lload 4, 21, []), (21, .iload 6, 23, []), (23, .iconst 1, 24, []), (24, .iadd, 25, []), (25, .iload 7, 27, []), (27, .iconst 1, 28, []), (28, .isub, 29, []), (29, .invokestatic 341, 32, []), (32, .lmul, 33, []), (33, .lload_n 2, 34, []), (34, .lload_n 0, 35, []), (35, .lload_n 2, 36, []), (36, .lload 4, 38, []), (38, .iload 6, 40, []), (40, .iload 7, 42, []), (42, .iconst 1, 43, []), (43, .isub, 44, []), (44, .invokestatic 341, 47, []), (47, .lmul, 48, []), (48, .ladd, 49, []), (49, .lload 4, 51, []), (51, .lload_n 0, 52, []), (52, .lload_n 2, 53, []), (53, .lload 4, 55, []), (55, .iload 6, 57, []), (57, .iconst 1, 58, []), (58, .isub, 59, []), (59, .iload 7, 61, []), (61, .iconst 1, 62, []), (62, .isub, 63, []), (63, .invokestatic 341, 66, []), (66, .lmul, 67, []), (67, .ladd, 68, []), (68, .lreturn, 69, [])]
theorem gX9_waysToLead : mGood mX9_waysToLead tX9_waysToLead := ⟨by decide, ⟨by decide, rfl, Or.inl rfl⟩, Or.inl rfl, by decide +kernel⟩
end
section
/-! The same machine over whole numbers: an int is Int32.ofInt of one, a long Int64.ofInt. -/
abbrev zV : Type := Int ⊕ Int ⊕ Option Nat
abbrev zE : Type := (Nat × Nat × ((Nat → Int) ⊕ (Nat → Option Nat))) ⊕ (Nat × List zV)
abbrev zH : Type := List zE
abbrev zO : Type := Option zV ⊕ Nat
def zT (v : zV) : Value := match v with
  | .inl z => .int (Int32.ofInt z)
  | .inr (.inl z) => .long (Int64.ofInt z)
  | .inr (.inr none) => .null
  | .inr (.inr (some k)) => .ref k
def zA (t : Nat) (f : (Nat → Int) ⊕ (Nat → Option Nat)) : (Nat → Int32) ⊕ (Nat → Int64) ⊕ (Nat → UInt32) ⊕ (Nat → UInt64) ⊕ (Nat → Option Nat) := match f with
  | .inl f => if t = 1 then .inr (.inl (fun i => Int64.ofInt (f i))) else .inl (fun i => Int32.ofInt (f i))
  | .inr f => .inr (.inr (.inr (.inr f)))
def zC (e : zE) : mE := match e with
  | .inl a => .inl (a.1, a.2.1, zA a.1 a.2.2)
  | .inr c => .inr (c.1, c.2.map zT)
def zOt (o : zO) : mO := match o with
  | .inl r => .inl (r.map zT)
  | .inr n => .inr n
def zQ (Q : zO → zH → Prop) : mO → mH → Prop := fun o h => ∃ (o2 : zO) (h2 : zH), o = zOt o2 ∧ h = h2.map zC ∧ Q o2 h2
def zL (L : List (Option zV)) : List (Option Value) := L.map (Option.map zT)
def zWP (X : mX) (M : mM) (d : Nat) (Q : zO → zH → Prop) (pc : Nat) (L : List (Option zV)) (st : List zV) (h : zH) (bc bs : Nat) : Prop := mWP X M d (zQ Q) pc (zL L) (st.map zT) (h.map zC) bc bs
def zEv (X : mX) (d : Nat) (M : mM) (as : List zV) (h : zH) (Q : zO → zH → Prop) : Prop := mEv X d M (as.map zT) (h.map zC) (zQ Q)
/-- in the range of an int, of a long -/
def rI (z : Int) : Prop := -2147483648 ≤ z ∧ z < 2147483648
def rL (z : Int) : Prop := -9223372036854775808 ≤ z ∧ z < 9223372036854775808
def zKill (L : List (Option zV)) (i : Nat) : List (Option zV) := match i with
  | 0 => L
  | j + 1 => match L[j]? with
    | some (some (.inr (.inl _))) => L.set j none
    | _ => L
def zSt1 (L : List (Option zV)) (i : Nat) (v : zV) : List (Option zV) := (zKill L i).set i (some v)
def zSt2 (L : List (Option zV)) (i : Nat) (v : zV) : List (Option zV) := ((zKill L i).set i (some v)).set (i + 1) none
theorem zL_get (L : List (Option zV)) (k : Nat) : (zL L)[k]? = (L[k]?).map (Option.map zT) := by simp [zL]
theorem zL_at {L : List (Option zV)} {k : Nat} {v : zV} (h : L[k]? = some (some v)) : (zL L)[k]? = some (some (zT v)) := by rw [zL_get, h]; rfl
theorem zKill_eq (L : List (Option zV)) (i : Nat) : mKill (zL L) i = zL (zKill L i) := by
  cases i with
  | zero => rfl
  | succ j =>
    simp only [mKill, zKill, zL_get]
    cases hj : L[j]? with
    | none => rfl
    | some o =>
      cases o with
      | none => rfl
      | some v =>
        match v with
        | .inl z => rfl
        | .inr (.inl z) => simp [zT, zL]
        | .inr (.inr none) => rfl
        | .inr (.inr (some k)) => rfl
theorem zSt1_eq (L : List (Option zV)) (i : Nat) (v : zV) : mSt1 (zL L) i (zT v) = zL (zSt1 L i v) := by
  simp only [mSt1, zSt1, zKill_eq]
  simp [zL]
theorem zSt2_eq (L : List (Option zV)) (i : Nat) (v : zV) : mSt2 (zL L) i (zT v) = zL (zSt2 L i v) := by
  simp only [mSt2, zSt2, zKill_eq]
  simp [zL]
theorem rI_to {z : Int} (h : rI z) : (Int32.ofInt z).toInt = z := Int32.toInt_ofInt_of_le (by have := h.1; omega) (by have := h.2; omega)
theorem rL_to {z : Int} (h : rL z) : (Int64.ofInt z).toInt = z := Int64.toInt_ofInt_of_le (by have := h.1; omega) (by have := h.2; omega)
theorem zI_lt {a b : Int} (ha : rI a) (hb : rI b) : Int32.ofInt a < Int32.ofInt b ↔ a < b := by rw [Int32.lt_iff_toInt_lt, rI_to ha, rI_to hb]
theorem zI_le {a b : Int} (ha : rI a) (hb : rI b) : Int32.ofInt a ≤ Int32.ofInt b ↔ a ≤ b := by rw [Int32.le_iff_toInt_le, rI_to ha, rI_to hb]
theorem zI_eq {a b : Int} (ha : rI a) (hb : rI b) : Int32.ofInt a = Int32.ofInt b ↔ a = b := by rw [← Int32.toInt_inj, rI_to ha, rI_to hb]
theorem zL_lt {a b : Int} (ha : rL a) (hb : rL b) : Int64.ofInt a < Int64.ofInt b ↔ a < b := by rw [Int64.lt_iff_toInt_lt, rL_to ha, rL_to hb]
theorem zL_eq {a b : Int} (ha : rL a) (hb : rL b) : Int64.ofInt a = Int64.ofInt b ↔ a = b := by rw [← Int64.toInt_inj, rL_to ha, rL_to hb]
theorem rI_0 : rI 0 := ⟨by omega, by omega⟩
theorem zI_asI (x : Int32) : Int32.ofInt x.toInt = x := by apply Int32.toInt_inj.mp; rw [Int32.toInt_ofInt_of_le (Int32.le_toInt x) (Int32.toInt_lt x)]
theorem zL_asI (x : Int64) : Int64.ofInt x.toInt = x := by apply Int64.toInt_inj.mp; rw [Int64.toInt_ofInt_of_le (Int64.le_toInt x) (Int64.toInt_lt x)]
theorem zI_in {z : Int} {n : Nat} (hr : rI z) (h1 : 0 ≤ z) (h2 : z < n) : vp_in (Int32.ofInt z) n ∧ (Int32.ofInt z).toNatClampNeg = z.toNat := by
  have e : (Int32.ofInt z).toNatClampNeg = z.toNat := by
    show (Int32.ofInt z).toInt.toNat = _
    rw [rI_to hr]
  refine ⟨?_, e⟩
  intro q
  rcases q with q | q
  · have q2 : Int32.ofInt z < Int32.ofInt 0 := q
    rw [zI_lt hr rI_0] at q2
    omega
  · rw [e] at q
    omega
theorem zH_at {h : zH} {k : Nat} {e : zE} (hk : h[k]? = some e) : (h.map zC)[k]? = some (zC e) := by rw [List.getElem?_map, hk]; rfl
theorem zH_set (h : zH) (k : Nat) (e : zE) : (h.map zC).set k (zC e) = (h.set k e).map zC := by rw [List.map_set]
end
section
/-! the computation over whole numbers -/
abbrev zK : Type := Nat → List (Option zV) → List zV → zH → Nat → Nat → Prop
def zCs (st : List zV) : Nat := match st with
  | [] => 0
  | .inr (.inl _) :: r => 2 + zCs r
  | _ :: r => 1 + zCs r
def zWfV (h : zH) (v : zV) : Bool := match v with
  | .inr (.inr (some k)) => (h[k]?).isSome || Nat.ble mSB k
  | _ => true
def zWfS (h : zH) (L : List (Option zV)) (st : List zV) : Bool := L.all (fun o => match o with
  | some v => zWfV h v
  | none => true) && st.all (zWfV h)
/-- a store into the locals, the new row written out -/
def zS1 : List (Option zV) → Nat → zV → (List (Option zV) → Prop) → Prop
  | [], _, _, k => k []
  | _ :: r, 0, v, k => k (some v :: r)
  | a :: r, j + 1, v, k => match j, a with
    | 0, some (.inr (.inl _)) => zS1 r j v (fun r1 => k (none :: r1))
    | _, _ => zS1 r j v (fun r1 => k (a :: r1))
def zS2 : List (Option zV) → Nat → zV → (List (Option zV) → Prop) → Prop
  | [], _, _, k => k []
  | _ :: r, 0, v, k => match r with
    | [] => k [some v]
    | _ :: q => k (some v :: none :: q)
  | a :: r, j + 1, v, k => match j, a with
    | 0, some (.inr (.inl _)) => zS2 r j v (fun r1 => k (none :: r1))
    | _, _ => zS2 r j v (fun r1 => k (a :: r1))
def zCl (X : mX) (d : Nat) (M2 : mM) (as : List zV) (h : zH) (K : zO → zH → Prop) : Prop := ∃ (d2 : Nat) (Q2 : zO → zH → Prop), d2 < d ∧ zEv X d2 M2 as h Q2 ∧ ∀ (o : zO) (h1 : zH), Q2 o h1 → K o h1
def zSwIn (x lo : Int) : List Nat → (Nat → Prop) → Prop
  | [], _ => True
  | t :: r, k => (x = lo → k t) ∧ zSwIn x (lo + 1) r k
def zSwL (x : Int) : List (Int × Int) → List Nat → Prop → (Nat → Prop) → Prop
  | p :: ps, t :: ts, kd, k => mBr (x = p.1) (k t) (zSwL x ps ts kd k)
  | _, _, kd, _ => kd
def zPop : Nat → List zV → List zV → (List zV → List zV → Prop) → Prop
  | 0, st, acc, k => k acc st
  | n + 1, v :: st, acc, k => zPop n st (v :: acc) k
  | _ + 1, [], _, _ => False
def zFit (ty : FieldType) (v : zV) : Bool := match ty, v with
  | .int, .inl _ => true
  | .boolean, .inl z => decide (z = 0 ∨ z = 1)
  | .object _, .inr (.inr _) => true
  | .array _, .inr (.inr _) => true
  | _, _ => false
def zDf (ci N : Nat) : List zV := (List.range N).map (fun j => match mTy ci j with
  | .object _ => .inr (.inr none)
  | .array _ => .inr (.inr none)
  | .long => .inr (.inl 0)
  | _ => .inl 0)
def zKl (k : Nat) : List (Nat × Int) := match k with
  | 9 => [(471, 6), (295, -1)]
  | 2 => [(84, 500)]
  | 10 => [(181, 10), (195, 2), (163, 6), (222, 40), (300, 3), (227, 100), (249, 99), (260, 20), (276, 30), (292, 8), (298, 9), (332, 5)]
  | 11 => [(343, 4294967295)]
  | _ => []
def zXc (M : mM) (Q : zO → zH → Prop) (tb : mTb) (pc kd E : Nat) (h1 : zH) : Prop := match kd with
  | 0 => match M.2.2.2.2.1 with
    | [] => Q (.inr E) h1
    | _ :: _ => bif Nat.blt E 4 then (match mHd pc E M.2.2.2.2.1 with
      | some hp => match mLk tb hp with
        | some (.astore j, n1, _) => match mLk tb n1 with
          | some (.iconst v, n2, _) => match mLk tb n2 with
            | some (.ireturn, _, _) => bif Nat.blt j M.2.2.1 then (match M.2.2.2.1 with
              | some .int => Q (.inl (some (.inl v))) h1
              | _ => False) else False
            | _ => False
          | _ => False
        | some (.astore_n j, n1, _) => match mLk tb n1 with
          | some (.iconst v, n2, _) => match mLk tb n2 with
            | some (.ireturn, _, _) => bif Nat.blt j.val M.2.2.1 then (match M.2.2.2.1 with
              | some .int => Q (.inl (some (.inl v))) h1
              | _ => False) else False
            | _ => False
          | _ => False
        | _ => False
      | none => False) else False
  | 2 => match M.2.2.2.2.1 with
    | [] => Q (.inr E) h1
    | _ :: _ => False
  | _ => False
def zInv (X : mX) (M : mM) (d : Nat) (Q : zO → zH → Prop) (tb : mTb) (K : zK) (pc nx : Nat) (L : List (Option zV)) (h : zH) (bc bs : Nat) (kd : Nat) (M2 : mM) (as rest : List zV) : Prop :=
  bif Nat.ble (zCs rest) 8 && Nat.ble M2.2.2.2.2.2.2.1 bc && Nat.ble M2.2.2.2.2.2.2.2 bs && zWfS h L rest then
    zCl X d M2 as h (fun o h1 => match o with
      | .inl (some v) => K nx L (v :: rest) h1 (bc - M2.2.2.2.2.2.2.1) (bs - M2.2.2.2.2.2.2.2)
      | .inl none => K nx L rest h1 (bc - M2.2.2.2.2.2.2.1) (bs - M2.2.2.2.2.2.2.2)
      | .inr E => zXc M Q tb pc kd E h1)
  else False
def zOp (X : mX) (M : mM) (d : Nat) (Q : zO → zH → Prop) (tb : mTb) (K : zK) (i : Instr) (nx : Nat) (tg : List Nat) (pc : Nat) (L : List (Option zV)) (st : List zV) (h : zH) (bc bs : Nat) : Prop :=
  match i with
  | .aload_n j => match L[j.val]? with
    | some (some (.inr (.inr x))) => K nx L (.inr (.inr x) :: st) h bc bs
    | _ => False
  | .aload j => match L[j]? with
    | some (some (.inr (.inr x))) => K nx L (.inr (.inr x) :: st) h bc bs
    | _ => False
  | .iload_n j => match L[j.val]? with
    | some (some (.inl x)) => K nx L (.inl x :: st) h bc bs
    | _ => False
  | .iload j => match L[j]? with
    | some (some (.inl x)) => K nx L (.inl x :: st) h bc bs
    | _ => False
  | .lload_n j => match L[j.val]? with
    | some (some (.inr (.inl x))) => K nx L (.inr (.inl x) :: st) h bc bs
    | _ => False
  | .lload j => match L[j]? with
    | some (some (.inr (.inl x))) => K nx L (.inr (.inl x) :: st) h bc bs
    | _ => False
  | .istore_n j => match st with
    | .inl x :: r => bif Nat.blt j.val M.2.2.1 then zS1 L (j.val) (.inl x) (fun L1 => K nx L1 r h bc bs) else False
    | _ => False
  | .istore j => match st with
    | .inl x :: r => bif Nat.blt j M.2.2.1 then zS1 L (j) (.inl x) (fun L1 => K nx L1 r h bc bs) else False
    | _ => False
  | .lstore_n j => match st with
    | .inr (.inl x) :: r => bif Nat.blt (j.val + 1) M.2.2.1 then zS2 L (j.val) (.inr (.inl x)) (fun L1 => K nx L1 r h bc bs) else False
    | _ => False
  | .lstore j => match st with
    | .inr (.inl x) :: r => bif Nat.blt (j + 1) M.2.2.1 then zS2 L (j) (.inr (.inl x)) (fun L1 => K nx L1 r h bc bs) else False
    | _ => False
  | .astore_n j => match st with
    | .inr (.inr (some x)) :: r => bif Nat.blt j.val M.2.2.1 then zS1 L (j.val) (.inr (.inr (some x))) (fun L1 => K nx L1 r h bc bs) else False
    | _ => False
  | .astore j => match st with
    | .inr (.inr (some x)) :: r => bif Nat.blt j M.2.2.1 then zS1 L (j) (.inr (.inr (some x))) (fun L1 => K nx L1 r h bc bs) else False
    | _ => False
  | .iinc j n => match L[j]? with
    | some (some (.inl x)) => bif Nat.blt j M.2.2.1 then zS1 L j (.inl (x + n)) (fun L1 => K nx L1 st h bc bs) else False
    | _ => False
  | .iconst n => K nx L (.inl n :: st) h bc bs
  | .bipush n => match n with
    | .ofNat k => bif Nat.blt k 128 then K nx L (.inl n :: st) h bc bs else False
    | .negSucc k => bif Nat.blt k 128 then K nx L (.inl n :: st) h bc bs else False
  | .sipush n => match n with
    | .ofNat k => bif Nat.blt k 32768 then K nx L (.inl n :: st) h bc bs else False
    | .negSucc k => bif Nat.blt k 32768 then K nx L (.inl n :: st) h bc bs else False
  | .lconst n => match n.val with
    | 0 => K nx L (.inr (.inl 0) :: st) h bc bs
    | _ => K nx L (.inr (.inl 1) :: st) h bc bs
  | .ldc i => match mLk (mKi M.2.2.2.2.2.1) i with
    | some v => K nx L (.inl v.toInt :: st) h bc bs
    | none => match mLk (mSt M.2.2.2.2.2.1) i with
      | some (_, n) => K nx L (.inr (.inr (some (mSB + n))) :: st) h bc bs
      | none => False
  | .ldc_w i => match mLk (mKi M.2.2.2.2.2.1) i with
    | some v => K nx L (.inl v.toInt :: st) h bc bs
    | none => False
  | .ldc2_w i => match mLk (zKl M.2.2.2.2.2.1) i with
    | some v => K nx L (.inr (.inl v) :: st) h bc bs
    | none => False
  | .iadd => match st with
    | .inl y :: .inl x :: r => K nx L (.inl (x + y) :: r) h bc bs
    | _ => False
  | .isub => match st with
    | .inl y :: .inl x :: r => K nx L (.inl (x - y) :: r) h bc bs
    | _ => False
  | .imul => match st with
    | .inl y :: .inl x :: r => K nx L (.inl (x * y) :: r) h bc bs
    | _ => False
  | .iand => match st with
    | .inl y :: .inl x :: r => K nx L (.inl ((Int32.ofInt x &&& Int32.ofInt y).toInt) :: r) h bc bs
    | _ => False
  | .ior => match st with
    | .inl y :: .inl x :: r => K nx L (.inl ((Int32.ofInt x ||| Int32.ofInt y).toInt) :: r) h bc bs
    | _ => False
  | .ixor => match st with
    | .inl y :: .inl x :: r => K nx L (.inl ((Int32.ofInt x ^^^ Int32.ofInt y).toInt) :: r) h bc bs
    | _ => False
  | .ishl => match st with
    | .inl y :: .inl x :: r => K nx L (.inl ((Int32.ofInt x <<< (Int32.ofInt y &&& 31)).toInt) :: r) h bc bs
    | _ => False
  | .ishr => match st with
    | .inl y :: .inl x :: r => K nx L (.inl ((Int32.ofInt x >>> (Int32.ofInt y &&& 31)).toInt) :: r) h bc bs
    | _ => False
  | .iushr => match st with
    | .inl y :: .inl x :: r => K nx L (.inl (((Int32.ofInt x).toUInt32 >>> ((Int32.ofInt y).toUInt32 &&& Int32.toUInt32 31)).toInt32.toInt) :: r) h bc bs
    | _ => False
  | .idiv => match st with
    | .inl y :: .inl x :: r => mVc (0 ≤ x ∧ rI x ∧ 0 < y ∧ rI y) (K nx L (.inl (x / y) :: r) h bc bs)
    | _ => False
  | .irem => match st with
    | .inl y :: .inl x :: r => mVc (0 ≤ x ∧ rI x ∧ 0 < y ∧ rI y) (K nx L (.inl (x % y) :: r) h bc bs)
    | _ => False
  | .ineg => match st with
    | .inl x :: r => K nx L (.inl (-x) :: r) h bc bs
    | _ => False
  | .ladd => match st with
    | .inr (.inl y) :: .inr (.inl x) :: r => K nx L (.inr (.inl (x + y)) :: r) h bc bs
    | _ => False
  | .lsub => match st with
    | .inr (.inl y) :: .inr (.inl x) :: r => K nx L (.inr (.inl (x - y)) :: r) h bc bs
    | _ => False
  | .lmul => match st with
    | .inr (.inl y) :: .inr (.inl x) :: r => K nx L (.inr (.inl (x * y)) :: r) h bc bs
    | _ => False
  | .land => match st with
    | .inr (.inl y) :: .inr (.inl x) :: r => K nx L (.inr (.inl ((Int64.ofInt x &&& Int64.ofInt y).toInt)) :: r) h bc bs
    | _ => False
  | .lor => match st with
    | .inr (.inl y) :: .inr (.inl x) :: r => K nx L (.inr (.inl ((Int64.ofInt x ||| Int64.ofInt y).toInt)) :: r) h bc bs
    | _ => False
  | .ldiv => match st with
    | .inr (.inl y) :: .inr (.inl x) :: r => mVc (0 ≤ x ∧ rL x ∧ 0 < y ∧ rL y) (K nx L (.inr (.inl (x / y)) :: r) h bc bs)
    | _ => False
  | .lrem => match st with
    | .inr (.inl y) :: .inr (.inl x) :: r => mVc (0 ≤ x ∧ rL x ∧ 0 < y ∧ rL y) (K nx L (.inr (.inl (x % y)) :: r) h bc bs)
    | _ => False
  | .lshl => match st with
    | .inl y :: .inr (.inl x) :: r => K nx L (.inr (.inl (Int64.ofInt x <<< ((Int32.ofInt y).toInt64 &&& 63)).toInt) :: r) h bc bs
    | _ => False
  | .lshr => match st with
    | .inl y :: .inr (.inl x) :: r => K nx L (.inr (.inl (Int64.ofInt x >>> ((Int32.ofInt y).toInt64 &&& 63)).toInt) :: r) h bc bs
    | _ => False
  | .lcmp => match st, mLk tb nx with
    | .inr (.inl y) :: .inr (.inl x) :: r, some (.ifCond c _, nx2, [t]) => mVc (rL x ∧ rL y) (match c with
      | .eq => mBr (x = y) (K t L r h bc bs) (K nx2 L r h bc bs)
      | .ne => mBr (x = y) (K nx2 L r h bc bs) (K t L r h bc bs)
      | .lt => mBr (x < y) (K t L r h bc bs) (K nx2 L r h bc bs)
      | .ge => mBr (y ≤ x) (K t L r h bc bs) (K nx2 L r h bc bs)
      | .gt => mBr (y < x) (K t L r h bc bs) (K nx2 L r h bc bs)
      | .le => mBr (x ≤ y) (K t L r h bc bs) (K nx2 L r h bc bs))
    | _, _ => False
  | .i2l => match st with
    | .inl x :: r => mVc (rI x) (K nx L (.inr (.inl x) :: r) h bc bs)
    | _ => False
  | .l2i => match st with
    | .inr (.inl x) :: r => K nx L (.inl x :: r) h bc bs
    | _ => False
  | .i2b => match st with
    | .inl x :: r => K nx L (.inl (x.bmod 256) :: r) h bc bs
    | _ => False
  | .i2s => match st with
    | .inl x :: r => K nx L (.inl (x.bmod 65536) :: r) h bc bs
    | _ => False
  | .dup => match st with
    | .inl x :: r => K nx L (.inl x :: .inl x :: r) h bc bs
    | .inr (.inr x) :: r => K nx L (.inr (.inr x) :: .inr (.inr x) :: r) h bc bs
    | _ => False
  | .pop => match st with
    | .inl _ :: r => K nx L (r) h bc bs
    | .inr (.inr _) :: r => K nx L (r) h bc bs
    | _ => False
  | .dup2 => match st with
    | .inl x :: .inr (.inr y) :: r => K nx L (.inl x :: .inr (.inr y) :: .inl x :: .inr (.inr y) :: r) h bc bs
    | .inl x :: .inl y :: r => K nx L (.inl x :: .inl y :: .inl x :: .inl y :: r) h bc bs
    | .inr (.inl x) :: r => K nx L (.inr (.inl x) :: .inr (.inl x) :: r) h bc bs
    | _ => False
  | .pop2 => match st with
    | .inr (.inl _) :: r => K nx L (r) h bc bs
    | _ => False
  | .ifCond c _ => match st, tg with
    | .inl x :: r, [t] => mVc (rI x) (match c with
      | .eq => mBr (x = 0) (K t L r h bc bs) (K nx L r h bc bs)
      | .ne => mBr (x = 0) (K nx L r h bc bs) (K t L r h bc bs)
      | .lt => mBr (x < 0) (K t L r h bc bs) (K nx L r h bc bs)
      | .ge => mBr (0 ≤ x) (K t L r h bc bs) (K nx L r h bc bs)
      | .gt => mBr (0 < x) (K t L r h bc bs) (K nx L r h bc bs)
      | .le => mBr (x ≤ 0) (K t L r h bc bs) (K nx L r h bc bs))
    | _, _ => False
  | .if_icmp c _ => match st, tg with
    | .inl y :: .inl x :: r, [t] => mVc (rI x ∧ rI y) (match c with
      | .eq => mBr (x = y) (K t L r h bc bs) (K nx L r h bc bs)
      | .ne => mBr (x = y) (K nx L r h bc bs) (K t L r h bc bs)
      | .lt => mBr (x < y) (K t L r h bc bs) (K nx L r h bc bs)
      | .ge => mBr (y ≤ x) (K t L r h bc bs) (K nx L r h bc bs)
      | .gt => mBr (y < x) (K t L r h bc bs) (K nx L r h bc bs)
      | .le => mBr (x ≤ y) (K t L r h bc bs) (K nx L r h bc bs))
    | _, _ => False
  | .goto _ => match tg with
    | [t] => K t L st h bc bs
    | _ => False
  | .ifnonnull _ => match st, tg with
    | .inr (.inr (some _)) :: r, [t] => K t L r h bc bs
    | .inr (.inr none) :: r, [_] => K nx L r h bc bs
    | _, _ => False
  | .tableswitch _ lo hi _ => match st, tg with
    | .inl x :: r, t :: ts => mVc (rI x) (((x < lo ∨ hi < x) → K t L r h bc bs) ∧ zSwIn x lo ts (fun t => K t L r h bc bs))
    | _, _ => False
  | .lookupswitch _ ps => match st, tg with
    | .inl x :: r, t :: ts => mVc (rI x) (zSwL x ps.toList ts (K t L r h bc bs) (fun t => K t L r h bc bs))
    | _, _ => False
  | .getfield i => match st with
    | .inr (.inr (some k)) :: r => match mLk (mFt M.2.2.2.2.2.1) i with
      | some (ci, j, _) => match h[k]? with
        | some (.inr (ci2, fs)) => bif Nat.beq ci ci2 then (match fs[j]? with
          | some v => K nx L (v :: r) h bc bs
          | none => False) else False
        | _ => False
      | none => False
    | _ => False
  | .putfield i => match st with
    | v :: .inr (.inr (some k)) :: r => match mLk (mFt M.2.2.2.2.2.1) i with
      | some (ci, j, nest) => match h[k]? with
        | some (.inr (ci2, fs)) => bif Nat.beq ci ci2 && Nat.blt j fs.length && zFit (mTy ci j) v && mFin M ci j nest then K nx L r (h.set k (.inr (ci, fs.set j v))) bc bs else False
        | _ => False
      | none => False
    | _ => False
  | .iaload => match st with
    | .inl i :: .inr (.inr (some k)) :: r => bif Nat.blt k mSB then (match h[k]? with
      | some (.inl (0, n, .inl f)) => bif Nat.ble n 100000 then mVc (0 ≤ i ∧ i < n) (K nx L (.inl (f i.toNat) :: r) h bc bs) else False
      | _ => False) else (bif Nat.beq k (mSB + 500) then mVc (0 ≤ i ∧ i < X.2.2.2.2.2.1 ∧ X.2.2.2.2.2.1 ≤ 100000) (K nx L (.inl (X.2.2.2.2.2.2 i.toNat).toInt :: r) h bc bs) else False)
    | _ => False
  | .laload => match st with
    | .inl i :: .inr (.inr (some k)) :: r => match h[k]? with
      | some (.inl (1, n, .inl f)) => bif Nat.ble n 100000 then mVc (0 ≤ i ∧ i < n) (K nx L (.inr (.inl (f i.toNat)) :: r) h bc bs) else False
      | _ => False
    | _ => False
  | .baload => match st with
    | .inl i :: .inr (.inr (some k)) :: r => match h[k]? with
      | some (.inl (2, n, .inl f)) => bif Nat.ble n 100000 then mVc (0 ≤ i ∧ i < n) (K nx L (.inl (f i.toNat) :: r) h bc bs) else False
      | some (.inl (3, n, .inl f)) => bif Nat.ble n 100000 then mVc (0 ≤ i ∧ i < n) (K nx L (.inl (f i.toNat) :: r) h bc bs) else False
      | _ => False
    | _ => False
  | .aaload => match st with
    | .inl i :: .inr (.inr (some k)) :: r => match h[k]? with
      | some (.inl (4, n, .inr f)) => bif Nat.ble n 100000 then mVc (0 ≤ i ∧ i < n) (K nx L (.inr (.inr (f i.toNat)) :: r) h bc bs) else False
      | some (.inl (5, n, .inr f)) => bif Nat.ble n 100000 then mVc (0 ≤ i ∧ i < n) (K nx L (.inr (.inr (f i.toNat)) :: r) h bc bs) else False
      | _ => False
    | _ => False
  | .arraylength => match st with
    | .inr (.inr (some k)) :: r => bif Nat.blt k mSB then (match h[k]? with
      | some (.inl (t, n, _)) => bif Nat.blt t 6 then K nx L (.inl (n : Int) :: r) h bc bs else False
      | _ => False) else (bif Nat.beq k (mSB + 500) then K nx L (.inl (X.2.2.2.2.2.1 : Int) :: r) h bc bs else False)
    | _ => False
  | .iastore => match st with
    | .inl x :: .inl i :: .inr (.inr (some k)) :: r => match h[k]? with
      | some (.inl (0, n, .inl f)) => bif Nat.ble n 100000 then mVc (0 ≤ i ∧ i < n) (K nx L r (h.set k (.inl (0, n, .inl (va_up f i.toNat x)))) bc bs) else False
      | _ => False
    | _ => False
  | .lastore => match st with
    | .inr (.inl x) :: .inl i :: .inr (.inr (some k)) :: r => match h[k]? with
      | some (.inl (1, n, .inl f)) => bif Nat.ble n 100000 then mVc (0 ≤ i ∧ i < n) (K nx L r (h.set k (.inl (1, n, .inl (va_up f i.toNat x)))) bc bs) else False
      | _ => False
    | _ => False
  | .bastore => match st with
    | .inl x :: .inl i :: .inr (.inr (some k)) :: r => match h[k]? with
      | some (.inl (2, n, .inl f)) => bif Nat.ble n 100000 then mVc (0 ≤ i ∧ i < n) (K nx L r (h.set k (.inl (2, n, .inl (va_up f i.toNat (x.bmod 256))))) bc bs) else False
      | some (.inl (3, n, .inl f)) => bif Nat.ble n 100000 then mVc (0 ≤ i ∧ i < n ∧ (x = 0 ∨ x = 1)) (K nx L r (h.set k (.inl (3, n, .inl (va_up f i.toNat x)))) bc bs) else False
      | _ => False
    | _ => False
  | .ireturn => match st, M.2.2.2.1 with
    | [.inl x], some .int => Q (.inl (some (.inl x))) h
    | [.inl x], some .boolean => mVc (x = 0 ∨ x = 1) (Q (.inl (some (.inl x))) h)
    | _, _ => False
  | .lreturn => match st, M.2.2.2.1 with
    | [.inr (.inl x)], some .long => Q (.inl (some (.inr (.inl x)))) h
    | _, _ => False
  | .areturn => match st, M.2.2.2.1 with
    | [.inr (.inr (some x))], some (.object _) => Q (.inl (some (.inr (.inr (some x))))) h
    | _, _ => False
  | .return_ => match st, M.2.2.2.1 with
    | [], none => Q (.inl none) h
    | _, _ => False
  | .new i => match mLk (mXt M.2.2.2.2.2.1) i with
    | some (n, ic) => match mLk tb (pc + 3), mLk tb (pc + 4) with
      | some (.dup, _, _), some (.ldc is, n1, _) => match mLk tb n1, mLk (mSt 9) is with
        | some (.invokespecial ic2, n2, _), some _ => match mLk tb n2 with
          | some (.athrow, _, _) => bif Nat.beq ic ic2 && Nat.beq M.2.2.2.2.2.1 9 && Nat.ble 1 bc && Nat.ble 6 bs && Nat.ble (zCs st) 8 && M.2.2.2.2.1.isEmpty then Q (.inr n) h else False
          | _ => False
        | _, _ => False
      | some (.dup, _, _), some (.ldc_w is, n1, _) => match mLk tb n1, mLk (mSt 9) is with
        | some (.invokespecial ic2, n2, _), some _ => match mLk tb n2 with
          | some (.athrow, _, _) => bif Nat.beq ic ic2 && Nat.beq M.2.2.2.2.2.1 9 && Nat.ble 1 bc && Nat.ble 6 bs && Nat.ble (zCs st) 8 && M.2.2.2.2.1.isEmpty then Q (.inr n) h else False
          | _ => False
        | _, _ => False
      | _, _ => False
    | none => match mLk (mCt M.2.2.2.2.2.1) i with
      | some ci => match vwCl[ci]? with
        | some r => bif Nat.ble 1 bc && Nat.ble r.2.2 bs then mVc (mStab (h.map zC) (zL L) (st.map zT) ∧ h.length < mSB) (K nx L (.inr (.inr (some h.length)) :: st) (h ++ [.inr (ci, zDf ci r.2.2)]) (bc - 1) (bs - r.2.2)) else False
        | none => False
      | none => False
  | .newarray a => match st, mAt a with
    | .inl n :: r, some (t, _) => bif Nat.ble 1 bc then mVc (0 ≤ n ∧ n ≤ 100000 ∧ n.toNat ≤ bs ∧ mStab (h.map zC) (zL L) (r.map zT) ∧ h.length < mSB) (K nx L (.inr (.inr (some h.length)) :: r) (h ++ [.inl (t, n.toNat, .inl (fun _ => 0))]) (bc - 1) (bs - n.toNat)) else False
    | _, _ => False
  | .anewarray i => match st, mLk (mCt M.2.2.2.2.2.1) i with
    | .inl n :: r, some 7 => bif Nat.ble 1 bc then mVc (0 ≤ n ∧ n ≤ 100000 ∧ n.toNat ≤ bs ∧ mStab (h.map zC) (zL L) (r.map zT) ∧ h.length < mSB) (K nx L (.inr (.inr (some h.length)) :: r) (h ++ [.inl (4, n.toNat, .inr (fun _ => none))]) (bc - 1) (bs - n.toNat)) else False
    | .inl n :: r, some 2 => bif Nat.ble 1 bc then mVc (0 ≤ n ∧ n ≤ 100000 ∧ n.toNat ≤ bs ∧ mStab (h.map zC) (zL L) (r.map zT) ∧ h.length < mSB) (K nx L (.inr (.inr (some h.length)) :: r) (h ++ [.inl (5, n.toNat, .inr (fun _ => none))]) (bc - 1) (bs - n.toNat)) else False
    | _, _ => False
  | .aastore => match st with
    | .inr (.inr (some kv)) :: .inl i :: .inr (.inr (some k)) :: r => match h[k]?, h[kv]? with
      | some (.inl (4, n, .inr f)), some (.inr (7, _)) => bif Nat.ble n 100000 then mVc (0 ≤ i ∧ i < n) (K nx L r (h.set k (.inl (4, n, .inr (va_up f i.toNat (some kv))))) bc bs) else False
      | some (.inl (5, n, .inr f)), some (.inr (2, _)) => bif Nat.ble n 100000 then mVc (0 ≤ i ∧ i < n) (K nx L r (h.set k (.inl (5, n, .inr (va_up f i.toNat (some kv))))) bc bs) else False
      | _, _ => False
    | _ => False
  | .invokevirtual i => match mLk (mMt M.2.2.2.2.2.1) i with
    | some (kd, n, M2) => zPop n st [] (fun as r => match r with
      | .inr (.inr (some k)) :: rest => match h[k]? with
        | some (.inr (ci, _)) => bif Nat.beq ci M2.2.2.2.2.2.1 then (match kd with
          | 0 => zInv X M d Q tb K pc nx L h bc bs 0 M2 (.inr (.inr (some k)) :: as) rest
          | 1 => zInv X M d Q tb K pc nx L h bc bs 1 M2 (.inr (.inr (some k)) :: as) rest
          | _ => False) else False
        | _ => False
      | _ => False)
    | none => False
  | .invokestatic i => match mLk (mMt M.2.2.2.2.2.1) i with
    | some (kd, n, M2) => match kd with
      | 2 => zPop n st [] (fun as rest => zInv X M d Q tb K pc nx L h bc bs 2 M2 as rest)
      | 3 => zPop n st [] (fun as rest => zInv X M d Q tb K pc nx L h bc bs 3 M2 as rest)
      | 8 => zPop n st [] (fun as rest => zInv X M d Q tb K pc nx L h bc bs 8 M2 as rest)
      | 7 => match st with
        | .inl n :: .inl dp :: .inr (.inr (some k1)) :: .inl sp :: .inr (.inr (some k0)) :: r => match h[k0]?, h[k1]? with
          | some (.inl (0, m0, .inl f)), some (.inl (0, m1, .inl g)) => bif Nat.ble (zCs r) 8 && Nat.ble m0 100000 && Nat.ble m1 100000 then mVc (0 ≤ sp ∧ 0 ≤ dp ∧ 0 ≤ n ∧ sp + n ≤ m0 ∧ dp + n ≤ m1) (K nx L r (h.set k1 (.inl (0, m1, .inl (va_cpy f g sp.toNat dp.toNat n.toNat)))) bc bs) else False
          | _, _ => False
        | _ => False
      | 10 => match st with
        | .inl y :: .inl x :: r => bif Nat.ble (zCs r) 8 then mVc (rI x ∧ rI y) (K nx L (.inl (min x y) :: r) h bc bs) else False
        | _ => False
      | 11 => match st with
        | .inl y :: .inl x :: r => bif Nat.ble (zCs r) 8 then mVc (rI x ∧ rI y) (K nx L (.inl (max x y) :: r) h bc bs) else False
        | _ => False
      | 12 => match st with
        | .inl x :: r => bif Nat.ble (zCs r) 8 then mVc (rI x) (K nx L (.inl (max x (-x)) :: r) h bc bs) else False
        | _ => False
      | 13 => match st with
        | .inr (.inl y) :: .inr (.inl x) :: r => bif Nat.ble (zCs r) 8 then mVc (rL x ∧ rL y) (K nx L (.inr (.inl (max x y)) :: r) h bc bs) else False
        | _ => False
      | _ => False
    | none => False
  | .invokespecial i => match mLk (mMt M.2.2.2.2.2.1) i with
    | some (kd, n, M2) => match kd with
      | 4 => zPop n st [] (fun as r => match r with
        | .inr (.inr (some k)) :: rest => zInv X M d Q tb K pc nx L h bc bs 4 M2 (.inr (.inr (some k)) :: as) rest
        | _ => False)
      | 5 => zPop n st [] (fun as r => match r with
        | .inr (.inr (some k)) :: rest => zInv X M d Q tb K pc nx L h bc bs 5 M2 (.inr (.inr (some k)) :: as) rest
        | _ => False)
      | 6 => match st with
        | .inr (.inr (some _)) :: r => bif Nat.ble (zCs r) 8 then K nx L r h bc bs else False
        | _ => False
      | _ => False
    | none => False
  | _ => False
def zRun (X : mX) (M : mM) (d : Nat) (Q : zO → zH → Prop) (tb : mTb) (cuts : List Nat) : Nat → zK
  | 0, pc, L, st, h, bc, bs => zWP X M d Q pc L st h bc bs
  | f + 1, pc, L, st, h, bc, bs => match mLk tb pc with
    | some (i, nx, tg) => zOp X M d Q tb (fun pc L st h bc bs => bif cuts.elem pc then zWP X M d Q pc L st h bc bs else zRun X M d Q tb cuts f pc L st h bc bs) i nx tg pc L st h bc bs
    | none => False
end
section
/-! the computation over whole numbers is sound -/
theorem zS1_eq : ∀ (L : List (Option zV)) (j : Nat) (v : zV) (k : List (Option zV) → Prop), zS1 L j v k = k (zSt1 L j v)
  | [], j, v, k => by
    cases j <;> rfl
  | a :: r, 0, v, k => rfl
  | a :: r, j + 1, v, k => by
    simp only [zS1]
    split
    · rw [zS1_eq]
      rfl
    · rename_i hno
      rw [zS1_eq]
      congr 1
      cases j with
      | zero =>
        match a, hno with
        | none, _ => rfl
        | some (.inl z), _ => rfl
        | some (.inr (.inr z)), _ => rfl
        | some (.inr (.inl z)), hno => exact (hno z rfl rfl).elim
      | succ i =>
        simp only [zSt1, zKill, List.getElem?_cons_succ]
        split <;> rfl
theorem zS2_eq : ∀ (L : List (Option zV)) (j : Nat) (v : zV) (k : List (Option zV) → Prop), zS2 L j v k = k (zSt2 L j v)
  | [], j, v, k => by
    cases j <;> rfl
  | a :: r, 0, v, k => by
    cases r <;> rfl
  | a :: r, j + 1, v, k => by
    simp only [zS2]
    split
    · rw [zS2_eq]
      rfl
    · rename_i hno
      rw [zS2_eq]
      congr 1
      cases j with
      | zero =>
        match a, hno with
        | none, _ => rfl
        | some (.inl z), _ => rfl
        | some (.inr (.inr z)), _ => rfl
        | some (.inr (.inl z)), hno => exact (hno z rfl rfl).elim
      | succ i =>
        simp only [zSt2, zKill, List.getElem?_cons_succ]
        split <;> rfl
theorem zKl_ok : ∀ oc : Fin 17, ∀ q ∈ zKl oc, Cond.constantLong (mNm oc) q.1 (Int64.ofInt q.2) ∈ lw_tbl := by decide +kernel
theorem zCs_eq (st : List zV) : ((st.map zT).map fun v => v.category).sum = zCs st := by
  induction st with
  | nil => rfl
  | cons v r ih =>
    match v with
    | .inl z => simp [zCs, zT, Value.category, ← ih]
    | .inr (.inl z) => simp [zCs, zT, Value.category, ← ih]
    | .inr (.inr none) => simp [zCs, zT, Value.category, ← ih]
    | .inr (.inr (some k)) => simp [zCs, zT, Value.category, ← ih]
theorem zWfV_eq (h : zH) (v : zV) : mWfV (h.map zC) (zT v) = zWfV h v := by
  match v with
  | .inl z => rfl
  | .inr (.inl z) => rfl
  | .inr (.inr none) => rfl
  | .inr (.inr (some k)) => simp [mWfV, zWfV, zT]
theorem zWfS_eq (h : zH) (L : List (Option zV)) (st : List zV) : mWfS (h.map zC) (zL L) (st.map zT) = zWfS h L st := by
  simp only [mWfS, zWfS, zL, List.all_map]
  congr 1
  · congr 1
    funext o
    cases o with
    | none => rfl
    | some v => exact zWfV_eq h v
  · congr 1
    funext v
    exact zWfV_eq h v
theorem zFit_ok {ty : FieldType} {v : zV} (h : zFit ty v = true) : mFit ty (zT v) = true := by
  match ty, v, h with
  | .int, .inl z, _ => rfl
  | .boolean, .inl z, h =>
    have h1 : z = 0 ∨ z = 1 := of_decide_eq_true h
    rcases h1 with rfl | rfl <;> decide
  | .object _, .inr (.inr none), _ => rfl
  | .object _, .inr (.inr (some k)), _ => rfl
  | .array _, .inr (.inr none), _ => rfl
  | .array _, .inr (.inr (some k)), _ => rfl
theorem zDf_eq {ci : Nat} {r : vw_C} (hr : vwCl[ci]? = some r) : (zDf ci r.2.2).map zT = mDf ci r.2.2 := by
  match ci, hr with
  | 0, hr => cases hr; rfl
  | 1, hr => cases hr; rfl
  | 2, hr => cases hr; rfl
  | 3, hr => cases hr; rfl
  | 4, hr => cases hr; rfl
  | 5, hr => cases hr; rfl
  | 6, hr => cases hr; rfl
  | 7, hr => cases hr; rfl
  | 8, hr => cases hr; rfl
  | 9, hr => cases hr; rfl
  | 10, hr => cases hr; rfl
  | k + 11, hr => simp [vwCl] at hr
theorem zA_z (t : Nat) : zA t (.inl (fun _ => 0)) = if t = 1 then .inr (.inl (fun _ => 0)) else .inl (fun _ => 0) := rfl
theorem zT_rf (x : Option Nat) : zT (.inr (.inr x)) = va_rf x := by cases x <;> rfl
theorem zL_le {a b : Int} (ha : rL a) (hb : rL b) : Int64.ofInt a ≤ Int64.ofInt b ↔ a ≤ b := by rw [Int64.le_iff_toInt_le, rL_to ha, rL_to hb]
theorem zUp32 (f : Nat → Int) (k : Nat) (x : Int) : upd (fun i => Int32.ofInt (f i)) k (Int32.ofInt x) = fun i => Int32.ofInt (va_up f k x i) := by
  funext j
  simp only [upd, va_up]
  split <;> rfl
theorem zUp64 (f : Nat → Int) (k : Nat) (x : Int) : vp_updL (fun i => Int64.ofInt (f i)) k (Int64.ofInt x) = fun i => Int64.ofInt (va_up f k x i) := by
  funext j
  simp only [vp_updL, va_up]
  split <;> rfl
theorem zCpy (f g : Nat → Int) (a b n : Nat) : va_cpy (fun i => Int32.ofInt (f i)) (fun i => Int32.ofInt (g i)) a b n = fun i => Int32.ofInt (va_cpy f g a b n i) := by
  funext j
  simp only [va_cpy]
  split <;> rfl
theorem zB8 (x : Int) : (Int32.ofInt x).toInt8.toInt32 = Int32.ofInt (x.bmod 256) := by
  apply Int32.toInt_inj.mp
  have h1 : -128 ≤ x.bmod 256 := by have := Int.le_bmod (x := x) (m := 256) (by decide); omega
  have h2 : x.bmod 256 < 128 := by have := Int.bmod_lt (x := x) (m := 256) (by decide); omega
  rw [Int8.toInt_toInt32, Int32.toInt_ofInt_of_le (by omega) (by omega), Int32.toInt_toInt8, Int32.toInt_ofInt]
  exact Int.bmod_bmod_of_dvd ⟨16777216, by decide⟩
theorem zB16 (x : Int) : (Int32.ofInt x).toInt16.toInt32 = Int32.ofInt (x.bmod 65536) := by
  apply Int32.toInt_inj.mp
  have h1 : -32768 ≤ x.bmod 65536 := by have := Int.le_bmod (x := x) (m := 65536) (by decide); omega
  have h2 : x.bmod 65536 < 32768 := by have := Int.bmod_lt (x := x) (m := 65536) (by decide); omega
  rw [Int16.toInt_toInt32, Int32.toInt_ofInt_of_le (by omega) (by omega), Int32.toInt_toInt16, Int32.toInt_ofInt]
  exact Int.bmod_bmod_of_dvd ⟨65536, by decide⟩
theorem zL2I (x : Int) : (Int64.ofInt x).toInt32 = Int32.ofInt x := by
  apply Int32.toInt_inj.mp
  rw [Int64.toInt_toInt32, Int64.toInt_ofInt, Int32.toInt_ofInt]
  exact Int.bmod_bmod_of_dvd ⟨4294967296, by decide⟩
theorem zI2L {x : Int} (h : rI x) : (Int32.ofInt x).toInt64 = Int64.ofInt x := by
  apply Int64.toInt_inj.mp
  rw [Int32.toInt_toInt64, rI_to h, rL_to ⟨by have := h.1; omega, by have := h.2; omega⟩]
theorem zDiv {x y : Int} (hx : 0 ≤ x) (rx : rI x) (hy : 0 < y) (ry : rI y) : Int32.ofInt x / Int32.ofInt y = Int32.ofInt (x / y) ∧ ¬ Int32.ofInt y = 0 := by
  constructor
  · apply Int32.toInt_inj.mp
    have h1 : 0 ≤ x / y := Int.ediv_nonneg hx (by omega)
    have h2 : x / y ≤ x := Int.ediv_le_self _ hx
    have rx2 := rx.2
    rw [Int32.toInt_div_of_ne_left _ _ (by intro e; have e2 := congrArg Int32.toInt e; rw [rI_to rx] at e2; have : (Int32.minValue).toInt = -2147483648 := by decide
                                           omega), rI_to rx, rI_to ry, rI_to ⟨by omega, by omega⟩]
    exact Int.tdiv_eq_ediv_of_nonneg hx
  · intro e
    have e2 : Int32.ofInt y = Int32.ofInt 0 := e
    rw [zI_eq ry rI_0] at e2
    omega
theorem zDivL {x y : Int} (hx : 0 ≤ x) (rx : rL x) (hy : 0 < y) (ry : rL y) : Int64.ofInt x / Int64.ofInt y = Int64.ofInt (x / y) ∧ ¬ Int64.ofInt y = 0 := by
  constructor
  · apply Int64.toInt_inj.mp
    have h1 : 0 ≤ x / y := Int.ediv_nonneg hx (by omega)
    have h2 : x / y ≤ x := Int.ediv_le_self _ hx
    have rx2 := rx.2
    rw [Int64.toInt_div_of_ne_left _ _ (by intro e; have e2 := congrArg Int64.toInt e; rw [rL_to rx] at e2; have : (Int64.minValue).toInt = -9223372036854775808 := by decide
                                           omega), rL_to rx, rL_to ry, rL_to ⟨by omega, by omega⟩]
    exact Int.tdiv_eq_ediv_of_nonneg hx
  · intro e
    have e2 : Int64.ofInt y = Int64.ofInt 0 := e
    rw [zL_eq ry ⟨by omega, by omega⟩] at e2
    omega
theorem zRem {x y : Int} (hx : 0 ≤ x) (rx : rI x) (hy : 0 < y) (ry : rI y) : Int32.ofInt x - Int32.ofInt x / Int32.ofInt y * Int32.ofInt y = Int32.ofInt (x % y) := by
  rw [(zDiv hx rx hy ry).1, ← Int32.ofInt_mul, ← Int32.ofInt_sub]
  congr 1
  rw [Int.emod_def, Int.mul_comm]
theorem zRemL {x y : Int} (hx : 0 ≤ x) (rx : rL x) (hy : 0 < y) (ry : rL y) : Int64.ofInt x - Int64.ofInt x / Int64.ofInt y * Int64.ofInt y = Int64.ofInt (x % y) := by
  rw [(zDivL hx rx hy ry).1, ← Int64.ofInt_mul, ← Int64.ofInt_sub]
  congr 1
  rw [Int.emod_def, Int.mul_comm]
theorem zMin {x y : Int} (hx : rI x) (hy : rI y) : (if Int32.ofInt y < Int32.ofInt x then Int32.ofInt y else Int32.ofInt x) = Int32.ofInt (min x y) := by
  simp only [zI_lt hy hx]
  split <;> congr 1 <;> omega
theorem zMax {x y : Int} (hx : rI x) (hy : rI y) : (if Int32.ofInt x < Int32.ofInt y then Int32.ofInt y else Int32.ofInt x) = Int32.ofInt (max x y) := by
  simp only [zI_lt hx hy]
  split <;> congr 1 <;> omega
theorem zAbs {x : Int} (hx : rI x) : (if 0 ≤ Int32.ofInt x then Int32.ofInt x else 0 - Int32.ofInt x) = Int32.ofInt (max x (-x)) := by
  have e : (0 : Int32) = Int32.ofInt 0 := rfl
  rw [e, ← Int32.ofInt_sub]
  simp only [zI_le rI_0 hx]
  split <;> congr 1 <;> omega
theorem zMaxL {x y : Int} (hx : rL x) (hy : rL y) : (if Int64.ofInt y < Int64.ofInt x then Int64.ofInt x else Int64.ofInt y) = Int64.ofInt (max x y) := by
  simp only [zL_lt hy hx]
  split <;> congr 1 <;> omega
theorem zNarB (x : Int) : vp_nar .byte (Int32.ofInt x) = Int32.ofInt (x.bmod 256) := by rw [vp_nar_byte, zB8]
theorem zNarZ {x : Int} (h : x = 0 ∨ x = 1) : vp_nar .boolean (Int32.ofInt x) = Int32.ofInt x ∧ narrow .boolean (.int (Int32.ofInt x)) = .int (Int32.ofInt x) := by
  rcases h with rfl | rfl <;> exact ⟨by decide, by decide⟩
section zSn
variable {X : mX} {M : mM} {d : Nat} {Q : zO → zH → Prop} {pc : Nat} {L : List (Option zV)} {st : List zV} {h : zH} {bc bs : Nat}
theorem zSwIn_spec {x : Int} {k : Nat → Prop} : ∀ {ts : List Nat} {lo : Int}, zSwIn x lo ts k → ∀ (j t : Nat), ts[j]? = some t → x = lo + j → k t
  | [], lo, _, j, t, ht, _ => by simp at ht
  | t0 :: ts, lo, h, 0, t, ht, hx => by
    cases ht
    exact h.1 (by simpa using hx)
  | t0 :: ts, lo, h, j + 1, t, ht, hx => zSwIn_spec h.2 j t (by simpa using ht) (by rw [hx]; omega)
theorem zSwL_spec {x : Int} {k : Nat → Prop} {kd : Prop} {pc : Nat} {df : Int} {td : Nat} (hd : (pc : Int) + df = (td : Int)) : ∀ {ps : List (Int × Int)} {ts : List Nat}, ts.map (fun t : Nat => (t : Int)) = ps.map (fun x => (pc : Int) + x.2) → zSwL x ps ts kd k → ∃ t : Nat, (pc : Int) + Op.lookupswitch.offset ps df x = (t : Int) ∧ ((t = td ∧ kd) ∨ k t)
  | [], [], _, h => ⟨td, by simpa [Op.lookupswitch.offset] using hd, Or.inl ⟨rfl, h⟩⟩
  | [], _ :: _, e, _ => by simp at e
  | _ :: _, [], e, _ => by simp at e
  | p :: ps, t :: ts, e, h => by
    simp only [List.map_cons, List.cons.injEq] at e
    by_cases hx : x = p.1
    · exact ⟨t, by simp only [Op.lookupswitch.offset, hx]; simpa using e.1.symm, Or.inr (h.1 hx)⟩
    · obtain ⟨t2, h1, h2⟩ := zSwL_spec hd e.2 (h.2 hx)
      refine ⟨t2, ?_, h2⟩
      rw [← h1]
      simp only [Op.lookupswitch.offset]
      simp [hx, Ne.symm hx]
theorem zPop_spec {k : List zV → List zV → Prop} : ∀ {n : Nat} {st acc : List zV}, zPop n st acc k → ∃ as rest, st = as.reverse ++ rest ∧ as.length = n ∧ k (as ++ acc) rest
  | 0, st, acc, h => ⟨[], st, rfl, rfl, h⟩
  | n + 1, [], acc, h => h.elim
  | n + 1, v :: st, acc, h => by
    obtain ⟨as, rest, h1, h2, h3⟩ := zPop_spec (n := n) h
    exact ⟨as ++ [v], rest, by simp [h1], by simp [h2], by simpa using h3⟩
theorem zInv_spec {tb : mTb} {K : zK} {nx kd : Nat} {M2 : mM} {as rest : List zV} (hk : ∀ pc L st h bc bs, K pc L st h bc bs → zWP X M d Q pc L st h bc bs) (hs : zInv X M d Q tb K pc nx L h bc bs kd M2 as rest) : ((rest.map zT).map fun v => v.category).sum ≤ 8 ∧ M2.2.2.2.2.2.2.1 ≤ bc ∧ M2.2.2.2.2.2.2.2 ≤ bs ∧ mWfS (h.map zC) (zL L) (rest.map zT) = true ∧ ∃ (d2 : Nat) (Q2 : zO → zH → Prop), d2 < d ∧ mEv X d2 M2 (as.map zT) (h.map zC) (zQ Q2) ∧ (∀ (r : Option Value) (h1 : mH), zQ Q2 (.inl r) h1 → mWP X M d (zQ Q) nx (zL L) (r.toList ++ rest.map zT) h1 (bc - M2.2.2.2.2.2.2.1) (bs - M2.2.2.2.2.2.2.2)) ∧ ∀ (E : Nat) (h1 : mH), zQ Q2 (.inr E) h1 → ∃ h2 : zH, h1 = h2.map zC ∧ zXc M Q tb pc kd E h2 := by
  replace hs := mCond hs
  obtain ⟨hb, hs⟩ := hs
  simp only [Bool.and_eq_true] at hb
  obtain ⟨⟨⟨b1, b2⟩, b3⟩, b4⟩ := hb
  obtain ⟨d2, Q2, h1, h2, h3⟩ := hs
  refine ⟨by rw [zCs_eq]; exact Nat.le_of_ble_eq_true b1, Nat.le_of_ble_eq_true b2, Nat.le_of_ble_eq_true b3, by rw [zWfS_eq]; exact b4, d2, Q2, h1, h2, fun r h4 hq => ?_, fun E h4 hq => ?_⟩
  · obtain ⟨o2, h5, e1, e2, e3⟩ := hq
    match o2, e1, e3 with
    | .inr n, e1, _ => cases e1
    | .inl none, e1, e3 =>
      cases e1
      subst e2
      exact hk _ _ _ _ _ _ (h3 (.inl none) h5 e3)
    | .inl (some v), e1, e3 =>
      cases e1
      subst e2
      exact hk _ _ _ _ _ _ (h3 (.inl (some v)) h5 e3)
  · obtain ⟨o2, h5, e1, e2, e3⟩ := hq
    match o2, e1, e3 with
    | .inr n, e1, e3 =>
      cases e1
      exact ⟨h5, e2, h3 (.inr _) h5 e3⟩
    | .inl r, e1, _ => cases e1
set_option maxHeartbeats 4000000 in
theorem zOp_sound {tb : mTb} {K : zK} {i : Instr} {nx : Nat} {tg : List Nat} (hM : mOkM M) (hns : mNoSt M tb) (hok : ∀ q ∈ tb, mTbOk M.2.1 q = true) (hlk : mLk tb pc = some (i, nx, tg)) (hk : ∀ pc L st h bc bs, K pc L st h bc bs → zWP X M d Q pc L st h bc bs) (hs : zOp X M d Q tb K i nx tg pc L st h bc bs) : zWP X M d Q pc L st h bc bs := by
  obtain ⟨hoc, hn, hrt0⟩ := hM
  have hLw : ∀ h0 hr0, M.2.2.2.2.1 = h0 :: hr0 → M.1.cls = RL := fun h0 hr0 e => by
    rcases hrt0 with q | q
    · rw [q] at e; cases e
    · exact q.1
  have hrw : ∀ h0 hr0, M.2.2.2.2.1 = h0 :: hr0 → M.2.2.2.1 = some .int := fun h0 hr0 e => by
    rcases hrt0 with q | q
    · rw [q] at e; cases e
    · exact q.2
  have hok1 := hok _ (mLk_mem hlk)
  simp only [mTbOk, Bool.and_eq_true, decide_eq_true_eq] at hok1
  obtain ⟨⟨-, hd⟩, hg⟩ := hok1
  have hQr : ∀ {r : Option zV}, Q (.inl r) h → zQ Q (.inl (r.map zT)) (h.map zC) := fun q => ⟨_, _, rfl, rfl, q⟩
  cases i with
  | ifCond cd off =>
      simp only [zOp] at hs
      simp only [mTg] at hg
      split at hs
      · simp only [Bool.and_eq_true, decide_eq_true_eq] at hg
        obtain ⟨rfl, hg⟩ := hg
        have hd := mDl hd rfl
        obtain ⟨rx, hs⟩ := hs
        split at hs
        · exact wp_if_eq hd hg (fun q => hk _ _ _ _ _ _ (hs.1 ((zI_eq rx rI_0).mp q))) (fun q => hk _ _ _ _ _ _ (hs.2 (fun z => q ((zI_eq rx rI_0).mpr z))))
        · exact wp_if_ne hd hg (fun q => hk _ _ _ _ _ _ (hs.2 (fun z => q ((zI_eq rx rI_0).mpr z)))) (fun q => hk _ _ _ _ _ _ (hs.1 ((zI_eq rx rI_0).mp q)))
        · exact wp_if_lt hd hg (fun q => hk _ _ _ _ _ _ (hs.1 ((zI_lt rx rI_0).mp q))) (fun q => hk _ _ _ _ _ _ (hs.2 (fun z => q ((zI_lt rx rI_0).mpr z))))
        · exact wp_if_ge hd hg (fun q => hk _ _ _ _ _ _ (hs.1 ((zI_le rI_0 rx).mp q))) (fun q => hk _ _ _ _ _ _ (hs.2 (fun z => q ((zI_le rI_0 rx).mpr z))))
        · exact wp_if_gt hd hg (fun q => hk _ _ _ _ _ _ (hs.1 ((zI_lt rI_0 rx).mp q))) (fun q => hk _ _ _ _ _ _ (hs.2 (fun z => q ((zI_lt rI_0 rx).mpr z))))
        · exact wp_if_le hd hg (fun q => hk _ _ _ _ _ _ (hs.1 ((zI_le rx rI_0).mp q))) (fun q => hk _ _ _ _ _ _ (hs.2 (fun z => q ((zI_le rx rI_0).mpr z))))
      · exact hs.elim
  | if_icmp cd off =>
      simp only [zOp] at hs
      simp only [mTg] at hg
      split at hs
      · simp only [Bool.and_eq_true, decide_eq_true_eq] at hg
        obtain ⟨rfl, hg⟩ := hg
        have hd := mDl hd rfl
        obtain ⟨rx, hs⟩ := hs
        split at hs
        · exact wp_icmp_eq hd hg (fun q => hk _ _ _ _ _ _ (hs.1 ((zI_eq rx.1 rx.2).mp q))) (fun q => hk _ _ _ _ _ _ (hs.2 (fun z => q ((zI_eq rx.1 rx.2).mpr z))))
        · exact wp_icmp_ne hd hg (fun q => hk _ _ _ _ _ _ (hs.2 (fun z => q ((zI_eq rx.1 rx.2).mpr z)))) (fun q => hk _ _ _ _ _ _ (hs.1 ((zI_eq rx.1 rx.2).mp q)))
        · exact wp_icmp_lt hd hg (fun q => hk _ _ _ _ _ _ (hs.1 ((zI_lt rx.1 rx.2).mp q))) (fun q => hk _ _ _ _ _ _ (hs.2 (fun z => q ((zI_lt rx.1 rx.2).mpr z))))
        · exact wp_icmp_ge hd hg (fun q => hk _ _ _ _ _ _ (hs.1 ((zI_le rx.2 rx.1).mp q))) (fun q => hk _ _ _ _ _ _ (hs.2 (fun z => q ((zI_le rx.2 rx.1).mpr z))))
        · exact wp_icmp_gt hd hg (fun q => hk _ _ _ _ _ _ (hs.1 ((zI_lt rx.2 rx.1).mp q))) (fun q => hk _ _ _ _ _ _ (hs.2 (fun z => q ((zI_lt rx.2 rx.1).mpr z))))
        · exact wp_icmp_le hd hg (fun q => hk _ _ _ _ _ _ (hs.1 ((zI_le rx.1 rx.2).mp q))) (fun q => hk _ _ _ _ _ _ (hs.2 (fun z => q ((zI_le rx.1 rx.2).mpr z))))
      · exact hs.elim
  | goto off =>
      simp only [zOp] at hs
      simp only [mTg] at hg
      split at hs
      · simp only [Bool.and_eq_true, decide_eq_true_eq] at hg
        obtain ⟨rfl, hg⟩ := hg
        exact wp_goto (mDl hd rfl) hg (hk _ _ _ _ _ _ hs)
      · exact hs.elim
  | ifnonnull off =>
      simp only [zOp] at hs
      simp only [mTg] at hg
      split at hs
      · simp only [Bool.and_eq_true, decide_eq_true_eq] at hg
        obtain ⟨rfl, hg⟩ := hg
        exact wp_ifnonnull (mDl hd rfl) hg (hk _ _ _ _ _ _ hs)
      · simp only [Bool.and_eq_true, decide_eq_true_eq] at hg
        obtain ⟨rfl, hg⟩ := hg
        exact wp_ifnonnullN (mDl hd rfl) (hk _ _ _ _ _ _ hs)
      · exact hs.elim
  | tableswitch df lo hi offs =>
      simp only [zOp] at hs
      simp only [mTg] at hg
      split at hs
      · rename_i x r t ts
        obtain ⟨rx, hs⟩ := hs
        simp only [Bool.and_eq_true, decide_eq_true_eq, List.map_cons, List.cons.injEq] at hg
        obtain ⟨⟨g1, g2⟩, g3⟩ := hg
        have ex := rI_to rx
        by_cases hx : x < lo ∨ hi < x
        · exact wp_tableOut hd (by rw [ex]; exact hx) g1.symm (hk _ _ _ _ _ _ (hs.1 hx))
        · have hx1 : ¬ x < lo := fun q => hx (Or.inl q)
          have hx2 : ¬ hi < x := fun q => hx (Or.inr q)
          have hlen : ts.length = offs.toList.length := by simpa using congrArg List.length g2
          have hj : (x - lo).toNat < ts.length := by omega
          have e1 : ts[(x - lo).toNat]? = some (ts[(x - lo).toNat]) := List.getElem?_eq_getElem hj
          have e2 : (offs.toList)[(x - lo).toNat]? = some (offs.toList[(x - lo).toNat]) := List.getElem?_eq_getElem (by omega)
          have e3 := congrArg (fun l => l[(x - lo).toNat]?) g2
          simp only [List.getElem?_map, e1, e2, Option.map_some, Option.some.injEq] at e3
          exact wp_tableIn hd (by rw [ex]; exact hx1) (by rw [ex]; exact hx2) (by rw [ex, ← Array.getElem?_toList]; exact e2) e3.symm (hk _ _ _ _ _ _ (zSwIn_spec hs.2 _ _ e1 (by omega)))
      · exact hs.elim
  | lookupswitch df ps =>
      simp only [zOp] at hs
      simp only [mTg] at hg
      split at hs
      · rename_i x r t ts
        obtain ⟨rx, hs⟩ := hs
        simp only [Bool.and_eq_true, decide_eq_true_eq, List.map_cons, List.cons.injEq] at hg
        obtain ⟨⟨g1, g2⟩, g3⟩ := hg
        obtain ⟨t2, h1, h2⟩ := zSwL_spec g1.symm g2 hs
        refine wp_lookup hd g3 (by rw [rI_to rx]) h1 ?_
        rcases h2 with ⟨rfl, h2⟩ | h2
        · exact hk _ _ _ _ _ _ h2
        · exact hk _ _ _ _ _ _ h2
      · exact hs.elim
  | aload_n j =>
      simp only [zOp] at hs
      simp only [mTg, decide_eq_true_eq] at hg
      have hd1 := mDl hd hg
      clear hd
      subst hg
      split at hs
      · rename_i x hx
        have k := hk _ _ _ _ _ _ hs
        cases x with
        | none => exact wp_aload_nN hd1 (zL_at hx) k
        | some q => exact wp_aload_n hd1 (zL_at hx) k
      · exact hs.elim
  | aload j =>
      simp only [zOp] at hs
      simp only [mTg, decide_eq_true_eq] at hg
      have hd1 := mDl hd hg
      clear hd
      subst hg
      split at hs
      · rename_i x hx
        have k := hk _ _ _ _ _ _ hs
        cases x with
        | none => exact wp_aloadN hd1 (zL_at hx) k
        | some q => exact wp_aload hd1 (zL_at hx) k
      · exact hs.elim
  | iload_n j =>
      simp only [zOp] at hs
      simp only [mTg, decide_eq_true_eq] at hg
      have hd1 := mDl hd hg
      clear hd
      subst hg
      split at hs
      · rename_i x hx
        exact wp_iload_n hd1 (zL_at hx) (hk _ _ _ _ _ _ hs)
      · exact hs.elim
  | iload j =>
      simp only [zOp] at hs
      simp only [mTg, decide_eq_true_eq] at hg
      have hd1 := mDl hd hg
      clear hd
      subst hg
      split at hs
      · rename_i x hx
        exact wp_iload hd1 (zL_at hx) (hk _ _ _ _ _ _ hs)
      · exact hs.elim
  | lload_n j =>
      simp only [zOp] at hs
      simp only [mTg, decide_eq_true_eq] at hg
      have hd1 := mDl hd hg
      clear hd
      subst hg
      split at hs
      · rename_i x hx
        exact wp_lload_n hd1 (zL_at hx) (hk _ _ _ _ _ _ hs)
      · exact hs.elim
  | lload j =>
      simp only [zOp] at hs
      simp only [mTg, decide_eq_true_eq] at hg
      have hd1 := mDl hd hg
      clear hd
      subst hg
      split at hs
      · rename_i x hx
        exact wp_lload hd1 (zL_at hx) (hk _ _ _ _ _ _ hs)
      · exact hs.elim
  | istore_n j =>
      simp only [zOp] at hs
      simp only [mTg, decide_eq_true_eq] at hg
      have hd1 := mDl hd hg
      clear hd
      subst hg
      split at hs
      · rename_i x r
        replace hs := mCond hs
        obtain ⟨hb, hs⟩ := hs
        rw [zS1_eq] at hs
        have k := hk _ _ _ _ _ _ hs
        simp only [zWP] at k
        rw [← zSt1_eq] at k
        exact wp_istore_n hd1 rfl (by simpa using hb) k
      · exact hs.elim
  | istore j =>
      simp only [zOp] at hs
      simp only [mTg, decide_eq_true_eq] at hg
      have hd1 := mDl hd hg
      clear hd
      subst hg
      split at hs
      · rename_i x r
        replace hs := mCond hs
        obtain ⟨hb, hs⟩ := hs
        rw [zS1_eq] at hs
        have k := hk _ _ _ _ _ _ hs
        simp only [zWP] at k
        rw [← zSt1_eq] at k
        exact wp_istore hd1 (by simpa using hb) k
      · exact hs.elim
  | lstore_n j =>
      simp only [zOp] at hs
      simp only [mTg, decide_eq_true_eq] at hg
      have hd1 := mDl hd hg
      clear hd
      subst hg
      split at hs
      · rename_i x r
        replace hs := mCond hs
        obtain ⟨hb, hs⟩ := hs
        rw [zS2_eq] at hs
        have k := hk _ _ _ _ _ _ hs
        simp only [zWP] at k
        rw [← zSt2_eq] at k
        exact wp_lstore_n hd1 rfl (by simpa using hb) k
      · exact hs.elim
  | lstore j =>
      simp only [zOp] at hs
      simp only [mTg, decide_eq_true_eq] at hg
      have hd1 := mDl hd hg
      clear hd
      subst hg
      split at hs
      · rename_i x r
        replace hs := mCond hs
        obtain ⟨hb, hs⟩ := hs
        rw [zS2_eq] at hs
        have k := hk _ _ _ _ _ _ hs
        simp only [zWP] at k
        rw [← zSt2_eq] at k
        exact wp_lstore hd1 (by simpa using hb) k
      · exact hs.elim
  | astore_n j =>
      simp only [zOp] at hs
      simp only [mTg, decide_eq_true_eq] at hg
      have hd1 := mDl hd hg
      clear hd
      subst hg
      split at hs
      · rename_i x r
        replace hs := mCond hs
        obtain ⟨hb, hs⟩ := hs
        rw [zS1_eq] at hs
        have k := hk _ _ _ _ _ _ hs
        simp only [zWP] at k
        rw [← zSt1_eq] at k
        exact wp_astore_n hd1 rfl (by simpa using hb) k
      · exact hs.elim
  | astore j =>
      simp only [zOp] at hs
      simp only [mTg, decide_eq_true_eq] at hg
      have hd1 := mDl hd hg
      clear hd
      subst hg
      split at hs
      · rename_i x r
        replace hs := mCond hs
        obtain ⟨hb, hs⟩ := hs
        rw [zS1_eq] at hs
        have k := hk _ _ _ _ _ _ hs
        simp only [zWP] at k
        rw [← zSt1_eq] at k
        exact wp_astore hd1 (by simpa using hb) k
      · exact hs.elim
  | iinc j n =>
      simp only [zOp] at hs
      simp only [mTg, decide_eq_true_eq] at hg
      have hd1 := mDl hd hg
      clear hd
      subst hg
      split at hs
      · rename_i x hx
        replace hs := mCond hs
        obtain ⟨hb, hs⟩ := hs
        rw [zS1_eq] at hs
        have k := hk _ _ _ _ _ _ hs
        simp only [zWP] at k
        rw [← zSt1_eq] at k
        exact wp_iinc hd1 (zL_at hx) (by rw [Int32.ofInt_add]) (by simpa using hb) k
      · exact hs.elim
  | iconst n =>
      simp only [zOp] at hs
      simp only [mTg, decide_eq_true_eq] at hg
      have hd1 := mDl hd hg
      clear hd
      subst hg
      exact wp_iconst hd1 rfl (hk _ _ _ _ _ _ hs)
  | bipush n =>
      simp only [zOp] at hs
      simp only [mTg, decide_eq_true_eq] at hg
      have hd1 := mDl hd hg
      clear hd
      subst hg
      split at hs
      · replace hs := mCond hs
        obtain ⟨hb, hs⟩ := hs
        exact wp_bipush hd1 (by rw [mC8 (by simpa using hb), ← mC_of]) (hk _ _ _ _ _ _ hs)
      · replace hs := mCond hs
        obtain ⟨hb, hs⟩ := hs
        exact wp_bipush hd1 (by rw [mC8n (by simpa using hb), ← mC_neg]) (hk _ _ _ _ _ _ hs)
  | sipush n =>
      simp only [zOp] at hs
      simp only [mTg, decide_eq_true_eq] at hg
      have hd1 := mDl hd hg
      clear hd
      subst hg
      split at hs
      · replace hs := mCond hs
        obtain ⟨hb, hs⟩ := hs
        exact wp_sipush hd1 (by rw [mC16 (by simpa using hb), ← mC_of]) (hk _ _ _ _ _ _ hs)
      · replace hs := mCond hs
        obtain ⟨hb, hs⟩ := hs
        exact wp_sipush hd1 (by rw [mC16n (by simpa using hb), ← mC_neg]) (hk _ _ _ _ _ _ hs)
  | lconst n =>
      simp only [zOp] at hs
      simp only [mTg, decide_eq_true_eq] at hg
      have hd1 := mDl hd hg
      clear hd
      subst hg
      match n, hd1, hs with
      | 0, hd2, hs => exact wp_lconst hd2 rfl (hk _ _ _ _ _ _ hs)
      | 1, hd2, hs => exact wp_lconst hd2 rfl (hk _ _ _ _ _ _ hs)
  | ldc j =>
      simp only [zOp] at hs
      simp only [mTg, decide_eq_true_eq] at hg
      have hd1 := mDl hd hg
      clear hd
      subst hg
      split at hs
      · have k := hk _ _ _ _ _ _ hs
        simp only [zWP, List.map_cons, zT, zI_asI] at k
        exact wp_ldc hoc hn hd1 ‹_› k
      · split at hs
        · exact wp_ldcS hoc hn hd1 ‹_› (hk _ _ _ _ _ _ hs)
        · exact hs.elim
  | ldc_w j =>
      simp only [zOp] at hs
      simp only [mTg, decide_eq_true_eq] at hg
      have hd1 := mDl hd hg
      clear hd
      subst hg
      split at hs
      · have k := hk _ _ _ _ _ _ hs
        simp only [zWP, List.map_cons, zT, zI_asI] at k
        exact wp_ldcw hoc hn hd1 ‹_› k
      · exact hs.elim
  | ldc2_w j =>
      simp only [zOp] at hs
      simp only [mTg, decide_eq_true_eq] at hg
      have hd1 := mDl hd hg
      clear hd
      subst hg
      split at hs
      · rename_i v hv
        have k := hk _ _ _ _ _ _ hs
        have hw := zKl_ok ⟨_, hoc⟩ _ (mLk_mem hv)
        intro p e R s m args below meth c H locs cells slots ad a0 n0 ls F G hl
        exact lv_ldc2 F.1 F.2.1 (by rw [hn]; exact F.2.2.2.1) (F.2.2.2.2.2.2.2.2.1.word hw rfl) hd1 (k p e R s m args below meth c H locs cells slots ad a0 n0 ls F G hl)
      · exact hs.elim
  | iadd =>
      simp only [zOp] at hs
      simp only [mTg, decide_eq_true_eq] at hg
      have hd1 := mDl hd hg
      clear hd
      subst hg
      split at hs
      · have k := hk _ _ _ _ _ _ hs
        simp only [zWP, List.map_cons, zT, Int32.ofInt_add] at k
        exact wp_iadd hd1 k
      · exact hs.elim
  | isub =>
      simp only [zOp] at hs
      simp only [mTg, decide_eq_true_eq] at hg
      have hd1 := mDl hd hg
      clear hd
      subst hg
      split at hs
      · have k := hk _ _ _ _ _ _ hs
        simp only [zWP, List.map_cons, zT, Int32.ofInt_sub] at k
        exact wp_isub hd1 k
      · exact hs.elim
  | imul =>
      simp only [zOp] at hs
      simp only [mTg, decide_eq_true_eq] at hg
      have hd1 := mDl hd hg
      clear hd
      subst hg
      split at hs
      · have k := hk _ _ _ _ _ _ hs
        simp only [zWP, List.map_cons, zT, Int32.ofInt_mul] at k
        exact wp_imul hd1 k
      · exact hs.elim
  | iand =>
      simp only [zOp] at hs
      simp only [mTg, decide_eq_true_eq] at hg
      have hd1 := mDl hd hg
      clear hd
      subst hg
      split at hs
      · have k := hk _ _ _ _ _ _ hs
        simp only [zWP, List.map_cons, zT, zI_asI] at k
        exact wp_iand hd1 k
      · exact hs.elim
  | ior =>
      simp only [zOp] at hs
      simp only [mTg, decide_eq_true_eq] at hg
      have hd1 := mDl hd hg
      clear hd
      subst hg
      split at hs
      · have k := hk _ _ _ _ _ _ hs
        simp only [zWP, List.map_cons, zT, zI_asI] at k
        exact wp_ior hd1 k
      · exact hs.elim
  | ixor =>
      simp only [zOp] at hs
      simp only [mTg, decide_eq_true_eq] at hg
      have hd1 := mDl hd hg
      clear hd
      subst hg
      split at hs
      · have k := hk _ _ _ _ _ _ hs
        simp only [zWP, List.map_cons, zT, zI_asI] at k
        exact wp_ixor hd1 k
      · exact hs.elim
  | ishl =>
      simp only [zOp] at hs
      simp only [mTg, decide_eq_true_eq] at hg
      have hd1 := mDl hd hg
      clear hd
      subst hg
      split at hs
      · have k := hk _ _ _ _ _ _ hs
        simp only [zWP, List.map_cons, zT, zI_asI] at k
        exact wp_ishl hd1 k
      · exact hs.elim
  | ishr =>
      simp only [zOp] at hs
      simp only [mTg, decide_eq_true_eq] at hg
      have hd1 := mDl hd hg
      clear hd
      subst hg
      split at hs
      · have k := hk _ _ _ _ _ _ hs
        simp only [zWP, List.map_cons, zT, zI_asI] at k
        exact wp_ishr hd1 k
      · exact hs.elim
  | iushr =>
      simp only [zOp] at hs
      simp only [mTg, decide_eq_true_eq] at hg
      have hd1 := mDl hd hg
      clear hd
      subst hg
      split at hs
      · have k := hk _ _ _ _ _ _ hs
        simp only [zWP, List.map_cons, zT, zI_asI] at k
        exact wp_iushr hd1 k
      · exact hs.elim
  | ineg =>
      simp only [zOp] at hs
      simp only [mTg, decide_eq_true_eq] at hg
      have hd1 := mDl hd hg
      clear hd
      subst hg
      split at hs
      · have k := hk _ _ _ _ _ _ hs
        simp only [zWP, List.map_cons, zT, Int32.ofInt_neg] at k
        exact wp_ineg hd1 k
      · exact hs.elim
  | ladd =>
      simp only [zOp] at hs
      simp only [mTg, decide_eq_true_eq] at hg
      have hd1 := mDl hd hg
      clear hd
      subst hg
      split at hs
      · have k := hk _ _ _ _ _ _ hs
        simp only [zWP, List.map_cons, zT, Int64.ofInt_add] at k
        exact wp_ladd hd1 k
      · exact hs.elim
  | lsub =>
      simp only [zOp] at hs
      simp only [mTg, decide_eq_true_eq] at hg
      have hd1 := mDl hd hg
      clear hd
      subst hg
      split at hs
      · have k := hk _ _ _ _ _ _ hs
        simp only [zWP, List.map_cons, zT, Int64.ofInt_sub] at k
        exact wp_lsub hd1 k
      · exact hs.elim
  | lmul =>
      simp only [zOp] at hs
      simp only [mTg, decide_eq_true_eq] at hg
      have hd1 := mDl hd hg
      clear hd
      subst hg
      split at hs
      · have k := hk _ _ _ _ _ _ hs
        simp only [zWP, List.map_cons, zT, Int64.ofInt_mul] at k
        exact wp_lmul hd1 k
      · exact hs.elim
  | land =>
      simp only [zOp] at hs
      simp only [mTg, decide_eq_true_eq] at hg
      have hd1 := mDl hd hg
      clear hd
      subst hg
      split at hs
      · have k := hk _ _ _ _ _ _ hs
        simp only [zWP, List.map_cons, zT, zL_asI] at k
        exact wp_land hd1 k
      · exact hs.elim
  | lor =>
      simp only [zOp] at hs
      simp only [mTg, decide_eq_true_eq] at hg
      have hd1 := mDl hd hg
      clear hd
      subst hg
      split at hs
      · have k := hk _ _ _ _ _ _ hs
        simp only [zWP, List.map_cons, zT, zL_asI] at k
        exact wp_lor hd1 k
      · exact hs.elim
  | lshl =>
      simp only [zOp] at hs
      simp only [mTg, decide_eq_true_eq] at hg
      have hd1 := mDl hd hg
      clear hd
      subst hg
      split at hs
      · have k := hk _ _ _ _ _ _ hs
        simp only [zWP, List.map_cons, zT, zL_asI] at k
        exact wp_lshl hd1 k
      · exact hs.elim
  | lshr =>
      simp only [zOp] at hs
      simp only [mTg, decide_eq_true_eq] at hg
      have hd1 := mDl hd hg
      clear hd
      subst hg
      split at hs
      · have k := hk _ _ _ _ _ _ hs
        simp only [zWP, List.map_cons, zT, zL_asI] at k
        exact wp_lshr hd1 k
      · exact hs.elim
  | idiv =>
      simp only [zOp] at hs
      simp only [mTg, decide_eq_true_eq] at hg
      have hd1 := mDl hd hg
      clear hd
      subst hg
      split at hs
      · obtain ⟨⟨q1, q2, q3, q4⟩, hs⟩ := hs
        have k := hk _ _ _ _ _ _ hs
        simp only [zWP, List.map_cons, zT] at k
        rw [← (zDiv q1 q2 q3 q4).1] at k
        exact wp_idiv hd1 (zDiv q1 q2 q3 q4).2 k
      · exact hs.elim
  | ldiv =>
      simp only [zOp] at hs
      simp only [mTg, decide_eq_true_eq] at hg
      have hd1 := mDl hd hg
      clear hd
      subst hg
      split at hs
      · obtain ⟨⟨q1, q2, q3, q4⟩, hs⟩ := hs
        have k := hk _ _ _ _ _ _ hs
        simp only [zWP, List.map_cons, zT] at k
        rw [← (zDivL q1 q2 q3 q4).1] at k
        exact wp_ldiv hd1 (zDivL q1 q2 q3 q4).2 k
      · exact hs.elim
  | irem =>
      simp only [zOp] at hs
      simp only [mTg, decide_eq_true_eq] at hg
      have hd1 := mDl hd hg
      clear hd
      subst hg
      split at hs
      · obtain ⟨⟨q1, q2, q3, q4⟩, hs⟩ := hs
        have k := hk _ _ _ _ _ _ hs
        simp only [zWP, List.map_cons, zT] at k
        rw [← zRem q1 q2 q3 q4] at k
        exact wp_irem hd1 (zDiv q1 q2 q3 q4).2 k
      · exact hs.elim
  | lrem =>
      simp only [zOp] at hs
      simp only [mTg, decide_eq_true_eq] at hg
      have hd1 := mDl hd hg
      clear hd
      subst hg
      split at hs
      · obtain ⟨⟨q1, q2, q3, q4⟩, hs⟩ := hs
        have k := hk _ _ _ _ _ _ hs
        simp only [zWP, List.map_cons, zT] at k
        rw [← zRemL q1 q2 q3 q4] at k
        exact wp_lrem hd1 (zDivL q1 q2 q3 q4).2 k
      · exact hs.elim
  | lcmp =>
      simp only [zOp] at hs
      simp only [mTg, decide_eq_true_eq] at hg
      have hd1 := mDl hd hg
      clear hd
      subst hg
      split at hs
      · rename_i y x r c off nx2 t hl2
        obtain ⟨⟨rx, ry⟩, hs⟩ := hs
        have hok2 := hok _ (mLk_mem hl2)
        simp only [mTbOk, mTg, Bool.and_eq_true, decide_eq_true_eq] at hok2
        obtain ⟨⟨-, hd2⟩, ⟨hnx, hg2⟩⟩ := hok2
        have hd3 := mDl hd2 hnx
        subst hnx
        refine wp_lcmp hd1 ?_
        split at hs
        · exact wp_if_eq hd3 hg2 (fun q => hk _ _ _ _ _ _ (hs.1 ((zL_eq rx ry).mp ((lg_cmp_eq _ _).mp q)))) (fun q => hk _ _ _ _ _ _ (hs.2 (fun z => q ((lg_cmp_eq _ _).mpr ((zL_eq rx ry).mpr z)))))
        · exact wp_if_ne hd3 hg2 (fun q => hk _ _ _ _ _ _ (hs.2 (fun z => q ((lg_cmp_eq _ _).mpr ((zL_eq rx ry).mpr z))))) (fun q => hk _ _ _ _ _ _ (hs.1 ((zL_eq rx ry).mp ((lg_cmp_eq _ _).mp q))))
        · exact wp_if_lt hd3 hg2 (fun q => hk _ _ _ _ _ _ (hs.1 ((zL_lt rx ry).mp ((lg_cmp_lt _ _).mp q)))) (fun q => hk _ _ _ _ _ _ (hs.2 (fun z => q ((lg_cmp_lt _ _).mpr ((zL_lt rx ry).mpr z)))))
        · exact wp_if_ge hd3 hg2 (fun q => hk _ _ _ _ _ _ (hs.1 ((zL_le ry rx).mp ((lg_cmp_ge _ _).mp q)))) (fun q => hk _ _ _ _ _ _ (hs.2 (fun z => q ((lg_cmp_ge _ _).mpr ((zL_le ry rx).mpr z)))))
        · exact wp_if_gt hd3 hg2 (fun q => hk _ _ _ _ _ _ (hs.1 ((zL_lt ry rx).mp ((lg_cmp_gt _ _).mp q)))) (fun q => hk _ _ _ _ _ _ (hs.2 (fun z => q ((lg_cmp_gt _ _).mpr ((zL_lt ry rx).mpr z)))))
        · exact wp_if_le hd3 hg2 (fun q => hk _ _ _ _ _ _ (hs.1 ((zL_le rx ry).mp ((lg_cmp_le _ _).mp q)))) (fun q => hk _ _ _ _ _ _ (hs.2 (fun z => q ((lg_cmp_le _ _).mpr ((zL_le rx ry).mpr z)))))
      · exact hs.elim
  | i2l =>
      simp only [zOp] at hs
      simp only [mTg, decide_eq_true_eq] at hg
      have hd1 := mDl hd hg
      clear hd
      subst hg
      split at hs
      · obtain ⟨q1, hs⟩ := hs
        have k := hk _ _ _ _ _ _ hs
        simp only [zWP, List.map_cons, zT] at k
        rw [← zI2L q1] at k
        exact wp_i2l hd1 k
      · exact hs.elim
  | l2i =>
      simp only [zOp] at hs
      simp only [mTg, decide_eq_true_eq] at hg
      have hd1 := mDl hd hg
      clear hd
      subst hg
      split at hs
      · have k := hk _ _ _ _ _ _ hs
        simp only [zWP, List.map_cons, zT, ← zL2I] at k
        exact wp_l2i hd1 k
      · exact hs.elim
  | i2b =>
      simp only [zOp] at hs
      simp only [mTg, decide_eq_true_eq] at hg
      have hd1 := mDl hd hg
      clear hd
      subst hg
      split at hs
      · have k := hk _ _ _ _ _ _ hs
        simp only [zWP, List.map_cons, zT, ← zB8] at k
        exact wp_i2b hd1 k
      · exact hs.elim
  | i2s =>
      simp only [zOp] at hs
      simp only [mTg, decide_eq_true_eq] at hg
      have hd1 := mDl hd hg
      clear hd
      subst hg
      split at hs
      · have k := hk _ _ _ _ _ _ hs
        simp only [zWP, List.map_cons, zT, ← zB16] at k
        exact wp_i2s hd1 k
      · exact hs.elim
  | dup =>
      simp only [zOp] at hs
      simp only [mTg, decide_eq_true_eq] at hg
      have hd1 := mDl hd hg
      clear hd
      subst hg
      split at hs
      · exact wp_dup hd1 rfl (hk _ _ _ _ _ _ hs)
      · rename_i x r
        cases x with
        | none => exact wp_dup hd1 rfl (hk _ _ _ _ _ _ hs)
        | some q => exact wp_dup hd1 rfl (hk _ _ _ _ _ _ hs)
      · exact hs.elim
  | pop =>
      simp only [zOp] at hs
      simp only [mTg, decide_eq_true_eq] at hg
      have hd1 := mDl hd hg
      clear hd
      subst hg
      split at hs
      · exact wp_pop hd1 rfl (hk _ _ _ _ _ _ hs)
      · rename_i x r
        cases x with
        | none => exact wp_pop hd1 rfl (hk _ _ _ _ _ _ hs)
        | some q => exact wp_pop hd1 rfl (hk _ _ _ _ _ _ hs)
      · exact hs.elim
  | dup2 =>
      simp only [zOp] at hs
      simp only [mTg, decide_eq_true_eq] at hg
      have hd1 := mDl hd hg
      clear hd
      subst hg
      split at hs
      · rename_i x y r
        cases y with
        | none => exact wp_dup2_11 hd1 rfl rfl (hk _ _ _ _ _ _ hs)
        | some q => exact wp_dup2_11 hd1 rfl rfl (hk _ _ _ _ _ _ hs)
      · exact wp_dup2_11 hd1 rfl rfl (hk _ _ _ _ _ _ hs)
      · exact wp_dup2_2 hd1 rfl (hk _ _ _ _ _ _ hs)
      · exact hs.elim
  | pop2 =>
      simp only [zOp] at hs
      simp only [mTg, decide_eq_true_eq] at hg
      have hd1 := mDl hd hg
      clear hd
      subst hg
      split at hs
      · exact wp_pop2_2 hd1 rfl (hk _ _ _ _ _ _ hs)
      · exact hs.elim
  | getfield j =>
      simp only [zOp] at hs
      simp only [mTg, decide_eq_true_eq] at hg
      have hd1 := mDl hd hg
      clear hd
      subst hg
      split at hs
      · split at hs
        · split at hs
          · rename_i hh
            replace hs := mCond hs
            obtain ⟨hb, hs⟩ := hs
            have hb := Nat.eq_of_beq_eq_true hb
            subst hb
            split at hs
            · rename_i v hv
              exact wp_get hn hd1 ‹_› (zH_at hh) (by rw [List.getElem?_map, hv]; rfl) (hk _ _ _ _ _ _ hs)
            · exact hs.elim
          · exact hs.elim
        · exact hs.elim
      · exact hs.elim
  | putfield j =>
      simp only [zOp] at hs
      simp only [mTg, decide_eq_true_eq] at hg
      have hd1 := mDl hd hg
      clear hd
      subst hg
      split at hs
      · rename_i v k r
        split at hs
        · rename_i ci jj nest hft
          split at hs
          · rename_i ci2 fs hh
            replace hs := mCond hs
            obtain ⟨hb, hs⟩ := hs
            simp only [Bool.and_eq_true] at hb
            obtain ⟨⟨⟨b1, b2⟩, b3⟩, b4⟩ := hb
            have b1 := Nat.eq_of_beq_eq_true b1
            subst b1
            simp only [mFin] at b4
            split at b4
            · rename_i rr hrr
              have k1 := hk _ _ _ _ _ _ hs
              simp only [zWP] at k1
              rw [← zH_set] at k1
              simp only [zC, List.map_set] at k1
              refine wp_put hn hd1 hft (zH_at hh) (by simpa using b2) hrr ?_ (zFit_ok b3) k1
              cases hf : (rr.2.1 jj).2.2.2 with
              | false => exact Or.inl rfl
              | true =>
                simp only [hf, cond_true, Bool.and_eq_true, Bool.not_eq_true', decide_eq_true_eq] at b4
                exact Or.inr ⟨rfl, b4.1.2, b4.2, b4.1.1⟩
            · cases b4
          · exact hs.elim
        · exact hs.elim
      · exact hs.elim
  | iaload =>
      simp only [zOp] at hs
      simp only [mTg, decide_eq_true_eq] at hg
      have hd1 := mDl hd hg
      clear hd
      subst hg
      split at hs
      · rename_i i k r
        cases hbk : Nat.blt k mSB with
        | true =>
          simp only [hbk, cond_true] at hs
          split at hs
          · rename_i n f hh
            replace hs := mCond hs
            obtain ⟨hb, hs⟩ := hs
            obtain ⟨⟨q1, q2⟩, hs⟩ := hs
            have hb := Nat.le_of_ble_eq_true hb
            have hi := zI_in (n := n) ⟨by omega, by omega⟩ q1 q2
            have k1 := hk _ _ _ _ _ _ hs
            simp only [zWP, List.map_cons, zT] at k1
            rw [← hi.2] at k1
            exact wp_iald hd1 (zH_at hh) hi.1 k1
          · exact hs.elim
        | false =>
          simp only [hbk, cond_false] at hs
          replace hs := mCond hs
          obtain ⟨hb, hs⟩ := hs
          have hb := Nat.eq_of_beq_eq_true hb
          subst hb
          obtain ⟨⟨q1, q2, q3⟩, hs⟩ := hs
          have hi := zI_in (n := X.2.2.2.2.2.1) ⟨by omega, by omega⟩ q1 q2
          have k1 := hk _ _ _ _ _ _ hs
          simp only [zWP, List.map_cons, zT, zI_asI] at k1
          rw [← hi.2] at k1
          exact wp_sald hd1 hi.1 k1
      · exact hs.elim
  | arraylength =>
      simp only [zOp] at hs
      simp only [mTg, decide_eq_true_eq] at hg
      have hd1 := mDl hd hg
      clear hd
      subst hg
      split at hs
      · rename_i k r
        cases hbk : Nat.blt k mSB with
        | true =>
          simp only [hbk, cond_true] at hs
          split at hs
          · rename_i t n g hk1
            replace hs := mCond hs
            obtain ⟨hb, hs⟩ := hs
            have k1 := hk _ _ _ _ _ _ hs
            simp only [zWP, List.map_cons, zT] at k1
            have e9 : Int32.ofInt (n : Int) = nI n := mC_of n
            rw [e9] at k1
            match t, hk1, hb with
            | 0, hk1, _ => exact wp_alen hd1 (zH_at hk1) rfl k1
            | 1, hk1, _ => exact wp_alen hd1 (zH_at hk1) rfl k1
            | 2, hk1, _ => exact wp_alen hd1 (zH_at hk1) rfl k1
            | 3, hk1, _ => exact wp_alen hd1 (zH_at hk1) rfl k1
            | 4, hk1, _ => exact wp_alen hd1 (zH_at hk1) rfl k1
            | 5, hk1, _ => exact wp_alen hd1 (zH_at hk1) rfl k1
            | t + 6, _, hb => exact absurd (by simpa using hb : t + 6 < 6) (by omega)
          · exact hs.elim
        | false =>
          simp only [hbk, cond_false] at hs
          replace hs := mCond hs
          obtain ⟨hb, hs⟩ := hs
          have hb := Nat.eq_of_beq_eq_true hb
          subst hb
          have k1 := hk _ _ _ _ _ _ hs
          simp only [zWP, List.map_cons, zT] at k1
          have e9 : Int32.ofInt (X.2.2.2.2.2.1 : Int) = nI X.2.2.2.2.2.1 := mC_of _
          rw [e9] at k1
          exact wp_slen hd1 k1
      · exact hs.elim
  | laload =>
      simp only [zOp] at hs
      simp only [mTg, decide_eq_true_eq] at hg
      have hd1 := mDl hd hg
      clear hd
      subst hg
      split at hs
      · rename_i i k r
        split at hs
        · rename_i n f hh
          replace hs := mCond hs
          obtain ⟨hb, hs⟩ := hs
          obtain ⟨⟨q1, q2⟩, hs⟩ := hs
          have hb := Nat.le_of_ble_eq_true hb
          have hi := zI_in (n := n) ⟨by omega, by omega⟩ q1 q2
          have k1 := hk _ _ _ _ _ _ hs
          simp only [zWP, List.map_cons, zT] at k1
          rw [← hi.2] at k1
          exact wp_lald hd1 (zH_at hh) hi.1 k1
        · exact hs.elim
      · exact hs.elim
  | baload =>
      simp only [zOp] at hs
      simp only [mTg, decide_eq_true_eq] at hg
      have hd1 := mDl hd hg
      clear hd
      subst hg
      split at hs
      · rename_i i k r
        split at hs
        · rename_i n f hh
          replace hs := mCond hs
          obtain ⟨hb, hs⟩ := hs
          obtain ⟨⟨q1, q2⟩, hs⟩ := hs
          have hb := Nat.le_of_ble_eq_true hb
          have hi := zI_in (n := n) ⟨by omega, by omega⟩ q1 q2
          have k1 := hk _ _ _ _ _ _ hs
          simp only [zWP, List.map_cons, zT] at k1
          rw [← hi.2] at k1
          exact wp_bald hd1 (zH_at hh) hi.1 k1
        · rename_i n f hh
          replace hs := mCond hs
          obtain ⟨hb, hs⟩ := hs
          obtain ⟨⟨q1, q2⟩, hs⟩ := hs
          have hb := Nat.le_of_ble_eq_true hb
          have hi := zI_in (n := n) ⟨by omega, by omega⟩ q1 q2
          have k1 := hk _ _ _ _ _ _ hs
          simp only [zWP, List.map_cons, zT] at k1
          rw [← hi.2] at k1
          exact wp_zald hd1 (zH_at hh) hi.1 k1
        · exact hs.elim
      · exact hs.elim
  | aaload =>
      simp only [zOp] at hs
      simp only [mTg, decide_eq_true_eq] at hg
      have hd1 := mDl hd hg
      clear hd
      subst hg
      split at hs
      · rename_i i k r
        split at hs
        · rename_i n f hh
          replace hs := mCond hs
          obtain ⟨hb, hs⟩ := hs
          obtain ⟨⟨q1, q2⟩, hs⟩ := hs
          have hb := Nat.le_of_ble_eq_true hb
          have hi := zI_in (n := n) ⟨by omega, by omega⟩ q1 q2
          have k1 := hk _ _ _ _ _ _ hs
          simp only [zWP, List.map_cons] at k1
          rw [zT_rf, ← hi.2] at k1
          exact wp_aald hd1 (zH_at hh) rfl hi.1 k1
        · rename_i n f hh
          replace hs := mCond hs
          obtain ⟨hb, hs⟩ := hs
          obtain ⟨⟨q1, q2⟩, hs⟩ := hs
          have hb := Nat.le_of_ble_eq_true hb
          have hi := zI_in (n := n) ⟨by omega, by omega⟩ q1 q2
          have k1 := hk _ _ _ _ _ _ hs
          simp only [zWP, List.map_cons] at k1
          rw [zT_rf, ← hi.2] at k1
          exact wp_aald hd1 (zH_at hh) rfl hi.1 k1
        · exact hs.elim
      · exact hs.elim
  | iastore =>
      simp only [zOp] at hs
      simp only [mTg, decide_eq_true_eq] at hg
      have hd1 := mDl hd hg
      clear hd
      subst hg
      split at hs
      · rename_i x i k r
        split at hs
        · rename_i n f hh
          replace hs := mCond hs
          obtain ⟨hb, hs⟩ := hs
          obtain ⟨⟨q1, q2⟩, hs⟩ := hs
          have hb := Nat.le_of_ble_eq_true hb
          have hi := zI_in (n := n) ⟨by omega, by omega⟩ q1 q2
          have k1 := hk _ _ _ _ _ _ hs
          simp only [zWP] at k1
          rw [← zH_set] at k1
          simp only [zC, zA] at k1
          simp only [show ¬ (0 : Nat) = 1 by decide, if_false, ← zUp32] at k1
          rw [← hi.2] at k1
          exact wp_iast hd1 (zH_at hh) hi.1 k1
        · exact hs.elim
      · exact hs.elim
  | lastore =>
      simp only [zOp] at hs
      simp only [mTg, decide_eq_true_eq] at hg
      have hd1 := mDl hd hg
      clear hd
      subst hg
      split at hs
      · rename_i x i k r
        split at hs
        · rename_i n f hh
          replace hs := mCond hs
          obtain ⟨hb, hs⟩ := hs
          obtain ⟨⟨q1, q2⟩, hs⟩ := hs
          have hb := Nat.le_of_ble_eq_true hb
          have hi := zI_in (n := n) ⟨by omega, by omega⟩ q1 q2
          have k1 := hk _ _ _ _ _ _ hs
          simp only [zWP] at k1
          rw [← zH_set] at k1
          simp only [zC, zA] at k1
          simp only [if_true, ← zUp64] at k1
          rw [← hi.2] at k1
          exact wp_last hd1 (zH_at hh) hi.1 k1
        · exact hs.elim
      · exact hs.elim
  | bastore =>
      simp only [zOp] at hs
      simp only [mTg, decide_eq_true_eq] at hg
      have hd1 := mDl hd hg
      clear hd
      subst hg
      split at hs
      · rename_i x i k r
        split at hs
        · rename_i n f hh
          replace hs := mCond hs
          obtain ⟨hb, hs⟩ := hs
          obtain ⟨⟨q1, q2⟩, hs⟩ := hs
          have hb := Nat.le_of_ble_eq_true hb
          have hi := zI_in (n := n) ⟨by omega, by omega⟩ q1 q2
          have k1 := hk _ _ _ _ _ _ hs
          simp only [zWP] at k1
          rw [← zH_set] at k1
          simp only [zC, zA] at k1
          simp only [show ¬ (2 : Nat) = 1 by decide, if_false, ← zUp32, ← zNarB] at k1
          rw [← hi.2] at k1
          exact wp_bast hd1 (zH_at hh) hi.1 k1
        · rename_i n f hh
          replace hs := mCond hs
          obtain ⟨hb, hs⟩ := hs
          obtain ⟨⟨q1, q2, q3⟩, hs⟩ := hs
          have hb := Nat.le_of_ble_eq_true hb
          have hi := zI_in (n := n) ⟨by omega, by omega⟩ q1 q2
          have k1 := hk _ _ _ _ _ _ hs
          simp only [zWP] at k1
          rw [← zH_set] at k1
          simp only [zC, zA] at k1
          simp only [show ¬ (3 : Nat) = 1 by decide, if_false, ← zUp32] at k1
          rw [← (zNarZ q3).1] at k1
          rw [← hi.2] at k1
          exact wp_zast hd1 (zH_at hh) hi.1 k1
        · exact hs.elim
      · exact hs.elim
  | aastore =>
      simp only [zOp] at hs
      simp only [mTg, decide_eq_true_eq] at hg
      have hd1 := mDl hd hg
      clear hd
      subst hg
      split at hs
      · rename_i kv i k r
        split at hs
        · rename_i n f fs hh hh2
          replace hs := mCond hs
          obtain ⟨hb, hs⟩ := hs
          obtain ⟨⟨q1, q2⟩, hs⟩ := hs
          have hb := Nat.le_of_ble_eq_true hb
          have hi := zI_in (n := n) ⟨by omega, by omega⟩ q1 q2
          have k1 := hk _ _ _ _ _ _ hs
          simp only [zWP] at k1
          rw [← zH_set] at k1
          simp only [zC, zA] at k1
          rw [← hi.2] at k1
          exact wp_aast hd1 (zH_at hh) (zH_at hh2) rfl rfl hi.1 k1
        · rename_i n f fs hh hh2
          replace hs := mCond hs
          obtain ⟨hb, hs⟩ := hs
          obtain ⟨⟨q1, q2⟩, hs⟩ := hs
          have hb := Nat.le_of_ble_eq_true hb
          have hi := zI_in (n := n) ⟨by omega, by omega⟩ q1 q2
          have k1 := hk _ _ _ _ _ _ hs
          simp only [zWP] at k1
          rw [← zH_set] at k1
          simp only [zC, zA] at k1
          rw [← hi.2] at k1
          exact wp_aast hd1 (zH_at hh) (zH_at hh2) rfl rfl hi.1 k1
        · exact hs.elim
      · exact hs.elim
  | ireturn =>
      simp only [zOp] at hs
      simp only [mTg, decide_eq_true_eq] at hg
      have hd1 := mDl hd hg
      clear hd
      subst hg
      split at hs
      · exact wp_iret hd1 ‹_› (hQr (r := some (.inl _)) hs)
      · exact wp_zret (zNarZ hs.1).2 hd1 ‹_› (hQr (r := some (.inl _)) hs.2)
      · exact hs.elim
  | lreturn =>
      simp only [zOp] at hs
      simp only [mTg, decide_eq_true_eq] at hg
      have hd1 := mDl hd hg
      clear hd
      subst hg
      split at hs
      · exact wp_lret hd1 ‹_› (hQr (r := some (.inr (.inl _))) hs)
      · exact hs.elim
  | areturn =>
      simp only [zOp] at hs
      simp only [mTg, decide_eq_true_eq] at hg
      have hd1 := mDl hd hg
      clear hd
      subst hg
      split at hs
      · exact wp_aret hd1 ‹_› (hQr (r := some (.inr (.inr (some _)))) hs)
      · exact hs.elim
  | return_ =>
      simp only [zOp] at hs
      simp only [mTg, decide_eq_true_eq] at hg
      have hd1 := mDl hd hg
      clear hd
      subst hg
      split at hs
      · exact wp_vret hd1 ‹_› (hQr (r := none) hs)
      · exact hs.elim
  | new j =>
      simp only [zOp] at hs
      simp only [mTg, decide_eq_true_eq] at hg
      have hd1 := mDl hd hg
      clear hd
      subst hg
      split at hs
      · rename_i n ic hx
        split at hs
        · rename_i q3 t3 is n1 t4 h3 h4
          split at hs
          · rename_i ic2 n2 t5 q6 h5 h6
            split at hs
            · rename_i n9 t9 h7
              replace hs := mCond hs
              obtain ⟨hb, hs⟩ := hs
              simp only [Bool.and_eq_true] at hb
              obtain ⟨⟨⟨⟨⟨b1, b2⟩, b3⟩, b4⟩, b5⟩, b6⟩ := hb
              have b1 := Nat.eq_of_beq_eq_true b1
              subst b1
              have b2 := Nat.eq_of_beq_eq_true b2
              have d3 := mTb_at hok h3
              have d4 := mTb_at hok h4
              obtain ⟨e4, d4⟩ := d4
              have d5 := mTb_at hok h5
              obtain ⟨e5, d5⟩ := d5
              have d6 := mTb_at hok h7
              have e4 : n1 = pc + 4 + 2 := e4
              have e5 : n2 = n1 + 3 := e5
              subst e4
              subst e5
              rw [b2] at hx
              obtain ⟨tx, sn⟩ := q6
              exact wp_throw b2 hn (List.isEmpty_iff.mp b6) hx h6 (Nat.le_of_ble_eq_true b3) (Nat.le_of_ble_eq_true b4) (by rw [zCs_eq]; exact Nat.le_of_ble_eq_true b5) hd1 d3.2 (Or.inl ⟨d4, d5, d6.2⟩) ⟨.inr n, h, rfl, rfl, hs⟩
            · exact hs.elim
          · exact hs.elim
        · rename_i q3 t3 is n1 t4 h3 h4
          split at hs
          · rename_i ic2 n2 t5 q6 h5 h6
            split at hs
            · rename_i n9 t9 h7
              replace hs := mCond hs
              obtain ⟨hb, hs⟩ := hs
              simp only [Bool.and_eq_true] at hb
              obtain ⟨⟨⟨⟨⟨b1, b2⟩, b3⟩, b4⟩, b5⟩, b6⟩ := hb
              have b1 := Nat.eq_of_beq_eq_true b1
              subst b1
              have b2 := Nat.eq_of_beq_eq_true b2
              have d3 := mTb_at hok h3
              have d4 := mTb_at hok h4
              obtain ⟨e4, d4⟩ := d4
              have d5 := mTb_at hok h5
              obtain ⟨e5, d5⟩ := d5
              have d6 := mTb_at hok h7
              have e4 : n1 = pc + 4 + 3 := e4
              have e5 : n2 = n1 + 3 := e5
              subst e4
              subst e5
              rw [b2] at hx
              obtain ⟨tx, sn⟩ := q6
              exact wp_throw b2 hn (List.isEmpty_iff.mp b6) hx h6 (Nat.le_of_ble_eq_true b3) (Nat.le_of_ble_eq_true b4) (by rw [zCs_eq]; exact Nat.le_of_ble_eq_true b5) hd1 d3.2 (Or.inr ⟨d4, d5, d6.2⟩) ⟨.inr n, h, rfl, rfl, hs⟩
            · exact hs.elim
          · exact hs.elim
        · exact hs.elim
      · split at hs
        · rename_i ci hci
          split at hs
          · rename_i r hr
            replace hs := mCond hs
            obtain ⟨hb, hs⟩ := hs
            simp only [Bool.and_eq_true] at hb
            have hw := mCt_ok ⟨_, hoc⟩ _ (mLk_mem hci)
            have hw2 := mCi_ok ⟨ci, hw.2⟩ r hr
            have hw1 := hw.1
            simp only [← hw2.2.2] at hw1
            have k1 := hk _ _ _ _ _ _ hs.2
            simp only [zWP, List.map_cons, List.map_append, List.map_nil, zT, zC, zDf_eq hr] at k1
            exact wp_new hn hd1 hr hw1 hw2.1 hw2.2.1 (Nat.le_of_ble_eq_true hb.1) (Nat.le_of_ble_eq_true hb.2) (by rw [List.length_map]; exact hs.1.2) hs.1.1 (by rw [List.length_map]; exact k1)
          · exact hs.elim
        · exact hs.elim
  | newarray a =>
      simp only [zOp] at hs
      simp only [mTg, decide_eq_true_eq] at hg
      have hd1 := mDl hd hg
      clear hd
      subst hg
      split at hs
      · rename_i n r t ty hat
        replace hs := mCond hs
        obtain ⟨hb, hs⟩ := hs
        obtain ⟨⟨q1, q2, q3, q4, q5⟩, hs⟩ := hs
        have hr9 : rI n := ⟨by omega, by omega⟩
        have e9 : (Int32.ofInt n).toNatClampNeg = n.toNat := by
          show (Int32.ofInt n).toInt.toNat = _
          rw [rI_to hr9]
        have k1 := hk _ _ _ _ _ _ hs
        simp only [zWP, List.map_cons, List.map_append, List.map_nil, zT, zC, zA_z] at k1
        rw [← e9] at k1 q3
        exact wp_newa hd1 hat (fun z => by
          have z2 : Int32.ofInt n < Int32.ofInt 0 := z
          rw [zI_lt hr9 rI_0] at z2
          omega) (by rw [e9]; omega) (Nat.le_of_ble_eq_true hb) q3 (by rw [List.length_map]; exact q5) q4 (by rw [List.length_map]; exact k1)
      · exact hs.elim
  | anewarray j =>
      simp only [zOp] at hs
      simp only [mTg, decide_eq_true_eq] at hg
      have hd1 := mDl hd hg
      clear hd
      subst hg
      split at hs
      · rename_i n r hci
        replace hs := mCond hs
        obtain ⟨hb, hs⟩ := hs
        obtain ⟨⟨q1, q2, q3, q4, q5⟩, hs⟩ := hs
        have hr9 : rI n := ⟨by omega, by omega⟩
        have e9 : (Int32.ofInt n).toNatClampNeg = n.toNat := by
          show (Int32.ofInt n).toInt.toNat = _
          rw [rI_to hr9]
        have k1 := hk _ _ _ _ _ _ hs
        simp only [zWP, List.map_cons, List.map_append, List.map_nil, zT, zC, zA] at k1
        rw [← e9] at k1 q3
        exact wp_newq (ci := 7) hn hd1 (Or.inl ⟨rfl, rfl⟩) (mCt_ok ⟨_, hoc⟩ _ (mLk_mem hci)).1 (fun z => by
          have z2 : Int32.ofInt n < Int32.ofInt 0 := z
          rw [zI_lt hr9 rI_0] at z2
          omega) (by rw [e9]; omega) (Nat.le_of_ble_eq_true hb) q3 (by rw [List.length_map]; exact q5) q4 (by rw [List.length_map]; exact k1)
      · rename_i n r hci
        replace hs := mCond hs
        obtain ⟨hb, hs⟩ := hs
        obtain ⟨⟨q1, q2, q3, q4, q5⟩, hs⟩ := hs
        have hr9 : rI n := ⟨by omega, by omega⟩
        have e9 : (Int32.ofInt n).toNatClampNeg = n.toNat := by
          show (Int32.ofInt n).toInt.toNat = _
          rw [rI_to hr9]
        have k1 := hk _ _ _ _ _ _ hs
        simp only [zWP, List.map_cons, List.map_append, List.map_nil, zT, zC, zA] at k1
        rw [← e9] at k1 q3
        exact wp_newq (ci := 2) hn hd1 (Or.inr ⟨rfl, rfl⟩) (mCt_ok ⟨_, hoc⟩ _ (mLk_mem hci)).1 (fun z => by
          have z2 : Int32.ofInt n < Int32.ofInt 0 := z
          rw [zI_lt hr9 rI_0] at z2
          omega) (by rw [e9]; omega) (Nat.le_of_ble_eq_true hb) q3 (by rw [List.length_map]; exact q5) q4 (by rw [List.length_map]; exact k1)
      · exact hs.elim
  | invokevirtual j =>
      simp only [zOp] at hs
      simp only [mTg, decide_eq_true_eq] at hg
      have hd1 := mDl hd hg
      clear hd
      subst hg
      split at hs
      · rename_i kd n M2 hq
        obtain ⟨as, r, rfl, hlen, hs⟩ := zPop_spec hs
        rw [List.append_nil] at hs
        have hlen2 : (as.map zT).length = n := by rw [List.length_map]; exact hlen
        have hstk : ∀ rest : List zV, (as.reverse ++ rest).map zT = (as.map zT).reverse ++ rest.map zT := fun rest => by simp
        split at hs
        · rename_i k rest
          split at hs
          · rename_i ci fs hk1
            replace hs := mCond hs
            obtain ⟨hb, hs⟩ := hs
            have hb := Nat.eq_of_beq_eq_true hb
            subst hb
            split at hs
            · obtain ⟨c1, c2, c3, c4, d2, Q2, c5, c6, c7, c8⟩ := zInv_spec hk hs
              simp only [zWP]
              rw [hstk]
              cases hhm : M.2.2.2.2.1 with
              | nil => exact wp_call0 hn hd1 hq hlen2 (zH_at hk1) c1 c5 c2 c3 c4 c6 c7 hhm (fun E h1 hq1 => by
                  obtain ⟨h2, e2, q⟩ := c8 E h1 hq1
                  simp only [zXc, hhm] at q
                  exact ⟨.inr E, h2, rfl, e2, q⟩)
              | cons h0 hr0 =>
                have hrow : ∀ (E : Nat) (h1 : mH), zQ Q2 (.inr E) h1 → E < 4 ∧ M.2.2.2.1 = some .int ∧ ∃ (hp j : Nat) (v : Int), mHd pc E M.2.2.2.2.1 = some hp ∧ ((decode M.2.1 hp = .ok (.astore j, 2) ∧ decode M.2.1 (hp + 2) = .ok (.iconst v, 1) ∧ decode M.2.1 (hp + 3) = .ok (.ireturn, 1)) ∨ (∃ i : Fin 4, (i : Nat) = j ∧ decode M.2.1 hp = .ok (.astore_n i, 1) ∧ decode M.2.1 (hp + 1) = .ok (.iconst v, 1) ∧ decode M.2.1 (hp + 2) = .ok (.ireturn, 1))) ∧ j < M.2.2.1 ∧ zQ Q (.inl (some (.int (Int32.ofInt v)))) h1 := by
                  intro E h1 hq1
                  obtain ⟨h2, eh, q⟩ := c8 E h1 hq1
                  simp only [zXc, hhm] at q
                  rw [← hhm] at q
                  obtain ⟨qb, q⟩ := mCond q
                  refine ⟨by simpa using qb, ?_⟩
                  split at q
                  · rename_i hp hhp
                    split at q
                    · rename_i j n1 t1 e1
                      split at q
                      · rename_i v n2 t2 e2
                        split at q
                        · rename_i n3 t3 e3
                          obtain ⟨qj, q⟩ := mCond q
                          split at q
                          · rename_i hrt
                            obtain ⟨f1, g1⟩ := mTb_at hok e1
                            obtain ⟨f2, g2⟩ := mTb_at hok e2
                            obtain ⟨f3, g3⟩ := mTb_at hok e3
                            have f1 : n1 = hp + 2 := f1
                            have f2 : n2 = n1 + 1 := f2
                            subst f1
                            subst f2
                            exact ⟨hrt, hp, j, v, hhp, Or.inl ⟨g1, g2, g3⟩, by simpa using qj, ⟨.inl (some (.inl v)), h2, rfl, eh, q⟩⟩
                          · exact q.elim
                        · exact q.elim
                      · exact q.elim
                    · rename_i j n1 t1 e1
                      split at q
                      · rename_i v n2 t2 e2
                        split at q
                        · rename_i n3 t3 e3
                          obtain ⟨qj, q⟩ := mCond q
                          split at q
                          · rename_i hrt
                            obtain ⟨f1, g1⟩ := mTb_at hok e1
                            obtain ⟨f2, g2⟩ := mTb_at hok e2
                            obtain ⟨f3, g3⟩ := mTb_at hok e3
                            have f1 : n1 = hp + 1 := f1
                            have f2 : n2 = n1 + 1 := f2
                            subst f1
                            subst f2
                            exact ⟨hrt, hp, j.val, v, hhp, Or.inr ⟨j, rfl, g1, g2, g3⟩, by simpa using qj, ⟨.inl (some (.inl v)), h2, rfl, eh, q⟩⟩
                          · exact q.elim
                        · exact q.elim
                      · exact q.elim
                    · exact q.elim
                  · exact q.elim
                by_cases hrt : M.2.2.2.1 = some .int
                · exact wp_callC hn (hLw h0 hr0 hhm) hrt hd1 hq hlen2 (zH_at hk1) c1 c5 c2 c3 c4 c6 c7 (fun E h1 hq1 => by
                    obtain ⟨x1, -, x3⟩ := hrow E h1 hq1
                    exact ⟨x1, x3⟩)
                · exact wp_callC hn (hLw h0 hr0 hhm) (hrw h0 hr0 hhm) hd1 hq hlen2 (zH_at hk1) c1 c5 c2 c3 c4 c6 c7 (fun E h1 hq1 => absurd (hrow E h1 hq1).2.1 hrt)
            · obtain ⟨c1, c2, c3, c4, d2, Q2, c5, c6, c7, c8⟩ := zInv_spec hk hs
              simp only [zWP]
              rw [hstk]
              exact wp_call1 hn hd1 hq hlen2 (zH_at hk1) c1 c5 c2 c3 c4 c6 c7 (fun E h1 hq1 => by
                obtain ⟨h2, e2, q⟩ := c8 E h1 hq1
                exact q)
            · exact hs.elim
          · exact hs.elim
        · exact hs.elim
      · exact hs.elim
  | invokestatic j =>
      simp only [zOp] at hs
      simp only [mTg, decide_eq_true_eq] at hg
      have hnoS : ∀ h0 hr0, M.2.2.2.2.1 = h0 :: hr0 → False := fun h0 hr0 e => by
        rcases hns with q | q
        · rw [q] at e; cases e
        · exact q _ (mLk_mem hlk) j rfl
      have hd1 := mDl hd hg
      clear hd
      subst hg
      split at hs
      · rename_i kd n M2 hq
        split at hs
        · obtain ⟨as, r, rfl, hlen, hs⟩ := zPop_spec hs
          rw [List.append_nil] at hs
          have hlen2 : (as.map zT).length = n := by rw [List.length_map]; exact hlen
          simp only [zWP]
          rw [show (as.reverse ++ r).map zT = (as.map zT).reverse ++ r.map zT by simp]
          obtain ⟨c1, c2, c3, c4, d2, Q2, c5, c6, c7, c8⟩ := zInv_spec hk hs
          cases hhm : M.2.2.2.2.1 with
          | nil => exact wp_call2 hn hd1 hq hlen2 c1 c5 c2 c3 c4 c6 c7 hhm (fun E h1 hq1 => by
              obtain ⟨h2, e2, q⟩ := c8 E h1 hq1
              simp only [zXc, hhm] at q
              exact ⟨.inr E, h2, rfl, e2, q⟩)
          | cons h0 hr0 =>
            exfalso
            exact hnoS h0 hr0 hhm
        · obtain ⟨as, r, rfl, hlen, hs⟩ := zPop_spec hs
          rw [List.append_nil] at hs
          have hlen2 : (as.map zT).length = n := by rw [List.length_map]; exact hlen
          simp only [zWP]
          rw [show (as.reverse ++ r).map zT = (as.map zT).reverse ++ r.map zT by simp]
          obtain ⟨c1, c2, c3, c4, d2, Q2, c5, c6, c7, c8⟩ := zInv_spec hk hs
          exact wp_call3 hn hd1 hq hlen2 c1 c5 c2 c3 c4 c6 c7 (fun E h1 hq1 => by
            obtain ⟨h2, e2, q⟩ := c8 E h1 hq1
            exact q)
        · obtain ⟨as, r, rfl, hlen, hs⟩ := zPop_spec hs
          rw [List.append_nil] at hs
          have hlen2 : (as.map zT).length = n := by rw [List.length_map]; exact hlen
          simp only [zWP]
          rw [show (as.reverse ++ r).map zT = (as.map zT).reverse ++ r.map zT by simp]
          obtain ⟨c1, c2, c3, c4, d2, Q2, c5, c6, c7, c8⟩ := zInv_spec hk hs
          exact wp_call8 hn hd1 hq hlen2 c1 c5 c2 c3 c4 c6 c7 (fun E h1 hq1 => by
            obtain ⟨h2, e2, q⟩ := c8 E h1 hq1
            exact q)
        · split at hs
          · rename_i n9 dp k1 sp k0 r
            split at hs
            · rename_i m0 f m1 g hh0 hh1
              replace hs := mCond hs
              obtain ⟨hb, hs⟩ := hs
              obtain ⟨ix, hw⟩ := mMt_ok _ (mLk_mem hq)
              simp only [Bool.and_eq_true] at hb
              obtain ⟨⟨hb1, hb2⟩, hb3⟩ := hb
              have hb2 := Nat.le_of_ble_eq_true hb2
              have hb3 := Nat.le_of_ble_eq_true hb3
              obtain ⟨⟨q1, q2, q3, q4, q5⟩, hs⟩ := hs
              have tn : ∀ z : Int, 0 ≤ z → z ≤ 100000 → (Int32.ofInt z).toNatClampNeg = z.toNat ∧ ¬ Int32.ofInt z < 0 := fun z z1 z2 => by
                have hr9 : rI z := ⟨by omega, by omega⟩
                refine ⟨?_, fun z3 => ?_⟩
                · show (Int32.ofInt z).toInt.toNat = _
                  rw [rI_to hr9]
                · have z4 : Int32.ofInt z < Int32.ofInt 0 := z3
                  rw [zI_lt hr9 rI_0] at z4
                  omega
              have t1 := tn sp q1 (by omega)
              have t2 := tn dp q2 (by omega)
              have t3 := tn n9 q3 (by omega)
              have k2 := hk _ _ _ _ _ _ hs
              simp only [zWP] at k2
              rw [← zH_set] at k2
              simp only [zC, zA, show ¬ (0 : Nat) = 1 by decide, if_false, ← zCpy] at k2
              rw [← t1.1, ← t2.1, ← t3.1] at k2
              exact wp_copy hn hd1 (mIs_mem hw) (zH_at hh0) (zH_at hh1) t1.2 t2.2 t3.2 (by rw [t1.1, t3.1]; show sp.toNat + n9.toNat ≤ m0; omega) (by rw [t2.1, t3.1]; show dp.toNat + n9.toNat ≤ m1; omega) (by rw [zCs_eq]; exact Nat.le_of_ble_eq_true hb1) k2
            · exact hs.elim
          · exact hs.elim
        · split at hs
          · replace hs := mCond hs
            obtain ⟨hb, hs⟩ := hs
            obtain ⟨ix, hw⟩ := mMt_ok _ (mLk_mem hq)
            obtain ⟨⟨q1, q2⟩, hs⟩ := hs
            have k2 := hk _ _ _ _ _ _ hs
            simp only [zWP, List.map_cons, zT] at k2
            rw [← zMin q1 q2] at k2
            exact wp_mmin hn hd1 (mIs_mem hw) (by rw [zCs_eq]; exact Nat.le_of_ble_eq_true hb) k2
          · exact hs.elim
        · split at hs
          · replace hs := mCond hs
            obtain ⟨hb, hs⟩ := hs
            obtain ⟨ix, hw⟩ := mMt_ok _ (mLk_mem hq)
            obtain ⟨⟨q1, q2⟩, hs⟩ := hs
            have k2 := hk _ _ _ _ _ _ hs
            simp only [zWP, List.map_cons, zT] at k2
            rw [← zMax q1 q2] at k2
            exact wp_mmax hn hd1 (mIs_mem hw) (by rw [zCs_eq]; exact Nat.le_of_ble_eq_true hb) k2
          · exact hs.elim
        · split at hs
          · replace hs := mCond hs
            obtain ⟨hb, hs⟩ := hs
            obtain ⟨ix, hw⟩ := mMt_ok _ (mLk_mem hq)
            obtain ⟨q1, hs⟩ := hs
            have k2 := hk _ _ _ _ _ _ hs
            simp only [zWP, List.map_cons, zT] at k2
            rw [← zAbs q1] at k2
            exact wp_mabs hn hd1 (mIs_mem hw) (by rw [zCs_eq]; exact Nat.le_of_ble_eq_true hb) k2
          · exact hs.elim
        · split at hs
          · replace hs := mCond hs
            obtain ⟨hb, hs⟩ := hs
            obtain ⟨ix, hw⟩ := mMt_ok _ (mLk_mem hq)
            obtain ⟨⟨q1, q2⟩, hs⟩ := hs
            have k2 := hk _ _ _ _ _ _ hs
            simp only [zWP, List.map_cons, zT] at k2
            rw [← zMaxL q1 q2] at k2
            exact wp_mmaxl hn hd1 (mIs_mem hw) (by rw [zCs_eq]; exact Nat.le_of_ble_eq_true hb) k2
          · exact hs.elim
        · exact hs.elim
      · exact hs.elim
  | invokespecial j =>
      simp only [zOp] at hs
      simp only [mTg, decide_eq_true_eq] at hg
      have hd1 := mDl hd hg
      clear hd
      subst hg
      split at hs
      · rename_i kd n M2 hq
        split at hs
        · obtain ⟨as, r, rfl, hlen, hs⟩ := zPop_spec hs
          rw [List.append_nil] at hs
          have hlen2 : (as.map zT).length = n := by rw [List.length_map]; exact hlen
          split at hs
          · rename_i k rest h9
            simp only [zWP]
            rw [show (as.reverse ++ .inr (.inr (some k)) :: rest).map zT = (as.map zT).reverse ++ .ref k :: rest.map zT by simp [zT]]
            obtain ⟨c1, c2, c3, c4, d2, Q2, c5, c6, c7, c8⟩ := zInv_spec hk hs
            exact wp_call4 hn hd1 hq hlen2 c1 c5 c2 c3 c4 c6 c7 (fun E h1 hq1 => by
              obtain ⟨h2, e2, q⟩ := c8 E h1 hq1
              exact q)
          · exact hs.elim
        · obtain ⟨as, r, rfl, hlen, hs⟩ := zPop_spec hs
          rw [List.append_nil] at hs
          have hlen2 : (as.map zT).length = n := by rw [List.length_map]; exact hlen
          split at hs
          · rename_i k rest h9
            simp only [zWP]
            rw [show (as.reverse ++ .inr (.inr (some k)) :: rest).map zT = (as.map zT).reverse ++ .ref k :: rest.map zT by simp [zT]]
            obtain ⟨c1, c2, c3, c4, d2, Q2, c5, c6, c7, c8⟩ := zInv_spec hk hs
            exact wp_call5 hn hd1 hq hlen2 c1 c5 c2 c3 c4 c6 c7 (fun E h1 hq1 => by
              obtain ⟨h2, e2, q⟩ := c8 E h1 hq1
              exact q)
          · exact hs.elim
        · split at hs
          · replace hs := mCond hs
            obtain ⟨hb, hs⟩ := hs
            obtain ⟨ix, hw⟩ := mMt_ok _ (mLk_mem hq)
            exact wp_obj hn hd1 (mIs_mem hw) (by rw [zCs_eq]; exact Nat.le_of_ble_eq_true hb) (hk _ _ _ _ _ _ hs)
          · exact hs.elim
        · exact hs.elim
      · exact hs.elim
  | _ => exact hs.elim
theorem zRun_sound {tb : mTb} {cuts : List Nat} (hM : mOkM M) (hns : mNoSt M tb) (hok : ∀ q ∈ tb, mTbOk M.2.1 q = true) : ∀ (f pc : Nat) (L : List (Option zV)) (st : List zV) (h : zH) (bc bs : Nat), zRun X M d Q tb cuts f pc L st h bc bs → zWP X M d Q pc L st h bc bs
  | 0, _, _, _, _, _, _, hs => hs
  | f + 1, pc, L, st, h, bc, bs, hs => by
    simp only [zRun] at hs
    split at hs
    · rename_i i nx tg hlk
      refine zOp_sound hM hns hok hlk (fun pc L st h bc bs q => ?_) hs
      cases hc : cuts.elem pc with
      | true => rw [hc] at q; exact q
      | false => rw [hc] at q; exact zRun_sound hM hns hok f pc L st h bc bs q
    · exact hs.elim
def zEnt : List zV → List (Option zV)
  | [] => []
  | .inr (.inl x) :: r => some (.inr (.inl x)) :: none :: zEnt r
  | .inl x :: r => some (.inl x) :: zEnt r
  | .inr (.inr x) :: r => some (.inr (.inr x)) :: zEnt r
def zPad (n : Nat) (l : List (Option zV)) : List (Option zV) := match n, l with
  | n + 1, v :: r => v :: zPad n r
  | n + 1, [] => none :: zPad n []
  | 0, l => l
theorem zEnt_eq : ∀ as : List zV, mEnt (as.map zT) = zL (zEnt as)
  | [] => rfl
  | .inl x :: r => by simp [mEnt, zEnt, zT, zL, zEnt_eq r]
  | .inr (.inl x) :: r => by simp [mEnt, zEnt, zT, zL, zEnt_eq r]
  | .inr (.inr none) :: r => by simp [mEnt, zEnt, zT, zL, zEnt_eq r]
  | .inr (.inr (some k)) :: r => by simp [mEnt, zEnt, zT, zL, zEnt_eq r]
theorem zPad_eq : ∀ (n : Nat) (l : List (Option zV)), mPad n (zL l) = zL (zPad n l)
  | 0, l => rfl
  | n + 1, [] => by
    have := zPad_eq n []
    simp [mPad, zPad, zL] at this ⊢
    exact this
  | n + 1, v :: r => by
    have := zPad_eq n r
    simp [mPad, zPad, zL] at this ⊢
    exact this
theorem zEv_run {as : List zV} {tb : mTb} (g : mGood M tb) (f : Nat) (cuts : List Nat) (hlen : Nat.ble (zEnt as).length M.2.2.1 = true) (k : zRun X M d Q tb cuts f 0 (zPad M.2.2.1 (zEnt as)) [] h M.2.2.2.2.2.2.1 M.2.2.2.2.2.2.2) : zEv X d M as h Q := by
  have k1 := zRun_sound g.2.1 g.2.2.1 g.2.2.2 f _ _ _ _ _ _ k
  simp only [zWP] at k1
  rw [← zPad_eq, ← zEnt_eq] at k1
  refine mEv_of g.1 ?_ k1
  rw [zEnt_eq]
  simp only [zL, List.length_map]
  exact Nat.le_of_ble_eq_true hlen
theorem zWP_run {tb : mTb} (g : mGood M tb) (f : Nat) (cuts : List Nat) {pc : Nat} {L : List (Option zV)} {st : List zV} {bc bs : Nat} (k : zRun X M d Q tb cuts f pc L st h bc bs) : zWP X M d Q pc L st h bc bs := zRun_sound g.2.1 g.2.2.1 g.2.2.2 f _ _ _ _ _ _ k
theorem zBr {p c a b : Prop} (hp : p) (ha : c → a) (hb : ¬ c → b) : mVc p (mBr c a b) := ⟨hp, ha, hb⟩
theorem zBrT {p c a b : Prop} (hp : p) (hc : c) (ha : a) : mVc p (mBr c a b) := ⟨hp, fun _ => ha, fun q => (q hc).elim⟩
theorem zBrF {p c a b : Prop} (hp : p) (hc : ¬ c) (hb : b) : mVc p (mBr c a b) := ⟨hp, fun q => (hc q).elim, fun _ => hb⟩
theorem zCl_i {d2 : Nat} {M2 : mM} {as : List zV} {K Q2 : zO → zH → Prop} (hE : zEv X d2 M2 as h Q2) (hd : d2 < d) (hk : ∀ (o : zO) (h1 : zH), Q2 o h1 → K o h1) : zCl X d M2 as h K := ⟨d2, Q2, hd, hE, hk⟩
/-- a call with one outcome -/
def zIs (o : zO) (h : zH) : zO → zH → Prop := fun o9 h9 => o9 = o ∧ h9 = h
theorem zCl_e {d2 : Nat} {M2 : mM} {as : List zV} {K : zO → zH → Prop} {o : zO} {h1 : zH} (hE : zEv X d2 M2 as h (zIs o h1)) (hd : d2 < d) (hk : K o h1) : zCl X d M2 as h K := ⟨d2, _, hd, hE, fun o9 h9 q => by rw [q.1, q.2]; exact hk⟩
end zSn
end
section
/-! the system's cells -/
abbrev zR (k : Nat) : zV := .inr (.inr (some k))
abbrev zI (z : Int) : zV := .inl z
abbrev zJ (z : Int) : zV := .inr (.inl z)
/-- a state: its numbers, its rows, its images -/
abbrev sS : Type := (Nat → Int) × (Nat → Nat → Int) × (Nat → Option Nat)
def cX (S : sS) : zH :=
  [.inr (9, [zR 1, zR 3, zR 5, zR 9, zR 10, zR 14, zR 15, zR 18, zR 19, zR 28]),
   .inr (6, [zR 2, zI (S.1 0)]),
   .inl (2, 600, .inl (S.2.1 0)),
   .inr (5, [zR 1, zR 4, zI (S.1 1), zI (S.1 2), zI (S.1 3), zI (S.1 4), zI (S.1 5), zI (S.1 6), zI (S.1 7), zI (S.1 8), zI (S.1 9), zI (S.1 10), zI (S.1 11)]),
   .inl (0, 39, .inl (S.2.1 1)),
   .inr (2, [zI (S.1 12), zI (S.1 13), zI (S.1 14), zI (S.1 15), zI (S.1 16), zR 6, zR 7, zR 8]),
   .inl (0, 39, .inl (S.2.1 2)),
   .inl (0, 60, .inl (S.2.1 3)),
   .inl (0, 2340, .inl (S.2.1 4)),
   .inr (1, [zI (S.1 17)]),
   .inr (4, [zR 5, zR 11, zR 12, zR 13]),
   .inl (1, 31, .inl (S.2.1 5)),
   .inl (1, 31, .inl (S.2.1 6)),
   .inl (1, 64, .inl (S.2.1 7)),
   .inr (0, [zR 5]),
   .inr (8, [zR 5, zR 16, zR 17]),
   .inl (0, 7, .inl (S.2.1 8)),
   .inl (0, 4, .inl (S.2.1 9)),
   .inr (3, [zR 5]),
   .inl (4, 4, .inr (fun i => match i with
     | 0 => some 20
     | 1 => some 22
     | 2 => some 24
     | 3 => some 26
     | _ => none)),
   .inr (7, [zR 21, zI (S.1 18), zI (S.1 19), zI (S.1 20)]),
   .inl (1, 30, .inl (S.2.1 10)),
   .inr (7, [zR 23, zI (S.1 21), zI (S.1 22), zI (S.1 23)]),
   .inl (1, 30, .inl (S.2.1 11)),
   .inr (7, [zR 25, zI (S.1 24), zI (S.1 25), zI (S.1 26)]),
   .inl (1, 30, .inl (S.2.1 12)),
   .inr (7, [zR 27, zI (S.1 27), zI (S.1 28), zI (S.1 29)]),
   .inl (1, 30, .inl (S.2.1 13)),
   .inl (5, 3, .inr S.2.2)]
end
section
/-! bits of small numbers; what a table holds, told apart from how it is held -/
theorem bt_shr0 : ∀ c : Fin 64, ∀ k : Fin 6, (Int32.ofInt ((Int32.ofInt (c.val : Int) >>> (Int32.ofInt (k.val : Int) &&& 31)).toInt) &&& Int32.ofInt 1).toInt = (c.val : Int) / 2 ^ k.val % 2 := by decide +kernel
theorem bt_shl0 : ∀ k : Fin 11, (Int32.ofInt 1 <<< (Int32.ofInt (k.val : Int) &&& 31)).toInt = 2 ^ k.val := by decide +kernel
theorem bt_or0 : ∀ c : Fin 64, ∀ k : Fin 6, (Int32.ofInt (c.val : Int) ||| Int32.ofInt (2 ^ k.val)).toInt = if (c.val : Int) / 2 ^ k.val % 2 = 1 then (c.val : Int) else c.val + 2 ^ k.val := by decide +kernel
theorem bt_shr {c k : Int} (h0 : 0 ≤ c) (h1 : c < 64) (h2 : 0 ≤ k) (h3 : k < 6) : (Int32.ofInt ((Int32.ofInt c >>> (Int32.ofInt k &&& 31)).toInt) &&& Int32.ofInt 1).toInt = c / 2 ^ k.toNat % 2 := by
  have h := bt_shr0 ⟨c.toNat, by omega⟩ ⟨k.toNat, by omega⟩
  simp only [Int.toNat_of_nonneg h0, Int.toNat_of_nonneg h2] at h
  exact h
theorem bt_shl {k : Int} (h2 : 0 ≤ k) (h3 : k < 11) : (Int32.ofInt 1 <<< (Int32.ofInt k &&& 31)).toInt = 2 ^ k.toNat := by
  have h := bt_shl0 ⟨k.toNat, by omega⟩
  simp only [Int.toNat_of_nonneg h2] at h
  exact h
theorem bt_or {c k : Int} (h0 : 0 ≤ c) (h1 : c < 64) (h2 : 0 ≤ k) (h3 : k < 6) : (Int32.ofInt c ||| Int32.ofInt (2 ^ k.toNat)).toInt = if c / 2 ^ k.toNat % 2 = 1 then c else c + 2 ^ k.toNat := by
  have h := bt_or0 ⟨c.toNat, by omega⟩ ⟨k.toNat, by omega⟩
  simp only [Int.toNat_of_nonneg h0] at h
  exact h
/-- dice, hands, heats and lots as they stand: WEIGHTS, salt (0, 1), HEAT, the die by lot (-1) -/
abbrev vS : Type := (Int → Int → Int) × (Int → Int) × (Int → Int) × (Int → Int)
/-- LINES, DICE, HANDS, ants, THROWS; the table now; of each THROW the die, the hand, the face; the table ahead of each -/
abbrev vV : Type := (Nat → Int) × vS × (Int → Int) × (Int → Int) × (Int → Int) × (Int → vS)
def vSb (s : vS) : Prop := (∀ d f, 0 ≤ s.1 d f ∧ s.1 d f ≤ 20) ∧ (∀ d, s.2.1 d = 0 ∨ s.2.1 d = 1) ∧ (∀ k, 0 ≤ s.2.2.1 k ∧ s.2.2.1 k ≤ 9) ∧ (∀ k, -1 ≤ s.2.2.2 k ∧ s.2.2.2 k ≤ 4)
def vVb (v : vV) : Prop := (0 ≤ v.1 0 ∧ v.1 0 ≤ 600) ∧ (0 ≤ v.1 1 ∧ v.1 1 ≤ 5) ∧ (0 ≤ v.1 2 ∧ v.1 2 ≤ 4) ∧ (1 ≤ v.1 3 ∧ v.1 3 ≤ 6) ∧ (0 ≤ v.1 4 ∧ v.1 4 ≤ 60) ∧ vSb v.2.1 ∧ ∀ k, 0 ≤ k → k < v.1 4 → (0 ≤ v.2.2.1 k ∧ v.2.2.1 k < v.1 1) ∧ (0 ≤ v.2.2.2.1 k ∧ v.2.2.2.1 k < v.1 2) ∧ (1 ≤ v.2.2.2.2.1 k ∧ v.2.2.2.2.1 k ≤ 6) ∧ vSb (v.2.2.2.2.2 k)
/-- a row of 39 cells, from its place a on, holds the table s of n hands -/
def vRow (c : Nat → Int) (a : Nat) (n : Int) (s : vS) : Prop := (∀ d f : Int, 0 ≤ d → d < 5 → 1 ≤ f → f ≤ 6 → c (a + (d * 6 + f - 1).toNat) = s.1 d f) ∧ c (a + 30) = s.2.1 0 + 2 * s.2.1 1 + 4 * s.2.1 2 + 8 * s.2.1 3 + 16 * s.2.1 4 ∧ (∀ k : Int, 0 ≤ k → k < 4 → c (a + (31 + k).toNat) = s.2.2.1 k) ∧ ∀ k : Int, 0 ≤ k → k < n → c (a + (35 + k).toNat) = s.2.2.2 k
/-- the system's cells hold v -/
def vX (S : sS) (v : vV) : Prop := vVb v ∧ S.1 12 = v.1 0 ∧ S.1 13 = v.1 1 ∧ S.1 14 = v.1 2 ∧ S.1 15 = v.1 3 ∧ S.1 16 = v.1 4 ∧ vRow (S.2.1 2) 0 (v.1 2) v.2.1 ∧ ∀ k : Int, 0 ≤ k → k < v.1 4 → S.2.1 3 k.toNat = 100 * v.2.2.1 k + 10 * v.2.2.2.1 k + v.2.2.2.2.1 k ∧ vRow (S.2.1 4) (39 * k.toNat) (v.1 2) (v.2.2.2.2.2 k)
def vTot (s : vS) (d : Int) : Int := s.1 d 1 + s.1 d 2 + s.1 d 3 + s.1 d 4 + s.1 d 5 + s.1 d 6
theorem vTot_b {s : vS} (h : vSb s) (d : Int) : 0 ≤ vTot s d ∧ vTot s d ≤ 120 := by
  have h1 := h.1 d 1
  have h2 := h.1 d 2
  have h3 := h.1 d 3
  have h4 := h.1 d 4
  have h5 := h.1 d 5
  have h6 := h.1 d 6
  simp only [vTot]
  omega
theorem vBit {s : vS} (h : vSb s) {d : Int} (h0 : 0 ≤ d) (h1 : d < 5) : (s.2.1 0 + 2 * s.2.1 1 + 4 * s.2.1 2 + 8 * s.2.1 3 + 16 * s.2.1 4) / 2 ^ d.toNat % 2 = s.2.1 d ∧ 0 ≤ s.2.1 0 + 2 * s.2.1 1 + 4 * s.2.1 2 + 8 * s.2.1 3 + 16 * s.2.1 4 ∧ s.2.1 0 + 2 * s.2.1 1 + 4 * s.2.1 2 + 8 * s.2.1 3 + 16 * s.2.1 4 < 32 := by
  have b0 := h.2.1 0
  have b1 := h.2.1 1
  have b2 := h.2.1 2
  have b3 := h.2.1 3
  have b4 := h.2.1 4
  have hd : d = 0 ∨ d = 1 ∨ d = 2 ∨ d = 3 ∨ d = 4 := by omega
  rcases hd with rfl | rfl | rfl | rfl | rfl
  · have e : (2 : Int) ^ (0 : Int).toNat = 1 := rfl
    rw [e]; omega
  · have e : (2 : Int) ^ (1 : Int).toNat = 2 := rfl
    rw [e]; omega
  · have e : (2 : Int) ^ (2 : Int).toNat = 4 := rfl
    rw [e]; omega
  · have e : (2 : Int) ^ (3 : Int).toNat = 8 := rfl
    rw [e]; omega
  · have e : (2 : Int) ^ (4 : Int).toNat = 16 := rfl
    rw [e]; omega
end
section
section Game
variable {X : mX} {S : sS} {t : zH} {v : vV}
set_option maxHeartbeats 4000000 in
set_option maxRecDepth 100000 in
theorem gd_t (hv : vX S v) {x : Int} (h0 : 0 ≤ x) (h1 : x < v.1 1) : zEv X 1 mX2_hasDie [zR 5, zI x] (cX S ++ t) (zIs (.inl (some (zI (1)))) (cX S ++ t)) := by
  obtain ⟨hb, -, e1, e2, e3, e4, hrow, -⟩ := hv
  obtain ⟨b0, b1, b2, b3, b4, bs, -⟩ := hb
  refine zEv_run gX2_hasDie 60 [] rfl ?_
  repeat (first
    | refine zBrT (by simp only [rI]; omega) (by omega) ?_
    | refine zBrF (by simp only [rI]; omega) (by omega) ?_
    | refine mVc_i (by first | omega | (simp only [rI]; omega)) ?_)
  exact ⟨rfl, rfl⟩
set_option maxHeartbeats 4000000 in
set_option maxRecDepth 100000 in
theorem gd_f (hv : vX S v) {x : Int} (hx : rI x) (h0 : ¬ (0 ≤ x ∧ x < v.1 1)) : zEv X 1 mX2_hasDie [zR 5, zI x] (cX S ++ t) (zIs (.inl (some (zI (0)))) (cX S ++ t)) := by
  obtain ⟨hb, -, e1, e2, e3, e4, hrow, -⟩ := hv
  obtain ⟨b0, b1, b2, b3, b4, bs, -⟩ := hb
  have hx1 := hx.1
  have hx2 := hx.2
  refine zEv_run gX2_hasDie 60 [] rfl ?_
  by_cases hn : x < 0
  · refine zBrT hx hn ?_
    exact mVc_i (Or.inl rfl) ⟨rfl, rfl⟩
  · refine zBrF hx hn ?_
    refine zBrT ⟨hx, by simp only [rI]; omega⟩ (by omega) ?_
    exact mVc_i (Or.inl rfl) ⟨rfl, rfl⟩
set_option maxHeartbeats 4000000 in
set_option maxRecDepth 100000 in
theorem gh_t (hv : vX S v) {x : Int} (h0 : 0 ≤ x) (h1 : x < v.1 2) : zEv X 1 mX2_hasHand [zR 5, zI x] (cX S ++ t) (zIs (.inl (some (zI (1)))) (cX S ++ t)) := by
  obtain ⟨hb, -, e1, e2, e3, e4, hrow, -⟩ := hv
  obtain ⟨b0, b1, b2, b3, b4, bs, -⟩ := hb
  refine zEv_run gX2_hasHand 60 [] rfl ?_
  repeat (first
    | refine zBrT (by simp only [rI]; omega) (by omega) ?_
    | refine zBrF (by simp only [rI]; omega) (by omega) ?_
    | refine mVc_i (by first | omega | (simp only [rI]; omega)) ?_)
  exact ⟨rfl, rfl⟩
set_option maxHeartbeats 4000000 in
set_option maxRecDepth 100000 in
theorem gh_f (hv : vX S v) {x : Int} (hx : rI x) (h0 : ¬ (0 ≤ x ∧ x < v.1 2)) : zEv X 1 mX2_hasHand [zR 5, zI x] (cX S ++ t) (zIs (.inl (some (zI (0)))) (cX S ++ t)) := by
  obtain ⟨hb, -, e1, e2, e3, e4, hrow, -⟩ := hv
  obtain ⟨b0, b1, b2, b3, b4, bs, -⟩ := hb
  have hx1 := hx.1
  have hx2 := hx.2
  refine zEv_run gX2_hasHand 60 [] rfl ?_
  by_cases hn : x < 0
  · refine zBrT hx hn ?_
    exact mVc_i (Or.inl rfl) ⟨rfl, rfl⟩
  · refine zBrF hx hn ?_
    refine zBrT ⟨hx, by simp only [rI]; omega⟩ (by omega) ?_
    exact mVc_i (Or.inl rfl) ⟨rfl, rfl⟩
set_option maxHeartbeats 4000000 in
set_option maxRecDepth 100000 in
theorem gw (hv : vX S v) {x f : Int} (h0 : 0 ≤ x) (h1 : x < v.1 1) (h2 : 1 ≤ f) (h3 : f ≤ 6) : zEv X 1 mX2_weight [zR 5, zI x, zI f] (cX S ++ t) (zIs (.inl (some (zI (v.2.1.1 x f)))) (cX S ++ t)) := by
  obtain ⟨hb, -, e1, e2, e3, e4, hrow, -⟩ := hv
  obtain ⟨b0, b1, b2, b3, b4, bs, -⟩ := hb
  refine zEv_run gX2_weight 60 [] rfl ?_
  repeat (first
    | refine zBrT (by simp only [rI]; omega) (by omega) ?_
    | refine zBrF (by simp only [rI]; omega) (by omega) ?_
    | refine mVc_i (by first | omega | (simp only [rI]; omega)) ?_)
  refine ⟨?_, rfl⟩
  rw [← hrow.1 x f h0 (by omega) h2 h3, Nat.zero_add]
set_option maxHeartbeats 4000000 in
set_option maxRecDepth 100000 in
theorem gtot (hv : vX S v) {x : Int} (h0 : 0 ≤ x) (h1 : x < v.1 1) : zEv X 2 mX2_total [zR 5, zI x] (cX S ++ t) (zIs (.inl (some (zI (vTot v.2.1 x)))) (cX S ++ t)) := by
  refine zEv_run gX2_total 200 [] rfl ?_
  repeat (first
    | refine zBrT (by simp only [rI]; omega) (by omega) ?_
    | refine zBrF (by simp only [rI]; omega) (by omega) ?_
    | refine zCl_e (gw hv (by omega) (by omega) (by omega) (by omega)) (by decide) ?_
    | refine mVc_i (by first | omega | (simp only [rI]; omega)) ?_)
  refine ⟨?_, rfl⟩
  simp only [vTot, Int.zero_add]
  rfl
theorem gbd (hv : vX S v) (d f : Int) : 0 ≤ v.2.1.1 d f ∧ v.2.1.1 d f ≤ 20 := hv.1.2.2.2.2.2.1.1 d f
theorem gtb (hv : vX S v) (d : Int) : 0 ≤ vTot v.2.1 d ∧ vTot v.2.1 d ≤ 120 := vTot_b hv.1.2.2.2.2.2.1 d
set_option maxHeartbeats 4000000 in
set_option maxRecDepth 100000 in
theorem ggone (hv : vX S v) {x : Int} (h0 : 0 ≤ x) (h1 : x < v.1 1) : zEv X 3 mX2_isGone [zR 5, zI x] (cX S ++ t) (zIs (.inl (some (zI (if vTot v.2.1 x = 0 then 1 else 0)))) (cX S ++ t)) := by
  have hb := gtb hv x
  refine zEv_run gX2_isGone 60 [] rfl ?_
  refine zCl_e (gtot hv h0 h1) (by decide) ?_
  refine zBr (by simp only [rI]; omega) (fun c => ?_) (fun c => ?_)
  · refine mVc_i (Or.inr rfl) ⟨?_, rfl⟩
    rw [if_pos c]
  · refine mVc_i (Or.inl rfl) ⟨?_, rfl⟩
    rw [if_neg c]
set_option maxHeartbeats 4000000 in
set_option maxRecDepth 100000 in
theorem gsalt (hv : vX S v) {x : Int} (h0 : 0 ≤ x) (h1 : x < v.1 1) : zEv X 1 mX2_isSalt [zR 5, zI x] (cX S ++ t) (zIs (.inl (some (zI (v.2.1.2.1 x)))) (cX S ++ t)) := by
  obtain ⟨hb, -, e1, e2, e3, e4, hrow, -⟩ := hv
  obtain ⟨b0, b1, b2, b3, b4, bs, -⟩ := hb
  have hq := vBit bs h0 (d := x) (by omega)
  have hs := bs.2.1 x
  have e9 := hrow.2.1
  rw [Nat.zero_add] at e9
  have e10 := bt_shr (c := S.2.1 2 30) (k := x) (by omega) (by omega) h0 (by omega)
  rw [e9, hq.1] at e10
  refine zEv_run gX2_isSalt 60 [] rfl ?_
  refine mVc_i (by first | omega | (simp only [rI]; omega)) ?_
  refine zBr ⟨?_, by simp only [rI]; omega⟩ (fun c => ?_) (fun c => ?_)
  · show rI ((Int32.ofInt ((Int32.ofInt (S.2.1 2 30) >>> (Int32.ofInt x &&& 31)).toInt) &&& Int32.ofInt 1).toInt)
    rw [e9, e10]
    simp only [rI]
    omega
  · have c2 : (Int32.ofInt ((Int32.ofInt (S.2.1 2 30) >>> (Int32.ofInt x &&& 31)).toInt) &&& Int32.ofInt 1).toInt = 1 := c
    rw [e9, e10] at c2
    exact mVc_i (Or.inr rfl) ⟨by rw [c2], rfl⟩
  · have c2 : ¬ (Int32.ofInt ((Int32.ofInt (S.2.1 2 30) >>> (Int32.ofInt x &&& 31)).toInt) &&& Int32.ofInt 1).toInt = 1 := c
    rw [e9, e10] at c2
    have c3 : v.2.1.2.1 x = 0 := by omega
    exact mVc_i (Or.inl rfl) ⟨by rw [c3], rfl⟩
set_option maxHeartbeats 4000000 in
set_option maxRecDepth 100000 in
theorem gheat (hv : vX S v) {x : Int} (h0 : 0 ≤ x) (h1 : x < v.1 2) : zEv X 2 mX2_heat [zR 5, zI x] (cX S ++ t) (zIs (.inl (some (zI (v.2.1.2.2.1 x)))) (cX S ++ t)) := by
  have hv0 := hv
  obtain ⟨hb, -, e1, e2, e3, e4, hrow, -⟩ := hv
  obtain ⟨b0, b1, b2, b3, b4, bs, -⟩ := hb
  refine zEv_run gX2_heat 60 [] rfl ?_
  repeat (first
    | refine zBrT (by simp only [rI]; omega) (by omega) ?_
    | refine zBrF (by simp only [rI]; omega) (by omega) ?_
    | refine zCl_e (gh_t hv0 (by omega) (by omega)) (by decide) ?_
    | refine mVc_i (by first | omega | (simp only [rI]; omega)) ?_)
  refine ⟨?_, rfl⟩
  rw [← hrow.2.2.1 x h0 (by omega), Nat.zero_add]
set_option maxHeartbeats 4000000 in
set_option maxRecDepth 100000 in
theorem glot (hv : vX S v) {x : Int} (h0 : 0 ≤ x) (h1 : x < v.1 2) : zEv X 2 mX2_dieByLot [zR 5, zI x] (cX S ++ t) (zIs (.inl (some (zI (v.2.1.2.2.2 x)))) (cX S ++ t)) := by
  have hv0 := hv
  obtain ⟨hb, -, e1, e2, e3, e4, hrow, -⟩ := hv
  obtain ⟨b0, b1, b2, b3, b4, bs, -⟩ := hb
  refine zEv_run gX2_dieByLot 60 [] rfl ?_
  repeat (first
    | refine zBrT (by simp only [rI]; omega) (by omega) ?_
    | refine zBrF (by simp only [rI]; omega) (by omega) ?_
    | refine zCl_e (gh_t hv0 (by omega) (by omega)) (by decide) ?_
    | refine mVc_i (by first | omega | (simp only [rI]; omega)) ?_)
  refine ⟨?_, rfl⟩
  rw [← hrow.2.2.2 x h0 h1, Nat.zero_add]
set_option maxHeartbeats 4000000 in
set_option maxRecDepth 100000 in
theorem groom (hv : vX S v) : zEv X 1 mX2_hasRoomForThrow [zR 5] (cX S ++ t) (zIs (.inl (some (zI (if v.1 4 < 60 then 1 else 0)))) (cX S ++ t)) := by
  obtain ⟨hb, -, e1, e2, e3, e4, hrow, -⟩ := hv
  obtain ⟨b0, b1, b2, b3, b4, bs, -⟩ := hb
  refine zEv_run gX2_hasRoomForThrow 60 [] rfl ?_
  refine zBr (by simp only [rI]; omega) (fun c => ?_) (fun c => ?_)
  · refine mVc_i (Or.inl rfl) ⟨?_, rfl⟩
    rw [if_neg (by omega)]
  · refine mVc_i (Or.inr rfl) ⟨?_, rfl⟩
    rw [if_pos (by omega)]
end Game
end
section
/-! sums, changes of a state; Game's writes -/
def vSum (f : Int → Int) : Nat → Int
  | 0 => 0
  | k + 1 => vSum f k + f k
def zSum (f : Int → Int) (i : Int) : Int := vSum f i.toNat
theorem zSum_0 (f : Int → Int) : zSum f 0 = 0 := rfl
theorem zSum_s {f : Int → Int} {i : Int} (h : 0 ≤ i) : zSum f (i + 1) = zSum f i + f i := by
  have e : (i + 1).toNat = i.toNat + 1 := by omega
  have e2 : ((i.toNat : Nat) : Int) = i := by omega
  simp only [zSum, e, vSum, e2]
theorem zSum_b {f : Int → Int} {c : Int} (h : ∀ i, 0 ≤ f i ∧ f i ≤ c) : ∀ k : Nat, 0 ≤ vSum f k ∧ vSum f k ≤ k * c
  | 0 => by simp [vSum]
  | k + 1 => by
    have h1 := zSum_b h k
    have h2 := h k
    have e : ((k + 1 : Nat) : Int) * c = k * c + c := by rw [Int.natCast_succ, Int.add_mul, Int.one_mul]
    simp only [vSum]
    omega
theorem zSum_bd {f : Int → Int} {c i n : Int} (h : ∀ i, 0 ≤ f i ∧ f i ≤ c) (h0 : 0 ≤ i) (hi : i ≤ n) (hc : 0 ≤ c) : 0 ≤ zSum f i ∧ zSum f i ≤ n * c := by
  have h1 := zSum_b h i.toNat
  have e2 : ((i.toNat : Nat) : Int) = i := by omega
  rw [e2] at h1
  exact ⟨h1.1, Int.le_trans h1.2 (Int.mul_le_mul_of_nonneg_right hi hc)⟩
def sA (S : sS) (r : Nat) (f : Nat → Int) : sS := (S.1, va_up S.2.1 r f, S.2.2)
def sI (S : sS) (i : Nat) (z : Int) : sS := (va_up S.1 i z, S.2.1, S.2.2)
def vW (v : vV) (d f z : Int) : vV := (v.1, (fun d1 f1 => if d1 = d ∧ f1 = f then z else v.2.1.1 d1 f1, v.2.1.2), v.2.2)
def vHt (v : vV) (k z : Int) : vV := (v.1, (v.2.1.1, v.2.1.2.1, fun k1 => if k1 = k then z else v.2.1.2.2.1 k1, v.2.1.2.2.2), v.2.2)
def vSl (v : vV) (d : Int) : vV := (v.1, (v.2.1.1, fun d1 => if d1 = d then 1 else v.2.1.2.1 d1, v.2.1.2.2), v.2.2)
theorem va_up_s {α : Type} (f : Nat → α) (k : Nat) (x : α) : va_up f k x k = x := by simp [va_up]
theorem va_up_o {α : Type} (f : Nat → α) {k j : Nat} (x : α) (h : j ≠ k) : va_up f k x j = f j := by simp [va_up, h]
theorem vX_w {S : sS} {v : vV} (hv : vX S v) {d f z : Int} (h0 : 0 ≤ d) (h1 : d < 5) (h2 : 1 ≤ f) (h3 : f ≤ 6) (hz : 0 ≤ z ∧ z ≤ 20) : vX (sA S 2 (va_up (S.2.1 2) (d * 6 + f - 1).toNat z)) (vW v d f z) := by
  obtain ⟨⟨b0, b1, b2, b3, b4, bs, bh⟩, e0, e1, e2, e3, e4, hr, hh⟩ := hv
  refine ⟨⟨b0, b1, b2, b3, b4, ⟨fun d1 f1 => ?_, bs.2⟩, bh⟩, e0, e1, e2, e3, e4, ⟨fun d1 f1 g0 g1 g2 g3 => ?_, ?_, fun k k0 k1 => ?_, fun k k0 k1 => ?_⟩, hh⟩
  · show 0 ≤ (if d1 = d ∧ f1 = f then z else v.2.1.1 d1 f1) ∧ (if d1 = d ∧ f1 = f then z else v.2.1.1 d1 f1) ≤ 20
    split
    · exact hz
    · exact bs.1 d1 f1
  · show va_up (S.2.1 2) (d * 6 + f - 1).toNat z (0 + (d1 * 6 + f1 - 1).toNat) = if d1 = d ∧ f1 = f then z else v.2.1.1 d1 f1
    split
    · rename_i c
      rw [c.1, c.2, Nat.zero_add, va_up_s]
    · rename_i c
      rw [va_up_o _ _ (by omega)]
      exact hr.1 d1 f1 g0 g1 g2 g3
  · show va_up (S.2.1 2) (d * 6 + f - 1).toNat z (0 + 30) = _
    rw [va_up_o _ _ (by omega)]
    exact hr.2.1
  · show va_up (S.2.1 2) (d * 6 + f - 1).toNat z (0 + (31 + k).toNat) = _
    rw [va_up_o _ _ (by omega)]
    exact hr.2.2.1 k k0 k1
  · show va_up (S.2.1 2) (d * 6 + f - 1).toNat z (0 + (35 + k).toNat) = _
    rw [va_up_o _ _ (by omega)]
    exact hr.2.2.2 k k0 k1
theorem vX_h {S : sS} {v : vV} (hv : vX S v) {q z : Int} (h0 : 0 ≤ q) (h1 : q < 4) (hz : 0 ≤ z ∧ z ≤ 9) : vX (sA S 2 (va_up (S.2.1 2) (31 + q).toNat z)) (vHt v q z) := by
  obtain ⟨⟨b0, b1, b2, b3, b4, bs, bh⟩, e0, e1, e2, e3, e4, hr, hh⟩ := hv
  refine ⟨⟨b0, b1, b2, b3, b4, ⟨bs.1, bs.2.1, fun k => ?_, bs.2.2.2⟩, bh⟩, e0, e1, e2, e3, e4, ⟨fun d1 f1 g0 g1 g2 g3 => ?_, ?_, fun k k0 k1 => ?_, fun k k0 k1 => ?_⟩, hh⟩
  · show 0 ≤ (if k = q then z else v.2.1.2.2.1 k) ∧ (if k = q then z else v.2.1.2.2.1 k) ≤ 9
    split
    · exact hz
    · exact bs.2.2.1 k
  · show va_up (S.2.1 2) (31 + q).toNat z (0 + (d1 * 6 + f1 - 1).toNat) = _
    rw [va_up_o _ _ (by omega)]
    exact hr.1 d1 f1 g0 g1 g2 g3
  · show va_up (S.2.1 2) (31 + q).toNat z (0 + 30) = _
    rw [va_up_o _ _ (by omega)]
    exact hr.2.1
  · show va_up (S.2.1 2) (31 + q).toNat z (0 + (31 + k).toNat) = if k = q then z else v.2.1.2.2.1 k
    split
    · rename_i c
      rw [c, Nat.zero_add, va_up_s]
    · rw [va_up_o _ _ (by omega)]
      exact hr.2.2.1 k k0 k1
  · show va_up (S.2.1 2) (31 + q).toNat z (0 + (35 + k).toNat) = _
    rw [va_up_o _ _ (by omega)]
    exact hr.2.2.2 k k0 k1
theorem vX_s {S : sS} {v : vV} (hv : vX S v) {d : Int} (h0 : 0 ≤ d) (h1 : d < 5) : vX (sA S 2 (va_up (S.2.1 2) 30 (Int32.ofInt (S.2.1 2 30) ||| Int32.ofInt (2 ^ d.toNat)).toInt)) (vSl v d) := by
  obtain ⟨⟨b0, b1, b2, b3, b4, bs, bh⟩, e0, e1, e2, e3, e4, hr, hh⟩ := hv
  refine ⟨⟨b0, b1, b2, b3, b4, ⟨bs.1, fun d1 => ?_, bs.2.2⟩, bh⟩, e0, e1, e2, e3, e4, ⟨fun d1 f1 g0 g1 g2 g3 => ?_, ?_, fun k k0 k1 => ?_, fun k k0 k1 => ?_⟩, hh⟩
  · show (if d1 = d then 1 else v.2.1.2.1 d1) = 0 ∨ (if d1 = d then 1 else v.2.1.2.1 d1) = 1
    split
    · exact Or.inr rfl
    · exact bs.2.1 d1
  · show va_up (S.2.1 2) 30 (Int32.ofInt (S.2.1 2 30) ||| Int32.ofInt (2 ^ d.toNat)).toInt (0 + (d1 * 6 + f1 - 1).toNat) = _
    rw [va_up_o _ _ (by omega)]
    exact hr.1 d1 f1 g0 g1 g2 g3
  · show va_up (S.2.1 2) 30 (Int32.ofInt (S.2.1 2 30) ||| Int32.ofInt (2 ^ d.toNat)).toInt 30 = (if (0 : Int) = d then 1 else v.2.1.2.1 0) + 2 * (if (1 : Int) = d then 1 else v.2.1.2.1 1) + 4 * (if (2 : Int) = d then 1 else v.2.1.2.1 2) + 8 * (if (3 : Int) = d then 1 else v.2.1.2.1 3) + 16 * (if (4 : Int) = d then 1 else v.2.1.2.1 4)
    rw [va_up_s]
    have hq := vBit bs h0 h1
    have e9 := hr.2.1
    rw [Nat.zero_add] at e9
    rw [bt_or (by omega) (by omega) h0 (by omega), e9, hq.1]
    have c0 := bs.2.1 0
    have c1 := bs.2.1 1
    have c2 := bs.2.1 2
    have c3 := bs.2.1 3
    have c4 := bs.2.1 4
    have hd : d = 0 ∨ d = 1 ∨ d = 2 ∨ d = 3 ∨ d = 4 := by omega
    rcases hd with rfl | rfl | rfl | rfl | rfl
    · have e : (2 : Int) ^ (0 : Int).toNat = 1 := rfl
      rw [e]
      simp
      split <;> omega
    · have e : (2 : Int) ^ (1 : Int).toNat = 2 := rfl
      rw [e]
      simp
      split <;> omega
    · have e : (2 : Int) ^ (2 : Int).toNat = 4 := rfl
      rw [e]
      simp
      split <;> omega
    · have e : (2 : Int) ^ (3 : Int).toNat = 8 := rfl
      rw [e]
      simp
      split <;> omega
    · have e : (2 : Int) ^ (4 : Int).toNat = 16 := rfl
      rw [e]
      simp
      split <;> omega
  · show va_up (S.2.1 2) 30 (Int32.ofInt (S.2.1 2 30) ||| Int32.ofInt (2 ^ d.toNat)).toInt (0 + (31 + k).toNat) = _
    rw [va_up_o _ _ (by omega)]
    exact hr.2.2.1 k k0 k1
  · show va_up (S.2.1 2) 30 (Int32.ofInt (S.2.1 2 30) ||| Int32.ofInt (2 ^ d.toNat)).toInt (0 + (35 + k).toNat) = _
    rw [va_up_o _ _ (by omega)]
    exact hr.2.2.2 k k0 k1
section Game2
variable {X : mX} {S : sS} {t : zH} {v : vV}
set_option maxHeartbeats 4000000 in
set_option maxRecDepth 100000 in
theorem gall (hv : vX S v) : zEv X 3 mX2_allTotals [zR 5] (cX S ++ t) (zIs (.inl (some (zI (zSum (vTot v.2.1) (v.1 1))))) (cX S ++ t)) := by
  have hv0 := hv
  obtain ⟨hb, -, e1, e2, e3, e4, hrow, -⟩ := hv
  obtain ⟨b0, b1, b2, b3, b4, bs, -⟩ := hb
  have loop : ∀ (k : Nat) (i : Int), 0 ≤ i → i + k = v.1 1 → zWP X mX2_allTotals 3 (zIs (.inl (some (zI (zSum (vTot v.2.1) (v.1 1))))) (cX S ++ t)) 4 [some (zR 5), some (zI (zSum (vTot v.2.1) i)), some (zI i)] [] (cX S ++ t) 0 0 := by
    intro k
    induction k with
    | zero =>
      intro i h0 h1
      refine zWP_run gX2_allTotals 40 [4] ?_
      refine zBrT (by simp only [rI]; omega) (by omega) ?_
      exact ⟨by rw [show i = v.1 1 by omega], rfl⟩
    | succ k ih =>
      intro i h0 h1
      refine zWP_run gX2_allTotals 40 [4] ?_
      refine zBrF (by simp only [rI]; omega) (by omega) ?_
      refine zCl_e (gtot hv0 h0 (by omega)) (by decide) ?_
      have k1 := ih (i + 1) (by omega) (by omega)
      rw [zSum_s h0] at k1
      exact k1
  refine zEv_run gX2_allTotals 60 [4] rfl ?_
  exact loop (v.1 1).toNat 0 (by omega) (by omega)
set_option maxHeartbeats 4000000 in
set_option maxRecDepth 100000 in
theorem ggd (hv : vX S v) : zEv X 4 mX2_goneDice [zR 5] (cX S ++ t) (zIs (.inl (some (zI (zSum (fun d => if vTot v.2.1 d = 0 then 1 else 0) (v.1 1))))) (cX S ++ t)) := by
  have hv0 := hv
  obtain ⟨hb, -, e1, e2, e3, e4, hrow, -⟩ := hv
  obtain ⟨b0, b1, b2, b3, b4, bs, -⟩ := hb
  have loop : ∀ (k : Nat) (i : Int), 0 ≤ i → i + k = v.1 1 → zWP X mX2_goneDice 4 (zIs (.inl (some (zI (zSum (fun d => if vTot v.2.1 d = 0 then 1 else 0) (v.1 1))))) (cX S ++ t)) 4 [some (zR 5), some (zI (zSum (fun d => if vTot v.2.1 d = 0 then 1 else 0) i)), some (zI i)] [] (cX S ++ t) 0 0 := by
    intro k
    induction k with
    | zero =>
      intro i h0 h1
      refine zWP_run gX2_goneDice 40 [4] ?_
      refine zBrT (by simp only [rI]; omega) (by omega) ?_
      exact ⟨by rw [show i = v.1 1 by omega], rfl⟩
    | succ k ih =>
      intro i h0 h1
      refine zWP_run gX2_goneDice 40 [4] ?_
      refine zBrF (by simp only [rI]; omega) (by omega) ?_
      refine zCl_e (ggone hv0 h0 (by omega)) (by decide) ?_
      have k1 := ih (i + 1) (by omega) (by omega)
      rw [zSum_s h0] at k1
      by_cases c : vTot v.2.1 i = 0
      · simp only [c, if_true] at k1 ⊢
        refine zBrF (by simp only [rI]; omega) (by omega) ?_
        exact k1
      · simp only [c, if_false] at k1 ⊢
        refine zBrT (by simp only [rI]; omega) (by omega) ?_
        exact k1
  refine zEv_run gX2_goneDice 60 [4] rfl ?_
  exact loop (v.1 1).toNat 0 (by omega) (by omega)
set_option maxHeartbeats 4000000 in
set_option maxRecDepth 100000 in
theorem gmk (hv : vX S v) {x : Int} (h0 : 0 ≤ x) (h1 : x < v.1 1) : zEv X 2 mX2_makeSalt [zR 5, zI x] (cX S ++ t) (zIs (.inl none) (cX (sA S 2 (va_up (S.2.1 2) 30 (Int32.ofInt (S.2.1 2 30) ||| Int32.ofInt (2 ^ x.toNat)).toInt)) ++ t)) := by
  have hv0 := hv
  obtain ⟨hb, -, e1, e2, e3, e4, hrow, -⟩ := hv
  obtain ⟨b0, b1, b2, b3, b4, bs, -⟩ := hb
  have e9 := bt_shl h0 (k := x) (by omega)
  refine zEv_run gX2_makeSalt 60 [] rfl ?_
  refine zCl_e (gd_t hv0 h0 h1) (by decide) ?_
  refine zBrF (by simp only [rI]; omega) (by omega) ?_
  refine mVc_i (by omega) ?_
  refine mVc_i (by omega) ?_
  refine ⟨rfl, ?_⟩
  show (cX S ++ t).set 6 (.inl (0, 39, .inl (va_up (S.2.1 2) 30 (Int32.ofInt (S.2.1 2 30) ||| Int32.ofInt ((Int32.ofInt 1 <<< (Int32.ofInt x &&& 31)).toInt)).toInt))) = _
  rw [e9]
  rfl
set_option maxHeartbeats 4000000 in
set_option maxRecDepth 100000 in
theorem gcool (hv : vX S v) {x : Int} (h0 : 0 ≤ x) (h1 : x < v.1 2) : zEv X 2 mX2_cool [zR 5, zI x] (cX S ++ t) (zIs (.inl none) (cX (sA S 2 (va_up (S.2.1 2) (31 + x).toNat 0)) ++ t)) := by
  have hv0 := hv
  obtain ⟨hb, -, e1, e2, e3, e4, hrow, -⟩ := hv
  obtain ⟨b0, b1, b2, b3, b4, bs, -⟩ := hb
  refine zEv_run gX2_cool 60 [] rfl ?_
  repeat (first
    | refine zBrT (by simp only [rI]; omega) (by omega) ?_
    | refine zBrF (by simp only [rI]; omega) (by omega) ?_
    | refine zCl_e (gh_t hv0 (by omega) (by omega)) (by decide) ?_
    | refine mVc_i (by first | omega | (simp only [rI]; omega)) ?_)
  exact ⟨rfl, rfl⟩
set_option maxHeartbeats 4000000 in
set_option maxRecDepth 100000 in
theorem face_t {f : Int} (h : 1 ≤ f ∧ f ≤ 6) : zEv X 1 mX9_isFace [zJ f] (cX S ++ t) (zIs (.inl (some (zI (1)))) (cX S ++ t)) := by
  refine zEv_run gX9_isFace 40 [] rfl ?_
  refine zBrF (by simp only [rL]; omega) (by omega) ?_
  refine zBrF (by simp only [rL]; omega) (by omega) ?_
  exact mVc_i (Or.inr rfl) ⟨rfl, rfl⟩
set_option maxHeartbeats 4000000 in
set_option maxRecDepth 100000 in
theorem face_f {f : Int} (hf : rL f) (h : ¬ (1 ≤ f ∧ f ≤ 6)) : zEv X 1 mX9_isFace [zJ f] (cX S ++ t) (zIs (.inl (some (zI (0)))) (cX S ++ t)) := by
  have hf1 := hf.1
  have hf2 := hf.2
  refine zEv_run gX9_isFace 40 [] rfl ?_
  by_cases c : f < 1
  · refine zBrT (by simp only [rL]; omega) c ?_
    exact mVc_i (Or.inl rfl) ⟨rfl, rfl⟩
  · refine zBrF (by simp only [rL]; omega) c ?_
    refine zBrT (by simp only [rL]; omega) (by omega) ?_
    exact mVc_i (Or.inl rfl) ⟨rfl, rfl⟩
set_option maxHeartbeats 4000000 in
set_option maxRecDepth 100000 in
theorem gwear_s (hv : vX S v) {x f z : Int} (h0 : 0 ≤ x) (h1 : x < v.1 1) (h2 : 1 ≤ f) (h3 : f ≤ 6) (hs : v.2.1.2.1 x = 1) : zEv X 2 mX2_wear [zR 5, zI x, zI f, zI z] (cX S ++ t) (zIs (.inl (some (zI (0)))) (cX S ++ t)) := by
  have hv0 := hv
  obtain ⟨hb, -, e1, e2, e3, e4, hrow, -⟩ := hv
  obtain ⟨b0, b1, b2, b3, b4, bs, -⟩ := hb
  refine zEv_run gX2_wear 80 [] rfl ?_
  refine zCl_e (gd_t hv0 h0 h1) (by decide) ?_
  refine zBrF (by simp only [rI]; omega) (by omega) ?_
  refine mVc_i (by simp only [rI]; omega) ?_
  refine zCl_e (face_t ⟨h2, h3⟩) (by decide) ?_
  refine zBrF (by simp only [rI]; omega) (by omega) ?_
  refine zCl_e (gsalt hv0 h0 h1) (by decide) ?_
  refine zBrF (by simp only [rI]; omega) (by omega) ?_
  exact ⟨rfl, rfl⟩
set_option maxHeartbeats 4000000 in
set_option maxRecDepth 100000 in
theorem gwear_n (hv : vX S v) {x f z : Int} (h0 : 0 ≤ x) (h1 : x < v.1 1) (h2 : 1 ≤ f) (h3 : f ≤ 6) (hs : v.2.1.2.1 x = 0) (hz : rI z) : zEv X 2 mX2_wear [zR 5, zI x, zI f, zI z] (cX S ++ t) (zIs (.inl (some (zI (min (v.2.1.1 x f) z)))) (cX (sA S 2 (va_up (S.2.1 2) (x * 6 + f - 1).toNat (v.2.1.1 x f - min (v.2.1.1 x f) z))) ++ t)) := by
  have hv0 := hv
  obtain ⟨hb, -, e1, e2, e3, e4, hrow, -⟩ := hv
  obtain ⟨b0, b1, b2, b3, b4, bs, -⟩ := hb
  have hbw := gbd hv0 x f
  have hz1 := hz.1
  have hz2 := hz.2
  refine zEv_run gX2_wear 80 [] rfl ?_
  refine zCl_e (gd_t hv0 h0 h1) (by decide) ?_
  refine zBrF (by simp only [rI]; omega) (by omega) ?_
  refine mVc_i (by simp only [rI]; omega) ?_
  refine zCl_e (face_t ⟨h2, h3⟩) (by decide) ?_
  refine zBrF (by simp only [rI]; omega) (by omega) ?_
  refine zCl_e (gsalt hv0 h0 h1) (by decide) ?_
  refine zBrT (by simp only [rI]; omega) (by omega) ?_
  refine zCl_e (gw hv0 h0 h1 h2 h3) (by decide) ?_
  refine mVc_i (by simp only [rI]; omega) ?_
  refine mVc_i (by omega) ?_
  refine mVc_i (by omega) ?_
  refine ⟨rfl, ?_⟩
  have e9 := hrow.1 x f h0 (by omega) h2 h3
  rw [Nat.zero_add] at e9
  rw [← e9]
  rfl
end Game2
end
section
/-! Game: throws, undone ones, ants, lots -/
theorem zBb {P a b : Prop} [Decidable P] (ha : ¬ P → a) (hb : P → b) : mVc (rI (if P then 1 else 0)) (mBr ((if P then (1 : Int) else 0) = 0) a b) := by
  by_cases c : P
  · simp only [c, if_true]
    exact zBrF (by simp only [rI]; omega) (by omega) (hb c)
  · simp only [c, if_false]
    exact ⟨by simp only [rI]; omega, fun _ => ha c, fun q => (q trivial).elim⟩
theorem rI_1 : rI 1 := ⟨by omega, by omega⟩
/-- what the game and the rows for counting may change, all else stays -/
def sF (S R : sS) : Prop := (∀ i, (i < 12 ∨ 17 < i) → R.1 i = S.1 i) ∧ (∀ r, (r < 2 ∨ 9 < r) → R.2.1 r = S.2.1 r) ∧ R.2.2 = S.2.2
theorem sF_r (S : sS) : sF S S := ⟨fun _ _ => rfl, fun _ _ => rfl, rfl⟩
theorem sF_t {S R Q : sS} (h : sF S R) (k : sF R Q) : sF S Q := ⟨fun i hi => by rw [k.1 i hi, h.1 i hi], fun i hi => by rw [k.2.1 i hi, h.2.1 i hi], by rw [k.2.2, h.2.2]⟩
theorem sF_A (S : sS) {r : Nat} (f : Nat → Int) (h : 2 ≤ r ∧ r ≤ 9) : sF S (sA S r f) := ⟨fun _ _ => rfl, fun i hi => va_up_o _ _ (by omega), rfl⟩
theorem sF_I (S : sS) {r : Nat} (z : Int) (h : 12 ≤ r ∧ r ≤ 17) : sF S (sI S r z) := ⟨fun i hi => va_up_o _ _ (by omega), fun _ _ => rfl, rfl⟩
def zTo (S : sS) (t : zH) (o : zO) (v : vV) : zO → zH → Prop := fun o9 h9 => o9 = o ∧ ∃ R : sS, h9 = cX R ++ t ∧ sF S R ∧ vX R v
theorem zCl_t {X : mX} {d d2 : Nat} {S : sS} {t : zH} {v : vV} {o : zO} {M2 : mM} {as : List zV} {h : zH} {K : zO → zH → Prop} (hE : zEv X d2 M2 as h (zTo S t o v)) (hd : d2 < d) (hk : ∀ R, sF S R → vX R v → K o (cX R ++ t)) : zCl X d M2 as h K := ⟨d2, _, hd, hE, fun o9 h9 q => by
  obtain ⟨rfl, R, rfl, a, b⟩ := q
  exact hk R a b⟩
theorem vRow_cg {c c2 : Nat → Int} {a a2 : Nat} {n : Int} {s : vS} (hn : n ≤ 4) (h : ∀ i, i < 39 → c2 (a2 + i) = c (a + i)) (hr : vRow c a n s) : vRow c2 a2 n s := by
  refine ⟨fun d f g0 g1 g2 g3 => ?_, ?_, fun k k0 k1 => ?_, fun k k0 k1 => ?_⟩
  · rw [h _ (by omega)]; exact hr.1 d f g0 g1 g2 g3
  · rw [h _ (by omega)]; exact hr.2.1
  · rw [h _ (by omega)]; exact hr.2.2.1 k k0 k1
  · rw [h _ (by omega)]; exact hr.2.2.2 k k0 k1
def vPush (v : vV) (d q f : Int) : vV := (fun i => if i = 4 then v.1 4 + 1 else v.1 i, v.2.1, fun k => if k = v.1 4 then d else v.2.2.1 k, fun k => if k = v.1 4 then q else v.2.2.2.1 k, fun k => if k = v.1 4 then f else v.2.2.2.2.1 k, fun k => if k = v.1 4 then v.2.1 else v.2.2.2.2.2 k)
def vWr (v : vV) (d f z : Int) : vV := if v.2.1.2.1 d = 1 then v else vW v d f (v.2.1.1 d f - min (v.2.1.1 d f) z)
def vGo (v : vV) (d q f : Int) : vV := vHt (vWr (vPush v d q f) d f (v.2.1.2.2.1 q)) q (min (v.2.1.2.2.1 q + 1) 9)
def vUn (v : vV) (n : Int) : vV := if n = 0 then v else (fun i => if i = 4 then v.1 4 - n else v.1 i, v.2.2.2.2.2 (v.1 4 - n), v.2.2)
theorem vW_b {v : vV} (h : vVb v) (d f : Int) {z : Int} (hz : 0 ≤ z ∧ z ≤ 20) : vVb (vW v d f z) := by
  obtain ⟨b0, b1, b2, b3, b4, bs, bh⟩ := h
  refine ⟨b0, b1, b2, b3, b4, ⟨fun d1 f1 => ?_, bs.2⟩, bh⟩
  show 0 ≤ (if d1 = d ∧ f1 = f then z else v.2.1.1 d1 f1) ∧ (if d1 = d ∧ f1 = f then z else v.2.1.1 d1 f1) ≤ 20
  split
  · exact hz
  · exact bs.1 d1 f1
theorem vHt_b {v : vV} (h : vVb v) (q : Int) {z : Int} (hz : 0 ≤ z ∧ z ≤ 9) : vVb (vHt v q z) := by
  obtain ⟨b0, b1, b2, b3, b4, bs, bh⟩ := h
  refine ⟨b0, b1, b2, b3, b4, ⟨bs.1, bs.2.1, fun k => ?_, bs.2.2.2⟩, bh⟩
  show 0 ≤ (if k = q then z else v.2.1.2.2.1 k) ∧ (if k = q then z else v.2.1.2.2.1 k) ≤ 9
  split
  · exact hz
  · exact bs.2.2.1 k
theorem vSl_b {v : vV} (h : vVb v) (d : Int) : vVb (vSl v d) := by
  obtain ⟨b0, b1, b2, b3, b4, bs, bh⟩ := h
  refine ⟨b0, b1, b2, b3, b4, ⟨bs.1, fun d1 => ?_, bs.2.2⟩, bh⟩
  show (if d1 = d then 1 else v.2.1.2.1 d1) = 0 ∨ (if d1 = d then 1 else v.2.1.2.1 d1) = 1
  split
  · exact Or.inr rfl
  · exact bs.2.1 d1
theorem vPush_b {v : vV} (h : vVb v) {d q f : Int} (hd : 0 ≤ d ∧ d < v.1 1) (hq : 0 ≤ q ∧ q < v.1 2) (hf : 1 ≤ f ∧ f ≤ 6) (hr : v.1 4 < 60) : vVb (vPush v d q f) := by
  obtain ⟨b0, b1, b2, b3, b4, bs, bh⟩ := h
  refine ⟨b0, b1, b2, b3, ?_, bs, fun k k0 k1 => ?_⟩
  · show 0 ≤ v.1 4 + 1 ∧ v.1 4 + 1 ≤ 60
    omega
  · have k2 : k < v.1 4 + 1 := k1
    show (0 ≤ (if k = v.1 4 then d else v.2.2.1 k) ∧ (if k = v.1 4 then d else v.2.2.1 k) < v.1 1) ∧ (0 ≤ (if k = v.1 4 then q else v.2.2.2.1 k) ∧ (if k = v.1 4 then q else v.2.2.2.1 k) < v.1 2) ∧ (1 ≤ (if k = v.1 4 then f else v.2.2.2.2.1 k) ∧ (if k = v.1 4 then f else v.2.2.2.2.1 k) ≤ 6) ∧ vSb (if k = v.1 4 then v.2.1 else v.2.2.2.2.2 k)
    by_cases c : k = v.1 4
    · simp only [c, if_true]
      exact ⟨hd, hq, hf, bs⟩
    · simp only [c, if_false]
      exact bh k k0 (by omega)
theorem vUn_b {v : vV} (h : vVb v) {n : Int} (h0 : 0 ≤ n) (h1 : n ≤ v.1 4) : vVb (vUn v n) := by
  by_cases c : n = 0
  · rw [vUn, if_pos c]; exact h
  · rw [vUn, if_neg c]
    obtain ⟨b0, b1, b2, b3, b4, bs, bh⟩ := h
    refine ⟨b0, b1, b2, b3, ?_, (bh (v.1 4 - n) (by omega) (by omega)).2.2.2, fun k k0 k1 => ?_⟩
    · show 0 ≤ v.1 4 - n ∧ v.1 4 - n ≤ 60
      omega
    · have k2 : k < v.1 4 - n := k1
      exact bh k k0 (by omega)
theorem vX_push {S : sS} {v : vV} (hv : vX S v) {d q f : Int} (hd : 0 ≤ d ∧ d < v.1 1) (hq : 0 ≤ q ∧ q < v.1 2) (hf : 1 ≤ f ∧ f ≤ 6) (hr : v.1 4 < 60) : vX (sI (sA (sA S 4 (va_cpy (S.2.1 2) (S.2.1 4) 0 (S.1 16 * 39).toNat 39)) 3 (va_up (S.2.1 3) (S.1 16).toNat (100 * d + 10 * q + f))) 16 (S.1 16 + 1)) (vPush v d q f) := by
  have hb := vPush_b hv.1 hd hq hf hr
  obtain ⟨⟨b0, b1, b2, b3, b4, bs, bh⟩, e0, e1, e2, e3, e4, hrw, hh⟩ := hv
  rw [e4]
  refine ⟨hb, e0, e1, e2, e3, rfl, hrw, fun k k0 k1 => ?_⟩
  have k2 : k < v.1 4 + 1 := k1
  show va_up (S.2.1 3) (v.1 4).toNat (100 * d + 10 * q + f) k.toNat = 100 * (if k = v.1 4 then d else v.2.2.1 k) + 10 * (if k = v.1 4 then q else v.2.2.2.1 k) + (if k = v.1 4 then f else v.2.2.2.2.1 k) ∧ vRow (va_cpy (S.2.1 2) (S.2.1 4) 0 (v.1 4 * 39).toNat 39) (39 * k.toNat) (v.1 2) (if k = v.1 4 then v.2.1 else v.2.2.2.2.2 k)
  by_cases c : k = v.1 4
  · simp only [c, if_true]
    refine ⟨va_up_s _ _ _, vRow_cg (by omega) (fun i hi => ?_) hrw⟩
    rw [va_cpy, if_pos (by omega), show 39 * (v.1 4).toNat + i - (v.1 4 * 39).toNat = i by omega]
  · simp only [c, if_false]
    have hk := hh k k0 (by omega)
    refine ⟨?_, vRow_cg (by omega) (fun i hi => ?_) hk.2⟩
    · rw [va_up_o _ _ (by omega)]; exact hk.1
    · rw [va_cpy, if_neg (by omega)]
theorem vX_un {S : sS} {v : vV} (hv : vX S v) {n : Int} (h0 : 0 < n) (h1 : n ≤ v.1 4) : vX (sA (sI S 16 (S.1 16 - n)) 2 (va_cpy (S.2.1 4) (S.2.1 2) ((S.1 16 - n) * 39).toNat 0 39)) (vUn v n) := by
  have hb := vUn_b hv.1 (by omega) h1
  rw [vUn, if_neg (by omega)] at hb ⊢
  obtain ⟨⟨b0, b1, b2, b3, b4, bs, bh⟩, e0, e1, e2, e3, e4, hrw, hh⟩ := hv
  rw [e4]
  refine ⟨hb, e0, e1, e2, e3, rfl, ?_, fun k k0 k1 => ?_⟩
  · refine vRow_cg (c := S.2.1 4) (a := 39 * (v.1 4 - n).toNat) (by show v.1 2 ≤ 4; omega) (fun i hi => ?_) (hh (v.1 4 - n) (by omega) (by omega)).2
    show va_cpy (S.2.1 4) (S.2.1 2) ((v.1 4 - n) * 39).toNat 0 39 (0 + i) = _
    rw [va_cpy, if_pos (by omega), show ((v.1 4 - n) * 39).toNat + (0 + i - 0) = 39 * (v.1 4 - n).toNat + i by omega]
  · have k2 : k < v.1 4 - n := k1
    exact hh k k0 (by omega)
section Game3
variable {X : mX} {S : sS} {t : zH} {v : vV}
theorem vWr_num (v : vV) (d f z : Int) : (vWr v d f z).1 = v.1 := by
  simp only [vWr]; split <;> rfl
theorem vWr_ht (v : vV) (d f z : Int) : (vWr v d f z).2.1.2 = v.2.1.2 := by
  simp only [vWr]; split <;> rfl
theorem vWr_b {v : vV} (h : vVb v) (d f : Int) {z : Int} (hz : 0 ≤ z) : vVb (vWr v d f z) := by
  simp only [vWr]
  split
  · exact h
  · have := h.2.2.2.2.2.1.1 d f
    exact vW_b h d f (by omega)
set_option maxHeartbeats 4000000 in
set_option maxRecDepth 100000 in
theorem gwear (hv : vX S v) {x f z : Int} (h0 : 0 ≤ x) (h1 : x < v.1 1) (h2 : 1 ≤ f) (h3 : f ≤ 6) (hz : 0 ≤ z) (hz2 : z < 2147483648) : zEv X 2 mX2_wear [zR 5, zI x, zI f, zI z] (cX S ++ t) (zTo S t (.inl (some (zI (if v.2.1.2.1 x = 1 then 0 else min (v.2.1.1 x f) z)))) (vWr v x f z)) := by
  have hs := hv.1.2.2.2.2.2.1.2.1 x
  have hw := gbd hv x f
  have b1 := hv.1.2.1
  have hrow := hv.2.2.2.2.2.2.1
  refine zEv_run gX2_wear 80 [] rfl ?_
  refine zCl_e (gd_t hv h0 h1) (by decide) ?_
  refine zBrF rI_1 (by omega) ?_
  refine mVc_i (by simp only [rI]; omega) ?_
  refine zCl_e (face_t ⟨h2, h3⟩) (by decide) ?_
  refine zBrF rI_1 (by omega) ?_
  refine zCl_e (gsalt hv h0 h1) (by decide) ?_
  refine zBr (by simp only [rI]; omega) (fun c => ?_) (fun c => ?_)
  · refine zCl_e (gw hv h0 h1 h2 h3) (by decide) ?_
    refine mVc_i (by simp only [rI]; omega) ?_
    refine mVc_i (by omega) ?_
    refine mVc_i (by omega) ?_
    have e9 := hrow.1 x f h0 (by omega) h2 h3
    rw [Nat.zero_add] at e9
    rw [vWr, if_neg (by omega), if_neg (by omega), ← e9]
    have k1 := vX_w hv h0 (by omega) h2 h3 (z := v.2.1.1 x f - min (v.2.1.1 x f) z) (by omega)
    rw [← e9] at k1
    exact ⟨rfl, _, rfl, sF_A S _ ⟨by omega, by omega⟩, k1⟩
  · rw [vWr, if_pos (by omega), if_pos (by omega)]
    exact ⟨rfl, S, rfl, sF_r S, hv⟩
def vOk (v : vV) (d q f : Int) : Prop := (0 ≤ d ∧ d < v.1 1) ∧ (0 ≤ q ∧ q < v.1 2) ∧ 1 ≤ f ∧ f ≤ 6
def vWhy (v : vV) (d q f : Int) : Int := if ¬ (0 ≤ d ∧ d < v.1 1) then 1 else if ¬ (0 ≤ q ∧ q < v.1 2) then 1 else if ¬ (1 ≤ f ∧ f ≤ 6) then 1 else if vTot v.2.1 d = 0 then 2 else if v.2.1.1 d f = 0 then 3 else if v.1 4 < 60 then 0 else 4
set_option maxHeartbeats 4000000 in
set_option maxRecDepth 100000 in
theorem gwhy (hv : vX S v) {d q f : Int} (hd : rI d) (hq : rI q) (hf : rI f) : zEv X 4 mX2_whyNot [zR 5, zI d, zI q, zI f] (cX S ++ t) (zIs (.inl (some (zI (vWhy v d q f)))) (cX S ++ t)) := by
  have hf1 := hf.1
  have hf2 := hf.2
  have hw := gbd hv d f
  refine zEv_run gX2_whyNot 80 [] rfl ?_
  simp only [vWhy]
  by_cases c1 : 0 ≤ d ∧ d < v.1 1
  · refine zCl_e (gd_t hv c1.1 c1.2) (by decide) ?_
    refine zBrF rI_1 (by omega) ?_
    rw [if_neg (by omega)]
    by_cases c2 : 0 ≤ q ∧ q < v.1 2
    · refine zCl_e (gh_t hv c2.1 c2.2) (by decide) ?_
      refine zBrF rI_1 (by omega) ?_
      refine mVc_i hf ?_
      rw [if_neg (by omega)]
      by_cases c3 : 1 ≤ f ∧ f ≤ 6
      · refine zCl_e (face_t c3) (by decide) ?_
        refine zBrF rI_1 (by omega) ?_
        rw [if_neg (by omega)]
        refine zCl_e (ggone hv c1.1 c1.2) (by decide) ?_
        refine zBb (fun c4 => ?_) (fun c4 => ?_)
        · rw [if_neg c4]
          refine zCl_e (gw hv c1.1 c1.2 c3.1 c3.2) (by decide) ?_
          refine zBr (by simp only [rI]; omega) (fun c5 => ?_) (fun c5 => ?_)
          · rw [if_pos c5]
            exact ⟨rfl, rfl⟩
          · rw [if_neg c5]
            refine zCl_e (groom hv) (by decide) ?_
            refine zBb (fun c6 => ?_) (fun c6 => ?_)
            · rw [if_neg c6]
              exact ⟨rfl, rfl⟩
            · rw [if_pos c6]
              exact ⟨rfl, rfl⟩
        · rw [if_pos c4]
          exact ⟨rfl, rfl⟩
      · refine zCl_e (face_f ⟨by omega, by omega⟩ c3) (by decide) ?_
        refine zBrT rI_0 (by omega) ?_
        rw [if_pos c3]
        exact ⟨rfl, rfl⟩
    · refine zCl_e (gh_f hv hq c2) (by decide) ?_
      refine zBrT rI_0 (by omega) ?_
      rw [if_pos c2]
      exact ⟨rfl, rfl⟩
  · refine zCl_e (gd_f hv hd c1) (by decide) ?_
    refine zBrT rI_0 (by omega) ?_
    rw [if_pos c1]
    exact ⟨rfl, rfl⟩
def vTold (v : vV) (z : Int) : Int := if z < 0 ∨ 500 ≤ z then 1 else vWhy v (z / 100) (z / 10 % 10) (z % 10)
set_option maxHeartbeats 4000000 in
set_option maxRecDepth 100000 in
theorem gwhyt (hv : vX S v) {z : Int} (hz : rL z) : zEv X 5 mX2_whyNotTold [zR 5, zJ z] (cX S ++ t) (zIs (.inl (some (zI (vTold v z)))) (cX S ++ t)) := by
  refine zEv_run gX2_whyNotTold 80 [] rfl ?_
  simp only [vTold]
  refine zBr ⟨hz, by simp only [rL]; omega⟩ (fun c1 => ?_) (fun c1 => ?_)
  · rw [if_pos (Or.inl c1)]
    exact ⟨rfl, rfl⟩
  · refine zBr ⟨hz, by simp only [rL]; omega⟩ (fun c2 => ?_) (fun c2 => ?_)
    · rw [if_neg (by omega)]
      refine mVc_i (by simp only [rI]; omega) ?_
      refine mVc_i (by simp only [rI]; omega) ?_
      refine mVc_i (by simp only [rI]; omega) ?_
      refine mVc_i (by simp only [rI]; omega) ?_
      refine zCl_e (gwhy hv (by simp only [rI]; omega) (by simp only [rI]; omega) (by simp only [rI]; omega)) (by decide) ?_
      exact ⟨rfl, rfl⟩
    · rw [if_pos (by omega)]
      exact ⟨rfl, rfl⟩
set_option maxHeartbeats 4000000 in
set_option maxRecDepth 100000 in
theorem gthrow (hv : vX S v) {d q f : Int} (hk : vOk v d q f) (hr : v.1 4 < 60) : zEv X 3 mX2_throwFace [zR 5, zI d, zI q, zI f] (cX S ++ t) (zTo S t (.inl none) (vGo v d q f)) := by
  obtain ⟨hd, hq, hf⟩ := hk
  have h4 := hv.1.2.2.2.2.1
  have h2 := hv.1.2.2.1
  have e4 : S.1 16 = v.1 4 := hv.2.2.2.2.2.1
  have hht := hv.1.2.2.2.2.2.1.2.2.1 q
  have hv1 := vX_push hv hd hq hf hr
  have f1 : sF S (sI (sA (sA S 4 (va_cpy (S.2.1 2) (S.2.1 4) 0 (S.1 16 * 39).toNat 39)) 3 (va_up (S.2.1 3) (S.1 16).toNat (100 * d + 10 * q + f))) 16 (S.1 16 + 1)) := sF_t (sF_t (sF_A S _ ⟨by omega, by omega⟩) (sF_A _ _ ⟨by omega, by omega⟩)) (sF_I _ _ ⟨by omega, by omega⟩)
  refine zEv_run gX2_throwFace 120 [] rfl ?_
  refine zCl_e (gd_t hv hd.1 hd.2) (by decide) ?_
  refine zBrF rI_1 (by omega) ?_
  refine zCl_e (gh_t hv hq.1 hq.2) (by decide) ?_
  refine zBrF rI_1 (by omega) ?_
  refine mVc_i (by simp only [rI]; omega) ?_
  refine zCl_e (face_t hf) (by decide) ?_
  refine zBrF rI_1 (by omega) ?_
  refine zCl_e (groom hv) (by decide) ?_
  refine zBb (fun c => absurd hr c) (fun _ => ?_)
  refine mVc_i (by omega) ?_
  refine mVc_i (by omega) ?_
  refine zCl_e (gheat (t := t) hv1 hq.1 hq.2) (by decide) ?_
  refine zCl_t (gwear (t := t) hv1 hd.1 hd.2 hf.1 hf.2 hht.1 (by show v.2.1.2.2.1 q < _; omega)) (by decide) ?_
  intro R f2 hv2
  have e5 : (vWr (vPush v d q f) d f (v.2.1.2.2.1 q)).2.1.2 = v.2.1.2 := by rw [vWr_ht]; rfl
  have e6 : (vWr (vPush v d q f) d f (v.2.1.2.2.1 q)).1 2 = v.1 2 := by rw [vWr_num]; rfl
  refine zCl_e (gheat (t := t) hv2 hq.1 (by rw [show (vPush v d q f).2.1.2.2.1 q = v.2.1.2.2.1 q from rfl, e6]; exact hq.2)) (by decide) ?_
  have e7 : (vWr (vPush v d q f) d f ((vPush v d q f).2.1.2.2.1 q)).2.1.2.2.1 q = v.2.1.2.2.1 q := by rw [vWr_ht]; rfl
  rw [e7]
  refine mVc_i (by simp only [rI]; omega) ?_
  refine mVc_i (by omega) ?_
  refine ⟨rfl, _, rfl, sF_t (sF_t f1 f2) (sF_A R _ ⟨by omega, by omega⟩), vX_h hv2 hq.1 (by omega) (by omega)⟩
set_option maxHeartbeats 4000000 in
set_option maxRecDepth 100000 in
theorem gtold1 (hv : vX S v) {z : Int} (h0 : 0 ≤ z) (h1 : z < 500) (hk : vOk v (z / 100) (z / 10 % 10) (z % 10)) (hr : v.1 4 < 60) : zEv X 4 mX2_throwToldOne [zR 5, zI z] (cX S ++ t) (zTo S t (.inl none) (vGo v (z / 100) (z / 10 % 10) (z % 10))) := by
  refine zEv_run gX2_throwToldOne 80 [] rfl ?_
  refine mVc_i (by simp only [rI]; omega) ?_
  refine mVc_i (by simp only [rI]; omega) ?_
  refine mVc_i (by simp only [rI]; omega) ?_
  refine mVc_i (by simp only [rI]; omega) ?_
  refine zCl_t (gthrow hv hk hr) (by decide) ?_
  intro R f1 hv1
  exact ⟨rfl, R, rfl, f1, hv1⟩
set_option maxHeartbeats 4000000 in
set_option maxRecDepth 100000 in
theorem gundo (hv : vX S v) {n : Int} (h0 : 0 ≤ n) (h1 : n ≤ v.1 4) : zEv X 1 mX2_undo [zR 5, zI n] (cX S ++ t) (zTo S t (.inl none) (vUn v n)) := by
  have h4 := hv.1.2.2.2.2.1
  have e4 : S.1 16 = v.1 4 := hv.2.2.2.2.2.1
  refine zEv_run gX2_undo 80 [] rfl ?_
  refine zBr (by simp only [rI]; omega) (fun c => ?_) (fun c => ?_)
  · rw [vUn, if_pos (by omega)]
    exact ⟨rfl, S, rfl, sF_r S, hv⟩
  · refine zBrF (by simp only [rI]; omega) (by omega) ?_
    refine mVc_i (by omega) ?_
    exact ⟨rfl, _, rfl, sF_t (sF_I S _ ⟨by omega, by omega⟩) (sF_A _ _ ⟨by omega, by omega⟩), vX_un hv (by omega) h1⟩
set_option maxHeartbeats 4000000 in
set_option maxRecDepth 100000 in
theorem gtoldk (hv : vX S v) {k : Int} (h0 : 0 ≤ k) (h1 : k < v.1 4) : zEv X 1 mX2_toldThrow [zR 5, zI k] (cX S ++ t) (zIs (.inl (some (zI (100 * v.2.2.1 k + 10 * v.2.2.2.1 k + v.2.2.2.2.1 k)))) (cX S ++ t)) := by
  have h4 := hv.1.2.2.2.2.1
  have e4 : S.1 16 = v.1 4 := hv.2.2.2.2.2.1
  have e5 := (hv.2.2.2.2.2.2.2 k h0 h1).1
  refine zEv_run gX2_toldThrow 80 [] rfl ?_
  repeat (first
    | refine zBrT (by simp only [rI]; omega) (by omega) ?_
    | refine zBrF (by simp only [rI]; omega) (by omega) ?_
    | refine mVc_i (by first | omega | (simp only [rI]; omega)) ?_)
  rw [e5]
  exact ⟨rfl, rfl⟩
set_option maxHeartbeats 4000000 in
set_option maxRecDepth 100000 in
theorem gdk (hv : vX S v) {k : Int} (h0 : 0 ≤ k) (h1 : k < v.1 4) : zEv X 2 mX2_dieOfThrow [zR 5, zI k] (cX S ++ t) (zIs (.inl (some (zI (v.2.2.1 k)))) (cX S ++ t)) := by
  have hb := hv.1.2.2.2.2.2.2 k h0 h1
  have b1 := hv.1.2.1
  have b2 := hv.1.2.2.1
  refine zEv_run gX2_dieOfThrow 40 [] rfl ?_
  refine zCl_e (gtoldk hv h0 h1) (by decide) ?_
  repeat refine mVc_i (by simp only [rI]; omega) ?_
  refine ⟨?_, rfl⟩
  congr 3
  omega
set_option maxHeartbeats 4000000 in
set_option maxRecDepth 100000 in
theorem ghk (hv : vX S v) {k : Int} (h0 : 0 ≤ k) (h1 : k < v.1 4) : zEv X 2 mX2_handOfThrow [zR 5, zI k] (cX S ++ t) (zIs (.inl (some (zI (v.2.2.2.1 k)))) (cX S ++ t)) := by
  have hb := hv.1.2.2.2.2.2.2 k h0 h1
  have b1 := hv.1.2.1
  have b2 := hv.1.2.2.1
  refine zEv_run gX2_handOfThrow 40 [] rfl ?_
  refine zCl_e (gtoldk hv h0 h1) (by decide) ?_
  repeat refine mVc_i (by simp only [rI]; omega) ?_
  refine ⟨?_, rfl⟩
  congr 3
  omega
set_option maxHeartbeats 4000000 in
set_option maxRecDepth 100000 in
theorem gfk (hv : vX S v) {k : Int} (h0 : 0 ≤ k) (h1 : k < v.1 4) : zEv X 2 mX2_faceOfThrow [zR 5, zI k] (cX S ++ t) (zIs (.inl (some (zI (v.2.2.2.2.1 k)))) (cX S ++ t)) := by
  have hb := hv.1.2.2.2.2.2.2 k h0 h1
  have b1 := hv.1.2.1
  have b2 := hv.1.2.2.1
  refine zEv_run gX2_faceOfThrow 40 [] rfl ?_
  refine zCl_e (gtoldk hv h0 h1) (by decide) ?_
  repeat refine mVc_i (by simp only [rI]; omega) ?_
  refine ⟨?_, rfl⟩
  congr 3
  omega
def vAf (v : vV) (k : Int) : Int := (v.1 3 - 1 + k) % 6 + 1
set_option maxHeartbeats 4000000 in
set_option maxRecDepth 100000 in
theorem gaf (hv : vX S v) {k : Int} (h0 : 0 ≤ k) (h1 : k < 6) : zEv X 1 mX2_faceForAnts [zR 5, zI k] (cX S ++ t) (zIs (.inl (some (zI (vAf v k)))) (cX S ++ t)) := by
  have h3 := hv.1.2.2.2.1
  have e3 : S.1 15 = v.1 3 := hv.2.2.2.2.1
  refine zEv_run gX2_faceForAnts 40 [] rfl ?_
  repeat (first
    | refine zBrT (by simp only [rI]; omega) (by omega) ?_
    | refine zBrF (by simp only [rI]; omega) (by omega) ?_
    | refine mVc_i (by first | omega | (simp only [rI]; omega)) ?_)
  rw [e3]
  exact ⟨rfl, rfl⟩
end Game3
end
section
/-! ants, lots, draws -/
def vWp (v : vV) (d p : Int) : Int := v.2.1.1 d (vAf v p)
def vBf (v : vV) (d p : Int) : Int := zSum (vWp v d) p
def vEp (v : vV) (d m p : Int) : Int := vWp v d p - min (vWp v d p) (max 0 (m - vBf v d p))
/-- the place in the ants' row of a face -/
def vPs (v : vV) (f : Int) : Int := (f - v.1 3) % 6
/-- die d when ants have had m minutes at its first p faces -/
def vEt (v : vV) (d m p : Int) : vV := (v.1, (fun d1 f1 => if d1 = d ∧ (1 ≤ f1 ∧ f1 ≤ 6) ∧ vPs v f1 < p then vEp v d m (vPs v f1) else v.2.1.1 d1 f1, v.2.1.2), v.2.2)
theorem vAf_b (v : vV) (p : Int) : 1 ≤ vAf v p ∧ vAf v p ≤ 6 := by simp only [vAf]; omega
theorem vPs_b (v : vV) (f : Int) : 0 ≤ vPs v f ∧ vPs v f < 6 := by simp only [vPs]; omega
theorem vPs_af (v : vV) {p : Int} (h0 : 0 ≤ p) (h1 : p < 6) : vPs v (vAf v p) = p := by simp only [vPs, vAf]; omega
theorem vAf_ps (v : vV) {f : Int} (h0 : 1 ≤ f) (h1 : f ≤ 6) : vAf v (vPs v f) = f := by simp only [vPs, vAf]; omega
theorem vWp_b {v : vV} (h : vVb v) (d p : Int) : 0 ≤ vWp v d p ∧ vWp v d p ≤ 20 := h.2.2.2.2.2.1.1 d _
theorem vBf_b {v : vV} (h : vVb v) (d : Int) {p : Int} (h0 : 0 ≤ p) (h1 : p ≤ 6) : 0 ≤ vBf v d p ∧ vBf v d p ≤ 120 := by
  have := zSum_bd (f := vWp v d) (c := 20) (fun i => vWp_b h d i) h0 h1 (by omega)
  simp only [vBf]
  omega
theorem vBf_s (v : vV) (d : Int) {p : Int} (h0 : 0 ≤ p) : vBf v d (p + 1) = vBf v d p + vWp v d p := by simp only [vBf]; exact zSum_s h0
theorem vEp_b {v : vV} (h : vVb v) (d m p : Int) : 0 ≤ vEp v d m p ∧ vEp v d m p ≤ 20 := by
  have := vWp_b h d p
  simp only [vEp]
  omega
theorem vEt_0 (v : vV) (d m : Int) : vEt v d m 0 = v := by
  have hF : (fun d1 f1 => if d1 = d ∧ (1 ≤ f1 ∧ f1 ≤ 6) ∧ vPs v f1 < 0 then vEp v d m (vPs v f1) else v.2.1.1 d1 f1) = v.2.1.1 := by
    funext d1 f1
    have := vPs_b v f1
    rw [if_neg (by omega)]
  simp only [vEt, hF]
theorem vEt_s (v : vV) (d m : Int) {p : Int} (h0 : 0 ≤ p) (h1 : p < 6) : vW (vEt v d m p) d (vAf v p) (vEp v d m p) = vEt v d m (p + 1) := by
  have hF : (fun d1 f1 => if d1 = d ∧ f1 = vAf v p then vEp v d m p else if d1 = d ∧ (1 ≤ f1 ∧ f1 ≤ 6) ∧ vPs v f1 < p then vEp v d m (vPs v f1) else v.2.1.1 d1 f1) = fun d1 f1 => if d1 = d ∧ (1 ≤ f1 ∧ f1 ≤ 6) ∧ vPs v f1 < p + 1 then vEp v d m (vPs v f1) else v.2.1.1 d1 f1 := by
    funext d1 f1
    have hb := vAf_b v p
    by_cases c : d1 = d ∧ f1 = vAf v p
    · have hp := vPs_af v h0 h1
      rw [if_pos c, if_pos ⟨c.1, by omega, by rw [c.2, hp]; omega⟩, c.2, hp]
    · rw [if_neg c]
      by_cases c2 : d1 = d ∧ (1 ≤ f1 ∧ f1 ≤ 6) ∧ vPs v f1 < p
      · rw [if_pos c2, if_pos ⟨c2.1, c2.2.1, by omega⟩]
      · rw [if_neg c2, if_neg]
        intro q
        have q2 : vPs v f1 = p := by omega
        have q3 := vAf_ps v q.2.1.1 q.2.1.2
        rw [q2] at q3
        exact c ⟨q.1, q3.symm⟩
  simp only [vW, vEt, hF]
theorem vEt_w (v : vV) (d m : Int) {p : Int} (h0 : 0 ≤ p) (h1 : p < 6) : (vEt v d m p).2.1.1 d (vAf v p) = vWp v d p := by
  show (if d = d ∧ (1 ≤ vAf v p ∧ vAf v p ≤ 6) ∧ vPs v (vAf v p) < p then vEp v d m (vPs v (vAf v p)) else v.2.1.1 d (vAf v p)) = _
  rw [vPs_af v h0 h1, if_neg (by omega)]
  rfl
/-- die d behind m minutes of ants -/
def vEat (v : vV) (d m : Int) : vV := if v.2.1.2.1 d = 1 then v else vEt v d m 6
def vAte (v : vV) (d m : Int) : Int := if v.2.1.2.1 d = 1 then 0 else min m (vBf v d 6)
section Ants
variable {X : mX} {S : sS} {t : zH} {v : vV}
set_option maxHeartbeats 4000000 in
set_option maxRecDepth 100000 in
theorem gfeed (hv : vX S v) {x m : Int} (h0 : 0 ≤ x) (h1 : x < v.1 1) (hm : 0 ≤ m) (hm2 : m ≤ 99) : zEv X 3 mX2_feedAnts [zR 5, zI x, zI m] (cX S ++ t) (zTo S t (.inl (some (zI (vAte v x m)))) (vEat v x m)) := by
  have hs := hv.1.2.2.2.2.2.1.2.1 x
  by_cases c : v.2.1.2.1 x = 1
  · simp only [vAte, vEat, if_pos c]
    have lp : ∀ (k : Nat) (p : Int) (R : sS), 0 ≤ p → sF S R → vX R v → p + k = 6 → zWP X mX2_feedAnts 3 (zTo S t (.inl (some (zI 0))) v) 5 [some (zR 5), some (zI x), some (zI m), some (zI 0), some (zI p)] [] (cX R ++ t) 0 0 := by
      intro k
      induction k with
      | zero =>
        intro p R g0 fr hr hk
        refine zWP_run gX2_feedAnts 80 [5] ?_
        refine zBrT (by simp only [rI]; omega) (by omega) ?_
        exact ⟨rfl, R, rfl, fr, hr⟩
      | succ k ih =>
        intro p R g0 fr hr hk
        refine zWP_run gX2_feedAnts 80 [5] ?_
        refine zBrF (by simp only [rI]; omega) (by omega) ?_
        have hb := vAf_b v p
        refine zCl_e (gaf hr g0 (by omega)) (by decide) ?_
        refine zCl_t (gwear hr h0 h1 hb.1 hb.2 (z := m - 0) (by omega) (by omega)) (by decide) ?_
        intro R2 f2 hr2
        rw [if_pos c]
        rw [vWr, if_pos c] at hr2
        exact ih (p + 1) R2 (by omega) (sF_t fr f2) hr2 (by omega)
    refine zEv_run gX2_feedAnts 60 [5] rfl ?_
    exact lp 6 0 S (by omega) (sF_r S) hv (by omega)
  · simp only [vAte, vEat, if_neg c]
    have lp : ∀ (k : Nat) (p : Int) (R : sS), 0 ≤ p → sF S R → vX R (vEt v x m p) → p + k = 6 → zWP X mX2_feedAnts 3 (zTo S t (.inl (some (zI (min m (vBf v x 6))))) (vEt v x m 6)) 5 [some (zR 5), some (zI x), some (zI m), some (zI (min m (vBf v x p))), some (zI p)] [] (cX R ++ t) 0 0 := by
      intro k
      induction k with
      | zero =>
        intro p R g0 fr hr hk
        refine zWP_run gX2_feedAnts 80 [5] ?_
        refine zBrT (by simp only [rI]; omega) (by omega) ?_
        have e : p = 6 := by omega
        subst e
        exact ⟨rfl, R, rfl, fr, hr⟩
      | succ k ih =>
        intro p R g0 fr hr hk
        refine zWP_run gX2_feedAnts 80 [5] ?_
        refine zBrF (by simp only [rI]; omega) (by omega) ?_
        have hb := vAf_b v p
        have hf := vBf_b hv.1 x g0 (by omega)
        have hw := vWp_b hv.1 x p
        have hr0 := hr
        refine zCl_e (gaf hr0 g0 (by omega)) (by decide) ?_
        rw [show vAf (vEt v x m p) p = vAf v p from rfl]
        refine zCl_t (gwear hr h0 h1 hb.1 hb.2 (z := m - min m (vBf v x p)) (by omega) (by omega)) (by decide) ?_
        intro R2 f2 hr2
        have c2 : ¬ (vEt v x m p).2.1.2.1 x = 1 := c
        have e1 := vEt_w v x m g0 (p := p) (by omega)
        have e2 : vWp v x p - min (vWp v x p) (m - min m (vBf v x p)) = vEp v x m p := by simp only [vEp]; omega
        have e4 : min m (vBf v x p) + min (vWp v x p) (m - min m (vBf v x p)) = min m (vBf v x (p + 1)) := by rw [vBf_s v x g0]; omega
        rw [if_neg c2, e1]
        rw [vWr, if_neg c2, e1, e2, vEt_s v x m g0 (by omega)] at hr2
        have k3 := ih (p + 1) R2 (by omega) (sF_t fr f2) hr2 (by omega)
        rw [← e4] at k3
        exact k3
    refine zEv_run gX2_feedAnts 60 [5] rfl ?_
    have k1 := lp 6 0 S (by omega) (sF_r S) (by rw [vEt_0]; exact hv) (by omega)
    rw [show min m (vBf v x 0) = 0 by rw [show vBf v x 0 = 0 from rfl]; omega] at k1
    exact k1
end Ants
end
section
/-! Ledger; Beating -/
/-- locals that are not read any more -/
def zFg : List (Option zV) → List (Option zV) → Prop
  | [], _ => True
  | none :: r, _ :: q => zFg r q
  | some a :: r, b :: q => b = some a ∧ zFg r q
  | _ :: _, [] => False
theorem zFg_ok : ∀ {L L2 : List (Option zV)}, zFg L L2 → ∀ (k : Nat) (v : zV), L[k]? = some (some v) → L2[k]? = some (some v)
  | [], _, _, k, v, h => by simp at h
  | none :: r, _ :: q, hf, k, v, h => by
    cases k with
    | zero => simp at h
    | succ k => exact zFg_ok (L := r) (L2 := q) hf k v h
  | some a :: r, b :: q, hf, k, v, h => by
    cases k with
    | zero =>
      have e : some a = some v := by simpa using h
      show some b = some (some v)
      rw [hf.1, e]
    | succ k => exact zFg_ok (L := r) (L2 := q) hf.2 k v h
  | none :: _, [], hf, _, _, _ => hf.elim
  | some _ :: _, [], hf, _, _, _ => hf.elim
theorem zWP_fg {X : mX} {M : mM} {d : Nat} {Q : zO → zH → Prop} {pc : Nat} {L L2 : List (Option zV)} {st : List zV} {h : zH} {bc bs : Nat} (k : zWP X M d Q pc L st h bc bs) (hf : zFg L L2) : zWP X M d Q pc L2 st h bc bs := by
  intro p e R s m args below meth c H locs cells slots ad a0 n0 ls hF hG hL
  refine k p e R s m args below meth c H locs cells slots ad a0 n0 ls hF hG ⟨hL.1, hL.2.1, fun i w hw => ?_⟩
  rw [zL_get] at hw
  cases hi : L[i]? with
  | none => rw [hi] at hw; simp at hw
  | some o =>
    cases o with
    | none => rw [hi] at hw; simp at hw
    | some u =>
      rw [hi] at hw
      have hw2 : zT u = w := by simpa using hw
      exact hL.2.2 i w (by rw [zL_get, zFg_ok hf i u hi]; simp [hw2])
def vIt {α : Type} (f : Int → α → α) (a : α) : Nat → α
  | 0 => a
  | k + 1 => f k (vIt f a k)
def zIt {α : Type} (f : Int → α → α) (a : α) (i : Int) : α := vIt f a i.toNat
theorem zIt_0 {α : Type} (f : Int → α → α) (a : α) : zIt f a 0 = a := rfl
theorem zIt_s {α : Type} (f : Int → α → α) (a : α) {i : Int} (h : 0 ≤ i) : zIt f a (i + 1) = f i (zIt f a i) := by
  have e : (i + 1).toNat = i.toNat + 1 := by omega
  have e2 : ((i.toNat : Nat) : Int) = i := by omega
  simp only [zIt, e, vIt, e2]
/-- an invariant of a row of steps -/
theorem zIt_i {α : Type} (f : Int → α → α) (a : α) (P : Int → α → Prop) (h0 : P 0 a) (hs : ∀ i x, 0 ≤ i → P i x → P (i + 1) (f i x)) {i : Int} (h : 0 ≤ i) : P i (zIt f a i) := by
  have hk : ∀ k : Nat, P k (vIt f a k) := by
    intro k
    induction k with
    | zero => exact h0
    | succ k ih => exact hs k _ (by omega) ih
  have := hk i.toNat
  rw [Int.toNat_of_nonneg h] at this
  exact this
/-- how often a die was thrown; by a hand; a die showed a face -/
def vTd (v : vV) (d : Int) : Int := zSum (fun k => if v.2.2.1 k = d then 1 else 0) (v.1 4)
def vTh (v : vV) (q : Int) : Int := zSum (fun k => if v.2.2.2.1 k = q then 1 else 0) (v.1 4)
def vTf (v : vV) (d f : Int) : Int := zSum (fun k => if v.2.2.1 k = d ∧ v.2.2.2.2.1 k = f then 1 else 0) (v.1 4)
def vRw (v : vV) (f : Int) : Int × Int := zIt (fun k x => (max x.1 (if v.2.2.2.2.1 k = f then x.2 + 1 else 0), if v.2.2.2.2.1 k = f then x.2 + 1 else 0)) (0, 0) (v.1 4)
def vAb (z : Int) : Int := max z (-z)
def vOff (v : vV) (d : Int) : Int := zSum (fun i => vAb (6 * vTf v d (i + 1) - vTd v d)) 6
def vLd (v : vV) : Int × Int := zIt (fun d x => if x.2 < vOff v d then (d, vOff v d) else x) (-1, 0) (v.1 1)
theorem zSum_01 {f : Int → Int} (h : ∀ i, f i = 0 ∨ f i = 1) {i n : Int} (h0 : 0 ≤ i) (hi : i ≤ n) : 0 ≤ zSum f i ∧ zSum f i ≤ n := by
  have := zSum_bd (f := f) (c := 1) (n := n) (fun i => by have := h i; omega) h0 hi (by omega)
  omega
theorem vTd_b {v : vV} (h : vVb v) (d : Int) : 0 ≤ vTd v d ∧ vTd v d ≤ 60 := by
  have := h.2.2.2.2.1
  exact zSum_01 (fun i => by by_cases c : v.2.2.1 i = d <;> simp [c]) this.1 this.2
theorem vTf_b {v : vV} (h : vVb v) (d f : Int) : 0 ≤ vTf v d f ∧ vTf v d f ≤ 60 := by
  have := h.2.2.2.2.1
  exact zSum_01 (fun i => by by_cases c : v.2.2.1 i = d ∧ v.2.2.2.2.1 i = f <;> simp [c]) this.1 this.2
theorem vOff_b {v : vV} (h : vVb v) (d : Int) : 0 ≤ vOff v d ∧ vOff v d ≤ 2160 := by
  have h0 := vTd_b h d
  have := zSum_bd (f := fun i => vAb (6 * vTf v d (i + 1) - vTd v d)) (c := 360) (i := 6) (n := 6) (fun i => by
    have h1 := vTf_b h d (i + 1)
    simp only [vAb]
    omega) (by omega) (by omega) (by omega)
  simp only [vOff]
  omega
section Ledger
variable {X : mX} {S : sS} {t : zH} {v : vV}
set_option maxHeartbeats 4000000 in
set_option maxRecDepth 100000 in
theorem ltd (hv : vX S v) {x : Int} (hx : rI x) : zEv X 3 mX3_throwsOfDie [zR 18, zI x] (cX S ++ t) (zIs (.inl (some (zI (vTd v x)))) (cX S ++ t)) := by
  have h4 := hv.1.2.2.2.2.1
  have e4 : S.1 16 = v.1 4 := hv.2.2.2.2.2.1
  have h1 := hv.1.2.1
  have e1 : S.1 13 = v.1 1 := hv.2.2.1
  have h2 := hv.1.2.2.1
  have e2 : S.1 14 = v.1 2 := hv.2.2.2.1
  have lp : ∀ (k : Nat) (i n : Int), 0 ≤ i → n = zSum (fun k => if v.2.2.1 k = x then 1 else 0) i → i + k = v.1 4 → zWP X mX3_throwsOfDie 3 (zIs (.inl (some (zI (vTd v x)))) (cX S ++ t)) 4 [some (zR 18), some (zI x), some (zI n), some (zI i)] [] (cX S ++ t) 0 0 := by
    intro k
    induction k with
    | zero =>
      intro i n g0 hn hk
      refine zWP_run gX3_throwsOfDie 80 [4] ?_
      refine zBrT (by simp only [rI]; omega) (by omega) ?_
      rw [hn, show i = v.1 4 by omega]
      exact ⟨rfl, rfl⟩
    | succ k ih =>
      intro i n g0 hn hk
      refine zWP_run gX3_throwsOfDie 80 [4] ?_
      refine zBrF (by simp only [rI]; omega) (by omega) ?_
      have hb := hv.1.2.2.2.2.2.2 i g0 (by omega)
      refine zCl_e (gdk hv g0 (by omega)) (by decide) ?_
      refine zBr ⟨by simp only [rI]; omega, hx⟩ (fun c => ?_) (fun c => ?_)
      · exact ih (i + 1) (n + 1) (by omega) (by rw [zSum_s g0, ← hn, if_pos c]) (by omega)
      · exact ih (i + 1) (n + 0) (by omega) (by rw [zSum_s g0, ← hn, if_neg c]) (by omega)
  refine zEv_run gX3_throwsOfDie 40 [4] rfl ?_
  exact lp (v.1 4).toNat 0 0 (by omega) rfl (by omega)
set_option maxHeartbeats 4000000 in
set_option maxRecDepth 100000 in
theorem lth (hv : vX S v) {x : Int} (hx : rI x) : zEv X 3 mX3_throwsOfHand [zR 18, zI x] (cX S ++ t) (zIs (.inl (some (zI (vTh v x)))) (cX S ++ t)) := by
  have h4 := hv.1.2.2.2.2.1
  have e4 : S.1 16 = v.1 4 := hv.2.2.2.2.2.1
  have h1 := hv.1.2.1
  have e1 : S.1 13 = v.1 1 := hv.2.2.1
  have h2 := hv.1.2.2.1
  have e2 : S.1 14 = v.1 2 := hv.2.2.2.1
  have lp : ∀ (k : Nat) (i n : Int), 0 ≤ i → n = zSum (fun k => if v.2.2.2.1 k = x then 1 else 0) i → i + k = v.1 4 → zWP X mX3_throwsOfHand 3 (zIs (.inl (some (zI (vTh v x)))) (cX S ++ t)) 4 [some (zR 18), some (zI x), some (zI n), some (zI i)] [] (cX S ++ t) 0 0 := by
    intro k
    induction k with
    | zero =>
      intro i n g0 hn hk
      refine zWP_run gX3_throwsOfHand 80 [4] ?_
      refine zBrT (by simp only [rI]; omega) (by omega) ?_
      rw [hn, show i = v.1 4 by omega]
      exact ⟨rfl, rfl⟩
    | succ k ih =>
      intro i n g0 hn hk
      refine zWP_run gX3_throwsOfHand 80 [4] ?_
      refine zBrF (by simp only [rI]; omega) (by omega) ?_
      have hb := hv.1.2.2.2.2.2.2 i g0 (by omega)
      refine zCl_e (ghk hv g0 (by omega)) (by decide) ?_
      refine zBr ⟨by simp only [rI]; omega, hx⟩ (fun c => ?_) (fun c => ?_)
      · exact ih (i + 1) (n + 1) (by omega) (by rw [zSum_s g0, ← hn, if_pos c]) (by omega)
      · exact ih (i + 1) (n + 0) (by omega) (by rw [zSum_s g0, ← hn, if_neg c]) (by omega)
  refine zEv_run gX3_throwsOfHand 40 [4] rfl ?_
  exact lp (v.1 4).toNat 0 0 (by omega) rfl (by omega)
set_option maxHeartbeats 4000000 in
set_option maxRecDepth 100000 in
theorem ltf (hv : vX S v) {x f : Int} (hx : rI x) (hf : rI f) : zEv X 3 mX3_timesShown [zR 18, zI x, zI f] (cX S ++ t) (zIs (.inl (some (zI (vTf v x f)))) (cX S ++ t)) := by
  have h4 := hv.1.2.2.2.2.1
  have e4 : S.1 16 = v.1 4 := hv.2.2.2.2.2.1
  have h1 := hv.1.2.1
  have e1 : S.1 13 = v.1 1 := hv.2.2.1
  have h2 := hv.1.2.2.1
  have e2 : S.1 14 = v.1 2 := hv.2.2.2.1
  have lp : ∀ (k : Nat) (i n : Int), 0 ≤ i → n = zSum (fun k => if v.2.2.1 k = x ∧ v.2.2.2.2.1 k = f then 1 else 0) i → i + k = v.1 4 → zWP X mX3_timesShown 3 (zIs (.inl (some (zI (vTf v x f)))) (cX S ++ t)) 5 [some (zR 18), some (zI x), some (zI f), some (zI n), some (zI i)] [] (cX S ++ t) 0 0 := by
    intro k
    induction k with
    | zero =>
      intro i n g0 hn hk
      refine zWP_run gX3_timesShown 80 [5] ?_
      refine zBrT (by simp only [rI]; omega) (by omega) ?_
      rw [hn, show i = v.1 4 by omega]
      exact ⟨rfl, rfl⟩
    | succ k ih =>
      intro i n g0 hn hk
      refine zWP_run gX3_timesShown 80 [5] ?_
      refine zBrF (by simp only [rI]; omega) (by omega) ?_
      have hb := hv.1.2.2.2.2.2.2 i g0 (by omega)
      refine zCl_e (gdk hv g0 (by omega)) (by decide) ?_
      refine zBr ⟨by simp only [rI]; omega, hx⟩ (fun c => ?_) (fun c => ?_)
      · refine zCl_e (gfk hv g0 (by omega)) (by decide) ?_
        refine zBr ⟨by simp only [rI]; omega, hf⟩ (fun c2 => ?_) (fun c2 => ?_)
        · exact ih (i + 1) (n + 1) (by omega) (by rw [zSum_s g0, ← hn, if_pos ⟨c, c2⟩]) (by omega)
        · exact ih (i + 1) (n + 0) (by omega) (by rw [zSum_s g0, ← hn, if_neg (fun q => c2 q.2)]) (by omega)
      · exact ih (i + 1) (n + 0) (by omega) (by rw [zSum_s g0, ← hn, if_neg (fun q => c q.1)]) (by omega)
  refine zEv_run gX3_timesShown 40 [5] rfl ?_
  exact lp (v.1 4).toNat 0 0 (by omega) rfl (by omega)
set_option maxHeartbeats 4000000 in
set_option maxRecDepth 100000 in
theorem lrow (hv : vX S v) {f : Int} (hf : rI f) : zEv X 3 mX3_longestRow [zR 18, zI f] (cX S ++ t) (zIs (.inl (some (zI ((vRw v f).1)))) (cX S ++ t)) := by
  have h4 := hv.1.2.2.2.2.1
  have e4 : S.1 16 = v.1 4 := hv.2.2.2.2.2.1
  have h1 := hv.1.2.1
  have e1 : S.1 13 = v.1 1 := hv.2.2.1
  have h2 := hv.1.2.2.1
  have e2 : S.1 14 = v.1 2 := hv.2.2.2.1
  have lp : ∀ (k : Nat) (i a b : Int), 0 ≤ i → (a, b) = zIt (fun k x => (max x.1 (if v.2.2.2.2.1 k = f then x.2 + 1 else 0), if v.2.2.2.2.1 k = f then x.2 + 1 else 0)) (0, 0) i → 0 ≤ a ∧ a ≤ i → 0 ≤ b ∧ b ≤ i → i + k = v.1 4 → zWP X mX3_longestRow 3 (zIs (.inl (some (zI ((vRw v f).1)))) (cX S ++ t)) 7 [some (zR 18), some (zI f), some (zI a), some (zI b), some (zI i)] [] (cX S ++ t) 0 0 := by
    intro k
    induction k with
    | zero =>
      intro i a b g0 hn ha hb0 hk
      refine zWP_run gX3_longestRow 80 [7] ?_
      refine zBrT (by simp only [rI]; omega) (by omega) ?_
      rw [vRw, ← show i = v.1 4 by omega, ← hn]
      exact ⟨rfl, rfl⟩
    | succ k ih =>
      intro i a b g0 hn ha hb0 hk
      refine zWP_run gX3_longestRow 80 [7] ?_
      refine zBrF (by simp only [rI]; omega) (by omega) ?_
      have hb := hv.1.2.2.2.2.2.2 i g0 (by omega)
      refine zCl_e (gfk hv g0 (by omega)) (by decide) ?_
      refine zBr ⟨by simp only [rI]; omega, hf⟩ (fun c => ?_) (fun c => ?_)
      · refine mVc_i (by simp only [rI]; omega) ?_
        exact ih (i + 1) _ _ (by omega) (by rw [zIt_s _ _ g0, ← hn, if_pos c]) (by omega) (by omega) (by omega)
      · refine mVc_i (by simp only [rI]; omega) ?_
        exact ih (i + 1) _ _ (by omega) (by rw [zIt_s _ _ g0, ← hn, if_neg c]) (by omega) (by omega) (by omega)
  refine zEv_run gX3_longestRow 40 [7] rfl ?_
  exact lp (v.1 4).toNat 0 0 0 (by omega) rfl (by omega) (by omega) (by omega)
set_option maxHeartbeats 4000000 in
set_option maxRecDepth 100000 in
theorem loff (hv : vX S v) {x : Int} (hx : rI x) : zEv X 4 mX3_howFarOff [zR 18, zI x] (cX S ++ t) (zIs (.inl (some (zI (vOff v x)))) (cX S ++ t)) := by
  have hd := vTd_b hv.1 x
  have lp : ∀ (k : Nat) (i n : Int), 0 ≤ i → n = zSum (fun i => vAb (6 * vTf v x (i + 1) - vTd v x)) i → i + k = 6 → zWP X mX3_howFarOff 4 (zIs (.inl (some (zI (vOff v x)))) (cX S ++ t)) 11 [some (zR 18), some (zI x), some (zI (vTd v x)), some (zI n), some (zI (i + 1))] [] (cX S ++ t) 0 0 := by
    intro k
    induction k with
    | zero =>
      intro i n g0 hn hk
      refine zWP_run gX3_howFarOff 80 [11] ?_
      refine zBrT (by simp only [rI]; omega) (by omega) ?_
      rw [hn, show i = 6 by omega]
      exact ⟨rfl, rfl⟩
    | succ k ih =>
      intro i n g0 hn hk
      refine zWP_run gX3_howFarOff 80 [11] ?_
      refine zBrF (by simp only [rI]; omega) (by omega) ?_
      have hb := vTf_b hv.1 x (i + 1)
      refine zCl_e (ltf hv hx (by simp only [rI]; omega)) (by decide) ?_
      refine mVc_i (by simp only [rI]; omega) ?_
      exact ih (i + 1) _ (by omega) (by rw [zSum_s g0, ← hn]; rfl) (by omega)
  refine zEv_run gX3_howFarOff 40 [11] rfl ?_
  refine zCl_e (ltd hv hx) (by decide) ?_
  exact lp 6 0 0 (by omega) rfl (by omega)
set_option maxHeartbeats 4000000 in
set_option maxRecDepth 100000 in
theorem lfar (hv : vX S v) : zEv X 5 mX3_farthestOff [zR 18] (cX S ++ t) (zIs (.inl (some (zI ((vLd v).1)))) (cX S ++ t)) := by
  have h4 := hv.1.2.2.2.2.1
  have e4 : S.1 16 = v.1 4 := hv.2.2.2.2.2.1
  have h1 := hv.1.2.1
  have e1 : S.1 13 = v.1 1 := hv.2.2.1
  have h2 := hv.1.2.2.1
  have e2 : S.1 14 = v.1 2 := hv.2.2.2.1
  have lp : ∀ (k : Nat) (i a b : Int), 0 ≤ i → (a, b) = zIt (fun d x => if x.2 < vOff v d then (d, vOff v d) else x) (-1, 0) i → 0 ≤ b ∧ b ≤ 2160 → i + k = v.1 1 → zWP X mX3_farthestOff 5 (zIs (.inl (some (zI ((vLd v).1)))) (cX S ++ t)) 6 [some (zR 18), some (zI a), some (zI b), some (zI i), none] [] (cX S ++ t) 0 0 := by
    intro k
    induction k with
    | zero =>
      intro i a b g0 hn hb0 hk
      refine zWP_run gX3_farthestOff 80 [6] ?_
      refine zBrT (by simp only [rI]; omega) (by omega) ?_
      rw [vLd, ← show i = v.1 1 by omega, ← hn]
      exact ⟨rfl, rfl⟩
    | succ k ih =>
      intro i a b g0 hn hb0 hk
      refine zWP_run gX3_farthestOff 80 [6] ?_
      refine zBrF (by simp only [rI]; omega) (by omega) ?_
      have hb := vOff_b hv.1 i
      refine zCl_e (loff hv (by simp only [rI]; omega)) (by decide) ?_
      refine zBr (by simp only [rI]; omega) (fun c => ?_) (fun c => ?_)
      · exact zWP_fg (ih (i + 1) _ _ (by omega) (by rw [zIt_s _ _ g0, ← hn, if_neg (by show ¬ b < _; omega)]) (by omega) (by omega)) (by repeat (first | exact trivial | refine ⟨rfl, ?_⟩))
      · exact zWP_fg (ih (i + 1) _ _ (by omega) (by rw [zIt_s _ _ g0, ← hn, if_pos (by show b < _; omega)]) (by omega) (by omega)) (by repeat (first | exact trivial | refine ⟨rfl, ?_⟩))
  refine zEv_run gX3_farthestOff 40 [6] rfl ?_
  exact lp (v.1 1).toNat 0 (-1) 0 (by omega) rfl (by omega) (by omega)
end Ledger
/-- ways by which a shows more than b; as many -/
def vBt (s : vS) (a b : Int) : Int := s.1 a 2 * s.1 b 1 + s.1 a 3 * (s.1 b 1 + s.1 b 2) + s.1 a 4 * (s.1 b 1 + s.1 b 2 + s.1 b 3) + s.1 a 5 * (s.1 b 1 + s.1 b 2 + s.1 b 3 + s.1 b 4) + s.1 a 6 * (s.1 b 1 + s.1 b 2 + s.1 b 3 + s.1 b 4 + s.1 b 5)
def vTi (s : vS) (a b : Int) : Int := s.1 a 1 * s.1 b 1 + s.1 a 2 * s.1 b 2 + s.1 a 3 * s.1 b 3 + s.1 a 4 * s.1 b 4 + s.1 a 5 * s.1 b 5 + s.1 a 6 * s.1 b 6
theorem mul_b {a b m n : Int} (ha : 0 ≤ a ∧ a ≤ m) (hb : 0 ≤ b ∧ b ≤ n) : 0 ≤ a * b ∧ a * b ≤ m * n := ⟨Int.mul_nonneg ha.1 hb.1, Int.mul_le_mul ha.2 hb.2 hb.1 (by omega)⟩
theorem vBt_b {s : vS} (h : vSb s) (a b : Int) : 0 ≤ vBt s a b ∧ vBt s a b ≤ 6000 := by
  have g1 := h.1 b 1
  have g2 := h.1 b 2
  have g3 := h.1 b 3
  have g4 := h.1 b 4
  have g5 := h.1 b 5
  have q2 := mul_b (h.1 a 2) g1
  have q3 := mul_b (h.1 a 3) (b := s.1 b 1 + s.1 b 2) (n := 40) (by omega)
  have q4 := mul_b (h.1 a 4) (b := s.1 b 1 + s.1 b 2 + s.1 b 3) (n := 60) (by omega)
  have q5 := mul_b (h.1 a 5) (b := s.1 b 1 + s.1 b 2 + s.1 b 3 + s.1 b 4) (n := 80) (by omega)
  have q6 := mul_b (h.1 a 6) (b := s.1 b 1 + s.1 b 2 + s.1 b 3 + s.1 b 4 + s.1 b 5) (n := 100) (by omega)
  simp only [vBt]
  omega
theorem vTi_b {s : vS} (h : vSb s) (a b : Int) : 0 ≤ vTi s a b ∧ vTi s a b ≤ 2400 := by
  have q1 := mul_b (h.1 a 1) (h.1 b 1)
  have q2 := mul_b (h.1 a 2) (h.1 b 2)
  have q3 := mul_b (h.1 a 3) (h.1 b 3)
  have q4 := mul_b (h.1 a 4) (h.1 b 4)
  have q5 := mul_b (h.1 a 5) (h.1 b 5)
  have q6 := mul_b (h.1 a 6) (h.1 b 6)
  simp only [vTi]
  omega
/-- the model's own way to count -/
theorem vBt_m (s : vS) (a b : Int) : vBt s a b = s.1 a 2 * s.1 b 1 + s.1 a 3 * s.1 b 1 + s.1 a 3 * s.1 b 2 + s.1 a 4 * s.1 b 1 + s.1 a 4 * s.1 b 2 + s.1 a 4 * s.1 b 3 + s.1 a 5 * s.1 b 1 + s.1 a 5 * s.1 b 2 + s.1 a 5 * s.1 b 3 + s.1 a 5 * s.1 b 4 + s.1 a 6 * s.1 b 1 + s.1 a 6 * s.1 b 2 + s.1 a 6 * s.1 b 3 + s.1 a 6 * s.1 b 4 + s.1 a 6 * s.1 b 5 := by
  simp only [vBt]
  grind
def vWk (v : vV) (d : Int) : Int := zSum (fun b => if vBt v.2.1 b d < vBt v.2.1 d b then 1 else 0) (v.1 1)
def vStg (v : vV) : Int × Int := zIt (fun d x => if ¬ vTot v.2.1 d = 0 ∧ x.2 < vWk v d then (d, vWk v d) else x) (-1, -1) (v.1 1)
theorem vWk_b {v : vV} (h : vVb v) (d : Int) : 0 ≤ vWk v d ∧ vWk v d ≤ 5 := by
  have := h.2.1
  have := zSum_01 (f := fun b => if vBt v.2.1 b d < vBt v.2.1 d b then 1 else 0) (fun i => by by_cases c : vBt v.2.1 i d < vBt v.2.1 d i <;> simp [c]) this.1 this.2
  exact this
section Beating
variable {X : mX} {S : sS} {t : zH} {v : vV}
set_option maxHeartbeats 4000000 in
set_option maxRecDepth 100000 in
theorem bbt (hv : vX S v) {a b : Int} (ha : 0 ≤ a ∧ a < v.1 1) (hb : 0 ≤ b ∧ b < v.1 1) : zEv X 2 mX0_waysToBeat [zR 14, zI a, zI b] (cX S ++ t) (zIs (.inl (some (zI (vBt v.2.1 a b)))) (cX S ++ t)) := by
  refine zEv_run gX0_waysToBeat 400 [] rfl ?_
  repeat (first
    | refine zBrF (by simp only [rI]; omega) (by omega) ?_
    | refine zBrT (by simp only [rI]; omega) (by omega) ?_
    | refine zCl_e (gw hv ha.1 ha.2 (by omega) (by omega)) (by decide) ?_
    | refine zCl_e (gw hv hb.1 hb.2 (by omega) (by omega)) (by decide) ?_
    | refine mVc_i (by first | omega | (simp only [rI]; omega)) ?_)
  refine ⟨?_, rfl⟩
  simp only [vBt, Int.zero_add, Int.mul_zero]
  rfl
set_option maxHeartbeats 4000000 in
set_option maxRecDepth 100000 in
theorem bti (hv : vX S v) {a b : Int} (ha : 0 ≤ a ∧ a < v.1 1) (hb : 0 ≤ b ∧ b < v.1 1) : zEv X 2 mX0_waysToTie [zR 14, zI a, zI b] (cX S ++ t) (zIs (.inl (some (zI (vTi v.2.1 a b)))) (cX S ++ t)) := by
  refine zEv_run gX0_waysToTie 400 [] rfl ?_
  repeat (first
    | refine zBrF (by simp only [rI]; omega) (by omega) ?_
    | refine zBrT (by simp only [rI]; omega) (by omega) ?_
    | refine zCl_e (gw hv ha.1 ha.2 (by omega) (by omega)) (by decide) ?_
    | refine zCl_e (gw hv hb.1 hb.2 (by omega) (by omega)) (by decide) ?_
    | refine mVc_i (by first | omega | (simp only [rI]; omega)) ?_)
  refine ⟨?_, rfl⟩
  simp only [vTi, Int.zero_add]
  rfl
set_option maxHeartbeats 4000000 in
set_option maxRecDepth 100000 in
theorem bbe (hv : vX S v) {a b : Int} (ha : 0 ≤ a ∧ a < v.1 1) (hb : 0 ≤ b ∧ b < v.1 1) : zEv X 3 mX0_isBetter [zR 14, zI a, zI b] (cX S ++ t) (zIs (.inl (some (zI (if vBt v.2.1 b a < vBt v.2.1 a b then 1 else 0)))) (cX S ++ t)) := by
  have q1 := vBt_b hv.1.2.2.2.2.2.1 a b
  have q2 := vBt_b hv.1.2.2.2.2.2.1 b a
  refine zEv_run gX0_isBetter 40 [] rfl ?_
  refine zCl_e (bbt hv ha hb) (by decide) ?_
  refine zCl_e (bbt hv hb ha) (by decide) ?_
  refine zBr (by simp only [rI]; omega) (fun c => ?_) (fun c => ?_)
  · rw [if_neg (by omega)]
    exact mVc_i (Or.inl rfl) ⟨rfl, rfl⟩
  · rw [if_pos (by omega)]
    exact mVc_i (Or.inr rfl) ⟨rfl, rfl⟩
set_option maxHeartbeats 4000000 in
set_option maxRecDepth 100000 in
theorem bwk (hv : vX S v) {a : Int} (ha : 0 ≤ a ∧ a < v.1 1) : zEv X 4 mX0_weakerOnes [zR 14, zI a] (cX S ++ t) (zIs (.inl (some (zI (vWk v a)))) (cX S ++ t)) := by
  have h4 := hv.1.2.2.2.2.1
  have e4 : S.1 16 = v.1 4 := hv.2.2.2.2.2.1
  have h1 := hv.1.2.1
  have e1 : S.1 13 = v.1 1 := hv.2.2.1
  have h2 := hv.1.2.2.1
  have e2 : S.1 14 = v.1 2 := hv.2.2.2.1
  have lp : ∀ (k : Nat) (i n : Int), 0 ≤ i → n = zSum (fun b => if vBt v.2.1 b a < vBt v.2.1 a b then 1 else 0) i → i + k = v.1 1 → zWP X mX0_weakerOnes 4 (zIs (.inl (some (zI (vWk v a)))) (cX S ++ t)) 4 [some (zR 14), some (zI a), some (zI n), some (zI i)] [] (cX S ++ t) 0 0 := by
    intro k
    induction k with
    | zero =>
      intro i n g0 hn hk
      refine zWP_run gX0_weakerOnes 80 [4] ?_
      refine zBrT (by simp only [rI]; omega) (by omega) ?_
      rw [hn, show i = v.1 1 by omega]
      exact ⟨rfl, rfl⟩
    | succ k ih =>
      intro i n g0 hn hk
      refine zWP_run gX0_weakerOnes 80 [4] ?_
      refine zBrF (by simp only [rI]; omega) (by omega) ?_
      refine zCl_e (bbe hv ha ⟨g0, by omega⟩) (by decide) ?_
      refine zBb (fun c => ?_) (fun c => ?_)
      · exact ih (i + 1) (n + 0) (by omega) (by rw [zSum_s g0, ← hn, if_neg c]) (by omega)
      · exact ih (i + 1) (n + 1) (by omega) (by rw [zSum_s g0, ← hn, if_pos c]) (by omega)
  refine zEv_run gX0_weakerOnes 40 [4] rfl ?_
  exact lp (v.1 1).toNat 0 0 (by omega) rfl (by omega)
set_option maxHeartbeats 4000000 in
set_option maxRecDepth 100000 in
theorem bstg (hv : vX S v) : zEv X 5 mX0_strongestDie [zR 14] (cX S ++ t) (zIs (.inl (some (zI ((vStg v).1)))) (cX S ++ t)) := by
  have h4 := hv.1.2.2.2.2.1
  have e4 : S.1 16 = v.1 4 := hv.2.2.2.2.2.1
  have h1 := hv.1.2.1
  have e1 : S.1 13 = v.1 1 := hv.2.2.1
  have h2 := hv.1.2.2.1
  have e2 : S.1 14 = v.1 2 := hv.2.2.2.1
  have lp : ∀ (k : Nat) (i a b : Int), 0 ≤ i → (a, b) = zIt (fun d x => if ¬ vTot v.2.1 d = 0 ∧ x.2 < vWk v d then (d, vWk v d) else x) (-1, -1) i → -1 ≤ b ∧ b ≤ 5 → i + k = v.1 1 → zWP X mX0_strongestDie 5 (zIs (.inl (some (zI ((vStg v).1)))) (cX S ++ t)) 6 [some (zR 14), some (zI a), some (zI b), some (zI i), none] [] (cX S ++ t) 0 0 := by
    intro k
    induction k with
    | zero =>
      intro i a b g0 hn hb0 hk
      refine zWP_run gX0_strongestDie 80 [6] ?_
      refine zBrT (by simp only [rI]; omega) (by omega) ?_
      rw [vStg, ← show i = v.1 1 by omega, ← hn]
      exact ⟨rfl, rfl⟩
    | succ k ih =>
      intro i a b g0 hn hb0 hk
      refine zWP_run gX0_strongestDie 80 [6] ?_
      refine zBrF (by simp only [rI]; omega) (by omega) ?_
      have hb := vWk_b hv.1 i
      refine zCl_e (bwk hv ⟨g0, by omega⟩) (by decide) ?_
      refine zCl_e (ggone hv g0 (by omega)) (by decide) ?_
      refine zBb (fun c0 => ?_) (fun c0 => ?_)
      · refine zBr (by simp only [rI]; omega) (fun c => ?_) (fun c => ?_)
        · exact zWP_fg (ih (i + 1) _ _ (by omega) (by rw [zIt_s _ _ g0, ← hn, if_neg (by intro q; have q2 : b < vWk v i := q.2; omega)]) (by omega) (by omega)) (by repeat (first | exact trivial | refine ⟨rfl, ?_⟩))
        · exact zWP_fg (ih (i + 1) _ _ (by omega) (by rw [zIt_s _ _ g0, ← hn, if_pos ⟨c0, by show b < _; omega⟩]) (by omega) (by omega)) (by repeat (first | exact trivial | refine ⟨rfl, ?_⟩))
      · exact zWP_fg (ih (i + 1) _ _ (by omega) (by rw [zIt_s _ _ g0, ← hn, if_neg (fun q => q.1 c0)]) (by omega) (by omega)) (by repeat (first | exact trivial | refine ⟨rfl, ?_⟩))
  refine zEv_run gX0_strongestDie 40 [6] rfl ?_
  exact lp (v.1 1).toNat 0 (-1) (-1) (by omega) rfl (by omega) (by omega)
end Beating
end
section
/-! rings, the evenest two; ants again; draws and lots -/
def vBe (v : vV) (a b : Int) : Prop := vBt v.2.1 b a < vBt v.2.1 a b
def vRg (v : vV) (a b c : Int) : Prop := vBe v a b ∧ vBe v b c ∧ vBe v c a
def vC3 (v : vV) (key a b : Int) : Nat → Int → Int → (Int → Int) → Int
  | 0, _, n, fin => fin n
  | k + 1, c, n, fin => if vBt v.2.1 b a < vBt v.2.1 a b ∧ vBt v.2.1 c b < vBt v.2.1 b c ∧ vBt v.2.1 a c < vBt v.2.1 c a then (if n = key then 100 * a + 10 * b + c else vC3 v key a b k (c + 1) (n + 1) fin) else vC3 v key a b k (c + 1) n fin
def vC2 (v : vV) (key a : Int) : Nat → Int → Int → (Int → Int) → Int
  | 0, _, n, fin => fin n
  | k + 1, b, n, fin => vC3 v key a b (v.1 1 - (a + 1)).toNat (a + 1) n (fun n => vC2 v key a k (b + 1) n fin)
def vC1 (v : vV) (key : Int) : Nat → Int → Int → Int
  | 0, _, n => if key = -1 then n else -1
  | k + 1, a, n => vC2 v key a (v.1 1 - (a + 1)).toNat (a + 1) n (fun n => vC1 v key k (a + 1) n)
def vE1 (v : vV) (a b : Int) (x : Int × Int × Int) : Int × Int × Int := if 0 < vTot v.2.1 a * vTot v.2.1 b ∧ (x.1 = -1 ∨ vAb (vBt v.2.1 a b - vBt v.2.1 b a) * x.2.2 < x.2.1 * (vTot v.2.1 a * vTot v.2.1 b)) then (10 * a + b, vAb (vBt v.2.1 a b - vBt v.2.1 b a), vTot v.2.1 a * vTot v.2.1 b) else x
def vE2 (v : vV) (a : Int) : Nat → Int → Int × Int × Int → Int × Int × Int
  | 0, _, x => x
  | k + 1, b, x => vE2 v a k (b + 1) (vE1 v a b x)
def vE0 (v : vV) : Nat → Int → Int × Int × Int → Int × Int × Int
  | 0, _, x => x
  | k + 1, a, x => vE0 v k (a + 1) (vE2 v a (v.1 1 - (a + 1)).toNat (a + 1) x)
section Rings
variable {X : mX} {S : sS} {t : zH} {v : vV}
set_option maxHeartbeats 4000000 in
set_option maxRecDepth 100000 in
theorem bring (hv : vX S v) {y : Int} (hy : rI y) : zEv X 4 mX0_ringAt [zR 14, zI y] (cX S ++ t) (zIs (.inl (some (zI (vC1 v y (v.1 1).toNat 0 0)))) (cX S ++ t)) := by
  have h4 := hv.1.2.2.2.2.1
  have e4 : S.1 16 = v.1 4 := hv.2.2.2.2.2.1
  have h1 := hv.1.2.1
  have e1 : S.1 13 = v.1 1 := hv.2.2.1
  have h2 := hv.1.2.2.1
  have e2 : S.1 14 = v.1 2 := hv.2.2.2.1
  have hy1 := hy.1
  have hy2 := hy.2
  have l3 : ∀ (k : Nat) (a b c n : Int) (fin : Int → Int), 0 ≤ a → a < v.1 1 → 0 ≤ b → b < v.1 1 → 0 ≤ c → c + k = v.1 1 → 0 ≤ n → n ≤ 25 * a + 5 * b + c → (∀ z, 0 ≤ z → z ≤ 25 * a + 5 * (b + 1) → zWP X mX0_ringAt 4 (zIs (.inl (some (zI (fin z)))) (cX S ++ t)) 20 [some (zR 14), some (zI y), some (zI z), some (zI a), some (zI (b + 1)), none] [] (cX S ++ t) 0 0) → zWP X mX0_ringAt 4 (zIs (.inl (some (zI (vC3 v y a b k c n fin)))) (cX S ++ t)) 37 [some (zR 14), some (zI y), some (zI n), some (zI a), some (zI b), some (zI c)] [] (cX S ++ t) 0 0 := by
    intro k
    induction k with
    | zero =>
      intro a b c n fin a0 a1 b0 b1 c0 hk n0 n1 hf
      refine zWP_run gX0_ringAt 60 [20, 37] ?_
      refine zBrT (by simp only [rI]; omega) (by omega) ?_
      exact zWP_fg (hf n n0 (by omega)) (by repeat (first | exact trivial | refine ⟨rfl, ?_⟩))
    | succ k ih =>
      intro a b c n fin a0 a1 b0 b1 c0 hk n0 n1 hf
      have st0 : zWP X mX0_ringAt 4 (zIs (.inl (some (zI (vC3 v y a b k (c + 1) n fin)))) (cX S ++ t)) 37 [some (zR 14), some (zI y), some (zI n), some (zI a), some (zI b), some (zI (c + 1))] [] (cX S ++ t) 0 0 := ih a b (c + 1) n fin a0 a1 b0 b1 (by omega) (by omega) n0 (by omega) hf
      refine zWP_run gX0_ringAt 60 [20, 37] ?_
      refine zBrF (by simp only [rI]; omega) (by omega) ?_
      simp only [vC3]
      refine zCl_e (bbe hv ⟨a0, a1⟩ ⟨b0, b1⟩) (by decide) ?_
      refine zBb (fun d1 => ?_) (fun d1 => ?_)
      · rw [if_neg (fun q => d1 q.1)]
        exact st0
      · refine zCl_e (bbe hv ⟨b0, b1⟩ ⟨c0, by omega⟩) (by decide) ?_
        refine zBb (fun d2 => ?_) (fun d2 => ?_)
        · rw [if_neg (fun q => d2 q.2.1)]
          exact st0
        · refine zCl_e (bbe hv ⟨c0, by omega⟩ ⟨a0, a1⟩) (by decide) ?_
          refine zBb (fun d3 => ?_) (fun d3 => ?_)
          · rw [if_neg (fun q => d3 q.2.2)]
            exact st0
          · rw [if_pos ⟨d1, d2, d3⟩]
            refine zBr ⟨by simp only [rI]; omega, hy⟩ (fun d4 => ?_) (fun d4 => ?_)
            · rw [if_pos d4]
              exact ⟨rfl, rfl⟩
            · rw [if_neg d4]
              exact ih a b (c + 1) (n + 1) fin a0 a1 b0 b1 (by omega) (by omega) (by omega) (by omega) hf
  have l2 : ∀ (k : Nat) (a b n : Int) (fin : Int → Int), 0 ≤ a → a < v.1 1 → 0 ≤ b → b + k = v.1 1 → 0 ≤ n → n ≤ 25 * a + 5 * b → (∀ z, 0 ≤ z → z ≤ 25 * (a + 1) → zWP X mX0_ringAt 4 (zIs (.inl (some (zI (fin z)))) (cX S ++ t)) 4 [some (zR 14), some (zI y), some (zI z), some (zI (a + 1)), none, none] [] (cX S ++ t) 0 0) → zWP X mX0_ringAt 4 (zIs (.inl (some (zI (vC2 v y a k b n fin)))) (cX S ++ t)) 20 [some (zR 14), some (zI y), some (zI n), some (zI a), some (zI b), none] [] (cX S ++ t) 0 0 := by
    intro k
    induction k with
    | zero =>
      intro a b n fin a0 a1 b0 hk n0 n1 hf
      refine zWP_run gX0_ringAt 60 [4, 20, 37] ?_
      refine zBrT (by simp only [rI]; omega) (by omega) ?_
      exact zWP_fg (hf n n0 (by omega)) (by repeat (first | exact trivial | refine ⟨rfl, ?_⟩))
    | succ k ih =>
      intro a b n fin a0 a1 b0 hk n0 n1 hf
      refine zWP_run gX0_ringAt 60 [4, 20, 37] ?_
      refine zBrF (by simp only [rI]; omega) (by omega) ?_
      exact l3 _ a b (a + 1) n _ a0 a1 b0 (by omega) (by omega) (by omega) n0 (by omega) (fun z z0 z1 => ih a (b + 1) z fin a0 a1 (by omega) (by omega) z0 (by omega) hf)
  have l1 : ∀ (k : Nat) (a n : Int), 0 ≤ a → a + k = v.1 1 → 0 ≤ n → n ≤ 25 * a → zWP X mX0_ringAt 4 (zIs (.inl (some (zI (vC1 v y k a n)))) (cX S ++ t)) 4 [some (zR 14), some (zI y), some (zI n), some (zI a), none, none] [] (cX S ++ t) 0 0 := by
    intro k
    induction k with
    | zero =>
      intro a n a0 hk n0 n1
      refine zWP_run gX0_ringAt 60 [4, 20, 37] ?_
      refine zBrT (by simp only [rI]; omega) (by omega) ?_
      simp only [vC1]
      refine zBr ⟨hy, by simp only [rI]; omega⟩ (fun c => ?_) (fun c => ?_)
      · rw [if_pos c]
        exact ⟨rfl, rfl⟩
      · rw [if_neg c]
        exact ⟨rfl, rfl⟩
    | succ k ih =>
      intro a n a0 hk n0 n1
      refine zWP_run gX0_ringAt 60 [4, 20, 37] ?_
      refine zBrF (by simp only [rI]; omega) (by omega) ?_
      exact l2 _ a (a + 1) n _ a0 (by omega) (by omega) (by omega) n0 (by omega) (fun z z0 z1 => ih (a + 1) z (by omega) (by omega) z0 (by omega))
  refine zEv_run gX0_ringAt 40 [4] rfl ?_
  exact l1 (v.1 1).toNat 0 0 (by omega) (by omega) (by omega) (by omega)
set_option maxHeartbeats 4000000 in
set_option maxRecDepth 100000 in
theorem beven (hv : vX S v) : zEv X 3 mX0_evenestTwo [zR 14] (cX S ++ t) (zIs (.inl (some (zI ((vE0 v (v.1 1).toNat 0 (-1, 0, 1)).1)))) (cX S ++ t)) := by
  have h4 := hv.1.2.2.2.2.1
  have e4 : S.1 16 = v.1 4 := hv.2.2.2.2.2.1
  have h1 := hv.1.2.1
  have e1 : S.1 13 = v.1 1 := hv.2.2.1
  have h2 := hv.1.2.2.1
  have e2 : S.1 14 = v.1 2 := hv.2.2.2.1
  have l2 : ∀ (k ka : Nat) (a b x y z : Int), 0 ≤ a → a < v.1 1 → 0 ≤ b → b + k = v.1 1 → -1 ≤ x ∧ x ≤ 100 → 0 ≤ y ∧ y ≤ 6000 → 0 ≤ z ∧ z ≤ 14400 → (∀ x y z : Int, -1 ≤ x ∧ x ≤ 100 → 0 ≤ y ∧ y ≤ 6000 → 0 ≤ z ∧ z ≤ 14400 → zWP X mX0_evenestTwo 3 (zIs (.inl (some (zI ((vE0 v ka (a + 1) (x, y, z)).1)))) (cX S ++ t)) 10 [some (zR 14), some (zI x), some (zJ y), none, some (zJ z), none, some (zI (a + 1)), none, none, none, none, none] [] (cX S ++ t) 0 0) → zWP X mX0_evenestTwo 3 (zIs (.inl (some (zI ((vE0 v ka (a + 1) (vE2 v a k b (x, y, z))).1)))) (cX S ++ t)) 28 [some (zR 14), some (zI x), some (zJ y), none, some (zJ z), none, some (zI a), some (zI b), none, none, none, none] [] (cX S ++ t) 0 0 := by
    intro k
    induction k with
    | zero =>
      intro ka a b x y z a0 a1 b0 hk hx hy hz hf
      refine zWP_run gX0_evenestTwo 60 [10, 28] ?_
      refine zBrT (by simp only [rI]; omega) (by omega) ?_
      exact zWP_fg (hf x y z hx hy hz) (by repeat (first | exact trivial | refine ⟨rfl, ?_⟩))
    | succ k ih =>
      intro ka a b x y z a0 a1 b0 hk hx hy hz hf
      have q1 := vBt_b hv.1.2.2.2.2.2.1 a b
      have q2 := vBt_b hv.1.2.2.2.2.2.1 b a
      have q3 := gtb hv a
      have q4 := gtb hv b
      have q5 := mul_b q3 q4
      have q6 : 0 ≤ vAb (vBt v.2.1 a b - vBt v.2.1 b a) ∧ vAb (vBt v.2.1 a b - vBt v.2.1 b a) ≤ 6000 := by simp only [vAb]; omega
      have q7 := mul_b q6 hz
      have q8 := mul_b hy q5
      have st0 : ¬ (0 < vTot v.2.1 a * vTot v.2.1 b ∧ (x = -1 ∨ vAb (vBt v.2.1 a b - vBt v.2.1 b a) * z < y * (vTot v.2.1 a * vTot v.2.1 b))) → zWP X mX0_evenestTwo 3 (zIs (.inl (some (zI ((vE0 v ka (a + 1) (vE2 v a (k + 1) b (x, y, z))).1)))) (cX S ++ t)) 28 [some (zR 14), some (zI x), some (zJ y), none, some (zJ z), none, some (zI a), some (zI (b + 1)), none, none, none, none] [] (cX S ++ t) 0 0 := by
        intro c
        simp only [vE2, vE1]
        rw [if_neg c]
        exact ih ka a (b + 1) x y z a0 a1 (by omega) (by omega) hx hy hz hf
      have st1 : (0 < vTot v.2.1 a * vTot v.2.1 b ∧ (x = -1 ∨ vAb (vBt v.2.1 a b - vBt v.2.1 b a) * z < y * (vTot v.2.1 a * vTot v.2.1 b))) → zWP X mX0_evenestTwo 3 (zIs (.inl (some (zI ((vE0 v ka (a + 1) (vE2 v a (k + 1) b (x, y, z))).1)))) (cX S ++ t)) 28 [some (zR 14), some (zI (10 * a + b)), some (zJ (vAb (vBt v.2.1 a b - vBt v.2.1 b a))), none, some (zJ (vTot v.2.1 a * vTot v.2.1 b)), none, some (zI a), some (zI (b + 1)), none, none, none, none] [] (cX S ++ t) 0 0 := by
        intro c
        simp only [vE2, vE1]
        rw [if_pos c]
        exact ih ka a (b + 1) _ _ _ a0 a1 (by omega) (by omega) (by omega) q6 (by omega) hf
      refine zWP_run gX0_evenestTwo 60 [10, 28] ?_
      refine zBrF (by simp only [rI]; omega) (by omega) ?_
      refine zCl_e (gtot hv a0 a1) (by decide) ?_
      refine zCl_e (gtot hv b0 (by omega)) (by decide) ?_
      refine mVc_i (by simp only [rI]; omega) ?_
      refine zCl_e (bbt hv ⟨a0, a1⟩ ⟨b0, by omega⟩) (by decide) ?_
      refine zCl_e (bbt hv ⟨b0, by omega⟩ ⟨a0, a1⟩) (by decide) ?_
      refine mVc_i (by simp only [rI]; omega) ?_
      refine mVc_i (by simp only [rI]; omega) ?_
      refine zBr (by simp only [rL]; omega) (fun c1 => ?_) (fun c1 => ?_)
      · exact zWP_fg (st0 (by omega)) (by repeat (first | exact trivial | refine ⟨rfl, ?_⟩))
      · refine zBr (by simp only [rI]; omega) (fun c2 => ?_) (fun c2 => ?_)
        · exact zWP_fg (st1 ⟨by omega, Or.inl c2⟩) (by repeat (first | exact trivial | refine ⟨rfl, ?_⟩))
        · refine zBr ?_ (fun c3 => ?_) (fun c3 => ?_)
          · show rL (vAb (vBt v.2.1 a b - vBt v.2.1 b a) * z) ∧ rL (y * (vTot v.2.1 a * vTot v.2.1 b))
            simp only [rL]
            omega
          · exact zWP_fg (st0 (by intro q; rcases q.2 with q | q; exact c2 q; exact absurd q (Int.not_lt.mpr c3))) (by repeat (first | exact trivial | refine ⟨rfl, ?_⟩))
          · exact zWP_fg (st1 ⟨by omega, Or.inr (Int.not_le.mp c3)⟩) (by repeat (first | exact trivial | refine ⟨rfl, ?_⟩))
  have l1 : ∀ (k : Nat) (a x y z : Int), 0 ≤ a → a + k = v.1 1 → -1 ≤ x ∧ x ≤ 100 → 0 ≤ y ∧ y ≤ 6000 → 0 ≤ z ∧ z ≤ 14400 → zWP X mX0_evenestTwo 3 (zIs (.inl (some (zI ((vE0 v k a (x, y, z)).1)))) (cX S ++ t)) 10 [some (zR 14), some (zI x), some (zJ y), none, some (zJ z), none, some (zI a), none, none, none, none, none] [] (cX S ++ t) 0 0 := by
    intro k
    induction k with
    | zero =>
      intro a x y z a0 hk hx hy hz
      refine zWP_run gX0_evenestTwo 60 [10, 28] ?_
      refine zBrT (by simp only [rI]; omega) (by omega) ?_
      exact ⟨rfl, rfl⟩
    | succ k ih =>
      intro a x y z a0 hk hx hy hz
      refine zWP_run gX0_evenestTwo 60 [10, 28] ?_
      refine zBrF (by simp only [rI]; omega) (by omega) ?_
      exact l2 _ k a (a + 1) x y z a0 (by omega) (by omega) (by omega) hx hy hz (fun x y z hx hy hz => ih (a + 1) x y z (by omega) (by omega) hx hy hz)
  refine zEv_run gX0_evenestTwo 40 [10] rfl ?_
  exact l1 (v.1 1).toNat 0 (-1) 0 1 (by omega) (by omega) (by omega) (by omega) (by omega)
end Rings
end
section
/-! ants told ahead; draws and lots -/
def vEn (v : vV) (d f m : Int) : Int := if v.2.1.2.1 d = 1 then v.2.1.1 d f else vEp v d m (vPs v f)
def vLf (v : vV) (d i : Int) : Int := zIt (fun p l => if 0 < vWp v d p then vAf v p else l) (-1) i
/-- draws -/
def dN (s : Int) : Int := 1103515245 * s + 12345
def dW (s : Int) : Int := ((Int32.ofInt s).toUInt32 >>> ((Int32.ofInt 16).toUInt32 &&& Int32.toUInt32 31)).toInt32.toInt
theorem dW_b (s : Int) : 0 ≤ dW s ∧ dW s < 65536 := by
  have e : (Int32.ofInt 16).toUInt32 &&& Int32.toUInt32 31 = 16 := by decide
  have h1 : ((Int32.ofInt s).toUInt32 >>> 16).toBitVec.toNat < 65536 := by
    show ((Int32.ofInt s).toUInt32 >>> 16).toNat < 65536
    rw [UInt32.toNat_shiftRight]
    have := (Int32.ofInt s).toUInt32.toNat_lt
    simp only [Nat.shiftRight_eq_div_pow]
    have e2 : (16 : UInt32).toNat % 32 = 16 := by decide
    rw [e2]
    omega
  simp only [dW, e]
  show 0 ≤ ((Int32.ofInt s).toUInt32 >>> 16).toBitVec.toInt ∧ ((Int32.ofInt s).toUInt32 >>> 16).toBitVec.toInt < 65536
  rw [BitVec.toInt_eq_toNat_of_lt (by omega)]
  omega
theorem vX_17 {S : sS} {v : vV} (hv : vX S v) (z : Int) : vX (sI S 17 z) v := hv
/-- the k-th die that is not taken, from d on -/
def vDl (tk : Int) : Nat → Int → Int → Int
  | 0, _, _ => -1
  | n + 1, d, k => if tk / 2 ^ d.toNat % 2 = 0 then (if k = 0 then d else vDl tk n (d + 1) (k - 1)) else vDl tk n (d + 1) k
theorem vDl_b (tk : Int) : ∀ (n : Nat) (d k : Int), vDl tk n d k = -1 ∨ (d ≤ vDl tk n d k ∧ vDl tk n d k < d + n ∧ tk / 2 ^ (vDl tk n d k).toNat % 2 = 0)
  | 0, d, k => Or.inl rfl
  | n + 1, d, k => by
    simp only [vDl]
    split
    · rename_i c
      split
      · refine Or.inr ⟨by omega, by omega, c⟩
      · rcases vDl_b tk n (d + 1) (k - 1) with h | h
        · exact Or.inl h
        · exact Or.inr ⟨by omega, by omega, h.2.2⟩
    · rcases vDl_b tk n (d + 1) k with h | h
      · exact Or.inl h
      · exact Or.inr ⟨by omega, by omega, h.2.2⟩
def vLt (v : vV) (k z : Int) : vV := (v.1, (v.2.1.1, v.2.1.2.1, v.2.1.2.2.1, fun k1 => if k1 = k then z else v.2.1.2.2.2 k1), v.2.2)
theorem vX_l {S : sS} {v : vV} (hv : vX S v) {q z : Int} (h0 : 0 ≤ q) (hz : -1 ≤ z ∧ z ≤ 4) : vX (sA S 2 (va_up (S.2.1 2) (35 + q).toNat z)) (vLt v q z) := by
  obtain ⟨⟨b0, b1, b2, b3, b4, bs, bh⟩, e0, e1, e2, e3, e4, hr, hh⟩ := hv
  refine ⟨⟨b0, b1, b2, b3, b4, ⟨bs.1, bs.2.1, bs.2.2.1, fun k => ?_⟩, bh⟩, e0, e1, e2, e3, e4, ⟨fun d1 f1 g0 g1 g2 g3 => ?_, ?_, fun k k0 k1 => ?_, fun k k0 k1 => ?_⟩, hh⟩
  · show -1 ≤ (if k = q then z else v.2.1.2.2.2 k) ∧ (if k = q then z else v.2.1.2.2.2 k) ≤ 4
    split
    · exact hz
    · exact bs.2.2.2 k
  · show va_up (S.2.1 2) (35 + q).toNat z (0 + (d1 * 6 + f1 - 1).toNat) = _
    rw [va_up_o _ _ (by omega)]
    exact hr.1 d1 f1 g0 g1 g2 g3
  · show va_up (S.2.1 2) (35 + q).toNat z (0 + 30) = _
    rw [va_up_o _ _ (by omega)]
    exact hr.2.1
  · show va_up (S.2.1 2) (35 + q).toNat z (0 + (31 + k).toNat) = _
    rw [va_up_o _ _ (by omega)]
    exact hr.2.2.1 k k0 k1
  · show va_up (S.2.1 2) (35 + q).toNat z (0 + (35 + k).toNat) = if k = q then z else v.2.1.2.2.2 k
    split
    · rename_i c
      rw [c, Nat.zero_add, va_up_s]
    · rw [va_up_o _ _ (by omega)]
      exact hr.2.2.2 k k0 k1
/-- lots: the seed, the taken ones, how many, the table -/
def vLs (n : Int) (q : Int) (x : Int × Int × Int × vV) : Int × Int × Int × vV :=
  if 0 < n - x.2.2.1 then
    (if vDl x.2.1 n.toNat 0 (dW (dN x.1) % (n - x.2.2.1)) = -1 then (dN x.1, x.2.1, x.2.2.1, vLt x.2.2.2 q (-1))
     else (dN x.1, x.2.1 + 2 ^ (vDl x.2.1 n.toNat 0 (dW (dN x.1) % (n - x.2.2.1))).toNat, x.2.2.1 + 1, vLt x.2.2.2 q (vDl x.2.1 n.toNat 0 (dW (dN x.1) % (n - x.2.2.1)))))
  else (x.1, x.2.1, x.2.2.1, vLt x.2.2.2 q (-1))
def vLot (v : vV) (s : Int) : Int × Int × Int × vV := zIt (vLs (v.1 1)) (s, 0, 0, v) (v.1 2)
theorem pw_b {tk d : Int} (ht : 0 ≤ tk ∧ tk < 32) (h0 : 0 ≤ d) (h1 : d < 5) (h : tk / 2 ^ d.toNat % 2 = 0) : tk + 2 ^ d.toNat < 32 ∧ 0 ≤ tk + 2 ^ d.toNat := by
  have hd : d = 0 ∨ d = 1 ∨ d = 2 ∨ d = 3 ∨ d = 4 := by omega
  rcases hd with rfl | rfl | rfl | rfl | rfl
  · have e : (2 : Int) ^ (0 : Int).toNat = 1 := rfl
    rw [e] at h ⊢; omega
  · have e : (2 : Int) ^ (1 : Int).toNat = 2 := rfl
    rw [e] at h ⊢; omega
  · have e : (2 : Int) ^ (2 : Int).toNat = 4 := rfl
    rw [e] at h ⊢; omega
  · have e : (2 : Int) ^ (3 : Int).toNat = 8 := rfl
    rw [e] at h ⊢; omega
  · have e : (2 : Int) ^ (4 : Int).toNat = 16 := rfl
    rw [e] at h ⊢; omega
section Lots
variable {X : mX} {S : sS} {t : zH} {v : vV}
set_option maxHeartbeats 4000000 in
set_option maxRecDepth 100000 in
theorem gafter (hv : vX S v) {x f m : Int} (h0 : 0 ≤ x) (hx1 : x < v.1 1) (hf : 1 ≤ f ∧ f ≤ 6) (hm : 0 ≤ m ∧ m ≤ 99) : zEv X 2 mX2_weightAfterAnts [zR 5, zI x, zI f, zI m] (cX S ++ t) (zIs (.inl (some (zI (vEn v x f m)))) (cX S ++ t)) := by
  have h4 := hv.1.2.2.2.2.1
  have e4 : S.1 16 = v.1 4 := hv.2.2.2.2.2.1
  have h1 := hv.1.2.1
  have e1 : S.1 13 = v.1 1 := hv.2.2.1
  have h2 := hv.1.2.2.1
  have e2 : S.1 14 = v.1 2 := hv.2.2.2.1
  have hs := hv.1.2.2.2.2.2.1.2.1 x
  have hp := vPs_b v f
  have hw := gbd hv x f
  have lp : ∀ (k : Nat) (p : Int), 0 ≤ p → p + k = vPs v f → zWP X mX2_weightAfterAnts 2 (zIs (.inl (some (zI (vEp v x m (vPs v f))))) (cX S ++ t)) 21 [some (zR 5), some (zI x), some (zI f), some (zI m), some (zI (m - min m (vBf v x p))), some (zI p)] [] (cX S ++ t) 0 0 := by
    intro k
    induction k with
    | zero =>
      intro p g0 hk
      refine zWP_run gX2_weightAfterAnts 80 [21] ?_
      refine zBrF (by simp only [rI]; omega) (by omega) ?_
      have ep : p = vPs v f := by omega
      have ef := vAf_ps v hf.1 hf.2
      have hb := vBf_b hv.1 x g0 (by omega)
      refine zCl_e (gaf hv g0 (by omega)) (by decide) ?_
      rw [ep, ef]
      refine zBrT (by simp only [rI]; omega) rfl ?_
      refine zCl_e (gw hv h0 hx1 hf.1 hf.2) (by decide) ?_
      rw [ep] at hb
      refine mVc_i (by simp only [rI]; omega) ?_
      refine ⟨?_, rfl⟩
      have e9 : vWp v x (vPs v f) = v.2.1.1 x f := by simp only [vWp, ef]
      have e8 : max (v.2.1.1 x f - (m - min m (vBf v x (vPs v f)))) 0 = vEp v x m (vPs v f) := by
        simp only [vEp, e9]
        omega
      rw [← e8]
    | succ k ih =>
      intro p g0 hk
      refine zWP_run gX2_weightAfterAnts 80 [21] ?_
      refine zBrF (by simp only [rI]; omega) (by omega) ?_
      have hb := vBf_b hv.1 x g0 (by omega)
      have hb2 := vAf_b v p
      have hw2 := vWp_b hv.1 x p
      have ne : ¬ vAf v p = f := by
        intro q
        have := vPs_af v g0 (p := p) (by omega)
        rw [q] at this
        omega
      refine zCl_e (gaf hv g0 (by omega)) (by decide) ?_
      refine zBrF (by simp only [rI]; omega) ne ?_
      refine zCl_e (gaf hv g0 (by omega)) (by decide) ?_
      refine zCl_e (gw hv h0 hx1 hb2.1 hb2.2) (by decide) ?_
      have hw3 : 0 ≤ v.2.1.1 x (vAf v p) ∧ v.2.1.1 x (vAf v p) ≤ 20 := hw2
      refine mVc_i (by simp only [rI]; omega) ?_
      have k3 := ih (p + 1) (by omega) (by omega)
      have e8 : m - min m (vBf v x (p + 1)) = m - min m (vBf v x p) - min (m - min m (vBf v x p)) (v.2.1.1 x (vAf v p)) := by
        rw [vBf_s v x g0]
        simp only [vWp]
        omega
      rw [e8] at k3
      exact k3
  refine zEv_run gX2_weightAfterAnts 60 [21] rfl ?_
  refine zCl_e (gsalt hv h0 hx1) (by decide) ?_
  simp only [vEn]
  refine zBr (by simp only [rI]; omega) (fun c => ?_) (fun c => ?_)
  · rw [if_neg (by omega)]
    have k1 := lp (vPs v f).toNat 0 (by omega) (by omega)
    rw [show m - min m (vBf v x 0) = m by rw [show vBf v x 0 = 0 from rfl]; omega] at k1
    exact k1
  · rw [if_pos (by omega)]
    refine zCl_e (gw hv h0 hx1 hf.1 hf.2) (by decide) ?_
    exact ⟨rfl, rfl⟩
set_option maxHeartbeats 4000000 in
set_option maxRecDepth 100000 in
theorem glast (hv : vX S v) {x : Int} (h0 : 0 ≤ x) (hx1 : x < v.1 1) : zEv X 2 mX2_lastFaceForAnts [zR 5, zI x] (cX S ++ t) (zIs (.inl (some (zI (vLf v x 6)))) (cX S ++ t)) := by
  have h4 := hv.1.2.2.2.2.1
  have e4 : S.1 16 = v.1 4 := hv.2.2.2.2.2.1
  have h1 := hv.1.2.1
  have e1 : S.1 13 = v.1 1 := hv.2.2.1
  have h2 := hv.1.2.2.1
  have e2 : S.1 14 = v.1 2 := hv.2.2.2.1
  have lp : ∀ (k : Nat) (p : Int), 0 ≤ p → p + k = 6 → zWP X mX2_lastFaceForAnts 2 (zIs (.inl (some (zI (vLf v x 6)))) (cX S ++ t)) 4 [some (zR 5), some (zI x), some (zI (vLf v x p)), some (zI p)] [] (cX S ++ t) 0 0 := by
    intro k
    induction k with
    | zero =>
      intro p g0 hk
      refine zWP_run gX2_lastFaceForAnts 80 [4] ?_
      refine zBrT (by simp only [rI]; omega) (by omega) ?_
      rw [show p = 6 by omega]
      exact ⟨rfl, rfl⟩
    | succ k ih =>
      intro p g0 hk
      refine zWP_run gX2_lastFaceForAnts 80 [4] ?_
      refine zBrF (by simp only [rI]; omega) (by omega) ?_
      have hb2 := vAf_b v p
      have hw2 := vWp_b hv.1 x p
      have hw3 : 0 ≤ v.2.1.1 x (vAf v p) ∧ v.2.1.1 x (vAf v p) ≤ 20 := hw2
      have k3 := ih (p + 1) (by omega) (by omega)
      simp only [vLf] at k3
      rw [zIt_s _ _ g0] at k3
      refine zCl_e (gaf hv g0 (by omega)) (by decide) ?_
      refine zCl_e (gw hv h0 hx1 hb2.1 hb2.2) (by decide) ?_
      refine zBr (by simp only [rI]; omega) (fun c => ?_) (fun c => ?_)
      · rw [if_neg (by simp only [vWp]; omega)] at k3
        exact k3
      · rw [if_pos (by simp only [vWp]; omega)] at k3
        refine zCl_e (gaf hv g0 (by omega)) (by decide) ?_
        exact k3
  refine zEv_run gX2_lastFaceForAnts 60 [4] rfl ?_
  exact lp 6 0 (by omega) (by omega)
set_option maxHeartbeats 4000000 in
set_option maxRecDepth 100000 in
theorem dbeg {z : Int} : zEv X 1 mX1_begin [zR 9, zI z] (cX S ++ t) (zIs (.inl none) (cX (sI S 17 z) ++ t)) := by
  refine zEv_run gX1_begin 40 [] rfl ?_
  exact ⟨rfl, rfl⟩
set_option maxHeartbeats 4000000 in
set_option maxRecDepth 100000 in
theorem ddraw  : zEv X 1 mX1_draw [zR 9] (cX S ++ t) (zIs (.inl (some (zI (dW (dN (S.1 17)))))) (cX (sI S 17 (dN (S.1 17))) ++ t)) := by
  refine zEv_run gX1_draw 40 [] rfl ?_
  exact ⟨rfl, rfl⟩
set_option maxHeartbeats 4000000 in
set_option maxRecDepth 100000 in
theorem gdl (hv : vX S v) {tk pl : Int} (ht : 0 ≤ tk ∧ tk < 32) (hp : 0 ≤ pl ∧ pl < 5) : zEv X 1 mX2_dieLeft [zR 5, zI tk, zI pl] (cX S ++ t) (zIs (.inl (some (zI (vDl tk (v.1 1).toNat 0 pl)))) (cX S ++ t)) := by
  have h4 := hv.1.2.2.2.2.1
  have e4 : S.1 16 = v.1 4 := hv.2.2.2.2.2.1
  have h1 := hv.1.2.1
  have e1 : S.1 13 = v.1 1 := hv.2.2.1
  have h2 := hv.1.2.2.1
  have e2 : S.1 14 = v.1 2 := hv.2.2.2.1
  have lp : ∀ (k : Nat) (d p : Int), 0 ≤ d → 0 ≤ p → p ≤ d → d + k = v.1 1 → zWP X mX2_dieLeft 1 (zIs (.inl (some (zI (vDl tk k d (pl - p))))) (cX S ++ t)) 5 [some (zR 5), some (zI tk), some (zI pl), some (zI p), some (zI d)] [] (cX S ++ t) 0 0 := by
    intro k
    induction k with
    | zero =>
      intro d p d0 p0 p1 hk
      refine zWP_run gX2_dieLeft 60 [5] ?_
      refine zBrT (by simp only [rI]; omega) (by omega) ?_
      exact ⟨rfl, rfl⟩
    | succ k ih =>
      intro d p d0 p0 p1 hk
      have e9 := bt_shr ht.1 (by omega) d0 (k := d) (by omega)
      refine zWP_run gX2_dieLeft 60 [5] ?_
      refine zBrF (by simp only [rI]; omega) (by omega) ?_
      simp only [vDl]
      have hm2 : 0 ≤ tk / 2 ^ d.toNat % 2 ∧ tk / 2 ^ d.toNat % 2 < 2 := by omega
      refine zBr ?_ (fun c => ?_) (fun c => ?_)
      · show rI ((Int32.ofInt ((Int32.ofInt tk >>> (Int32.ofInt d &&& 31)).toInt) &&& Int32.ofInt 1).toInt)
        rw [e9]
        simp only [rI]
        omega
      · have c2 : (Int32.ofInt ((Int32.ofInt tk >>> (Int32.ofInt d &&& 31)).toInt) &&& Int32.ofInt 1).toInt = 0 := c
        rw [e9] at c2
        rw [if_pos c2]
        refine zBr (by simp only [rI]; omega) (fun c3 => ?_) (fun c3 => ?_)
        · rw [if_pos (by omega)]
          exact ⟨rfl, rfl⟩
        · rw [if_neg (by omega)]
          have k3 := ih (d + 1) (p + 1) (by omega) (by omega) (by omega) (by omega)
          rw [show pl - (p + 1) = pl - p - 1 by omega] at k3
          exact k3
      · have c2 : ¬ (Int32.ofInt ((Int32.ofInt tk >>> (Int32.ofInt d &&& 31)).toInt) &&& Int32.ofInt 1).toInt = 0 := c
        rw [e9] at c2
        rw [if_neg c2]
        exact ih (d + 1) p (by omega) (by omega) (by omega) (by omega)
  refine zEv_run gX2_dieLeft 60 [5] rfl ?_
  have k1 := lp (v.1 1).toNat 0 0 (by omega) (by omega) (by omega) (by omega)
  rw [show pl - 0 = pl by omega] at k1
  exact k1
set_option maxHeartbeats 4000000 in
set_option maxRecDepth 100000 in
theorem glots (hv : vX S v) : zEv X 2 mX2_drawLots [zR 5, zR 9] (cX S ++ t) (zTo S t (.inl (some (zI ((vLot v (S.1 17)).2.2.1)))) (vLot v (S.1 17)).2.2.2) := by
  have h4 := hv.1.2.2.2.2.1
  have e4 : S.1 16 = v.1 4 := hv.2.2.2.2.2.1
  have h1 := hv.1.2.1
  have e1 : S.1 13 = v.1 1 := hv.2.2.1
  have h2 := hv.1.2.2.1
  have e2 : S.1 14 = v.1 2 := hv.2.2.2.1
  have lp : ∀ (k : Nat) (q tk n : Int) (u : vV) (R : sS), 0 ≤ q → (R.1 17, tk, n, u) = zIt (vLs (v.1 1)) (S.1 17, 0, 0, v) q → sF S R → vX R u → u.1 = v.1 → 0 ≤ tk ∧ tk < 32 → 0 ≤ n ∧ n ≤ q → q + k = v.1 2 → zWP X mX2_drawLots 2 (zTo S t (.inl (some (zI ((vLot v (S.1 17)).2.2.1)))) (vLot v (S.1 17)).2.2.2) 7 [some (zR 5), some (zR 9), some (zI tk), some (zI n), some (zI q), none, none] [] (cX R ++ t) 0 0 := by
    intro k
    induction k with
    | zero =>
      intro q tk n u R g0 hn fr hr hu htk hn2 hk
      refine zWP_run gX2_drawLots 80 [7] ?_
      have e21 : R.1 14 = v.1 2 := by rw [← hu]; exact hr.2.2.2.1
      refine zBrT (by simp only [rI]; omega) (by omega) ?_
      rw [vLot, ← show q = v.1 2 by omega, ← hn]
      exact ⟨rfl, R, rfl, fr, hr⟩
    | succ k ih =>
      intro q tk n u R g0 hn fr hr hu htk hn2 hk
      refine zWP_run gX2_drawLots 80 [7] ?_
      have e21 : R.1 14 = v.1 2 := by rw [← hu]; exact hr.2.2.2.1
      have e11 : R.1 13 = v.1 1 := by rw [← hu]; exact hr.2.2.1
      have hdw := dW_b (dN (R.1 17))
      refine zBrF (by simp only [rI]; omega) (by omega) ?_
      refine zBr (by simp only [rI]; omega) (fun c => ?_) (fun c => ?_)
      · refine mVc_i (by omega) ?_
        refine zBrT (by simp only [rI]; omega) rfl ?_
        refine zWP_fg (ih (q + 1) tk n (vLt u q (-1)) (sA R 2 (va_up (R.2.1 2) (35 + q).toNat (-1))) (by omega) ?_ (sF_t fr (sF_A R _ ⟨by omega, by omega⟩)) (vX_l hr g0 (by omega)) hu htk (by omega) (by omega)) (by repeat (first | exact trivial | refine ⟨rfl, ?_⟩))
        rw [zIt_s _ _ g0, ← hn, vLs, if_neg (by show ¬ 0 < v.1 1 - n; omega)]
        rfl
      · have hmd : 0 ≤ dW (dN (R.1 17)) % (v.1 1 - n) ∧ dW (dN (R.1 17)) % (v.1 1 - n) < v.1 1 - n := ⟨Int.emod_nonneg _ (by omega), Int.emod_lt_of_pos _ (by omega)⟩
        have hdl := vDl_b tk (v.1 1).toNat 0 (dW (dN (R.1 17)) % (v.1 1 - n))
        have e12 : (u.1 1).toNat = (v.1 1).toNat := by rw [hu]
        refine zCl_e (ddraw) (by decide) ?_
        refine mVc_i (by simp only [rI]; omega) ?_
        refine zCl_e (gdl (vX_17 hr _) htk (by rw [e11]; omega)) (by decide) ?_
        rw [e12, e11]
        refine mVc_i (by omega) ?_
        by_cases c2 : vDl tk (v.1 1).toNat 0 (dW (dN (R.1 17)) % (v.1 1 - n)) = -1
        · refine zBrT (by simp only [rI]; omega) c2 ?_
          rw [c2]
          refine zWP_fg (ih (q + 1) tk n (vLt u q (-1)) (sA (sI R 17 (dN (R.1 17))) 2 (va_up (R.2.1 2) (35 + q).toNat (-1))) (by omega) ?_ (sF_t (sF_t fr (sF_I R _ ⟨by omega, by omega⟩)) (sF_A _ _ ⟨by omega, by omega⟩)) (vX_l (vX_17 hr _) g0 (by omega)) hu htk (by omega) (by omega)) (by repeat (first | exact trivial | refine ⟨rfl, ?_⟩))
          rw [zIt_s _ _ g0, ← hn, vLs, if_pos (by show 0 < v.1 1 - n; omega), if_pos c2]
          rfl
        · have hb := bt_or htk.1 (k := vDl tk (v.1 1).toNat 0 (dW (dN (R.1 17)) % (v.1 1 - n))) (by omega) (by omega) (by omega)
          have hs := bt_shl (k := vDl tk (v.1 1).toNat 0 (dW (dN (R.1 17)) % (v.1 1 - n))) (by omega) (by omega)
          have hdl2 : 0 ≤ vDl tk (v.1 1).toNat 0 (dW (dN (R.1 17)) % (v.1 1 - n)) ∧ vDl tk (v.1 1).toNat 0 (dW (dN (R.1 17)) % (v.1 1 - n)) < 5 ∧ tk / 2 ^ (vDl tk (v.1 1).toNat 0 (dW (dN (R.1 17)) % (v.1 1 - n))).toNat % 2 = 0 := by omega
          have hpw := pw_b htk hdl2.1 hdl2.2.1 hdl2.2.2
          rw [if_neg (by omega)] at hb
          refine zBrF (by simp only [rI]; omega) c2 ?_
          have k3 := (ih (q + 1) (tk + 2 ^ (vDl tk (v.1 1).toNat 0 (dW (dN (R.1 17)) % (v.1 1 - n))).toNat) (n + 1) (vLt u q (vDl tk (v.1 1).toNat 0 (dW (dN (R.1 17)) % (v.1 1 - n)))) (sA (sI R 17 (dN (R.1 17))) 2 (va_up (R.2.1 2) (35 + q).toNat (vDl tk (v.1 1).toNat 0 (dW (dN (R.1 17)) % (v.1 1 - n))))) (by omega) (by
            rw [zIt_s _ _ g0, ← hn, vLs, if_pos (by show 0 < v.1 1 - n; omega), if_neg c2]
            rfl) (sF_t (sF_t fr (sF_I R _ ⟨by omega, by omega⟩)) (sF_A _ _ ⟨by omega, by omega⟩)) (vX_l (vX_17 hr _) g0 (by omega)) hu (by omega) (by omega) (by omega))
          rw [← hb, ← hs] at k3
          exact zWP_fg k3 (by repeat (first | exact trivial | refine ⟨rfl, ?_⟩))
  refine zEv_run gX2_drawLots 60 [7] rfl ?_
  exact lp (v.1 2).toNat 0 0 0 v S (by omega) rfl (sF_r S) hv rfl (by omega) (by omega) (by omega)
end Lots
end
