section
-- ===== PART A: goes FIRST, ahead of the names: the tables' words, and 'selects' of the private methods out of them =====
/-- a private method of a class that the tables say can be made, by its rows of tables_1 -/
def lw_okq (q : MethodName × Nat) : Prop := (q.1.cls ≠ "java/lang/invoke/MethodHandle" ∧ q.1.cls ≠ "java/lang/invoke/VarHandle") ∧ Cond.instantiable q.1.cls q.2 ∈ tables_1 ∧ Cond.privateMethod q.1 ∈ tables_1 ∧ Cond.instanceMethod q.1 ∈ tables_1
theorem lw_p0 : lw_okq (⟨"EachUndoes$Deeds", "append", "(I)I"⟩, 7) := ⟨⟨by decide +kernel, by decide +kernel⟩, List.mem_of_getElem? (i := 31) (by decide +kernel), List.mem_of_getElem? (i := 174) (by decide +kernel), List.mem_of_getElem? (i := 175) (by decide +kernel)⟩
theorem lw_p1 : lw_okq (⟨"EachUndoes$Deeds", "parse", "()V"⟩, 7) := ⟨⟨by decide +kernel, by decide +kernel⟩, List.mem_of_getElem? (i := 31) (by decide +kernel), List.mem_of_getElem? (i := 178) (by decide +kernel), List.mem_of_getElem? (i := 179) (by decide +kernel)⟩
theorem lw_p2 : lw_okq (⟨"EachUndoes$Deeds", "begin", "(I)I"⟩, 7) := ⟨⟨by decide +kernel, by decide +kernel⟩, List.mem_of_getElem? (i := 31) (by decide +kernel), List.mem_of_getElem? (i := 182) (by decide +kernel), List.mem_of_getElem? (i := 183) (by decide +kernel)⟩
theorem lw_p3 : lw_okq (⟨"EachUndoes$Deeds", "goOn", "(II)I"⟩, 7) := ⟨⟨by decide +kernel, by decide +kernel⟩, List.mem_of_getElem? (i := 31) (by decide +kernel), List.mem_of_getElem? (i := 187) (by decide +kernel), List.mem_of_getElem? (i := 188) (by decide +kernel)⟩
theorem lw_p4 : lw_okq (⟨"EachUndoes$Deeds", "clear", "()I"⟩, 7) := ⟨⟨by decide +kernel, by decide +kernel⟩, List.mem_of_getElem? (i := 31) (by decide +kernel), List.mem_of_getElem? (i := 201) (by decide +kernel), List.mem_of_getElem? (i := 202) (by decide +kernel)⟩
theorem lw_p5 : lw_okq (⟨"EachUndoes$Undoings", "tell", "(II)Z"⟩, 4) := ⟨⟨by decide +kernel, by decide +kernel⟩, List.mem_of_getElem? (i := 25) (by decide +kernel), List.mem_of_getElem? (i := 220) (by decide +kernel), List.mem_of_getElem? (i := 221) (by decide +kernel)⟩
theorem lw_p6 : lw_okq (⟨"EachUndoes", "found", "(I)I"⟩, 8) := ⟨⟨by decide +kernel, by decide +kernel⟩, List.mem_of_getElem? (i := 11) (by decide +kernel), List.mem_of_getElem? (i := 228) (by decide +kernel), List.mem_of_getElem? (i := 229) (by decide +kernel)⟩
theorem lw_p7 : lw_okq (⟨"EachUndoes$Undoings", "lawful", "(I)I"⟩, 4) := ⟨⟨by decide +kernel, by decide +kernel⟩, List.mem_of_getElem? (i := 25) (by decide +kernel), List.mem_of_getElem? (i := 244) (by decide +kernel), List.mem_of_getElem? (i := 245) (by decide +kernel)⟩
theorem lw_p8 : lw_okq (⟨"EachUndoes$Undoings", "ownerOf", "(II)I"⟩, 4) := ⟨⟨by decide +kernel, by decide +kernel⟩, List.mem_of_getElem? (i := 25) (by decide +kernel), List.mem_of_getElem? (i := 248) (by decide +kernel), List.mem_of_getElem? (i := 249) (by decide +kernel)⟩
theorem lw_p9 : lw_okq (⟨"EachUndoes$Undoings", "holding", "(I)I"⟩, 4) := ⟨⟨by decide +kernel, by decide +kernel⟩, List.mem_of_getElem? (i := 25) (by decide +kernel), List.mem_of_getElem? (i := 257) (by decide +kernel), List.mem_of_getElem? (i := 258) (by decide +kernel)⟩
theorem lw_p10 : lw_okq (⟨"EachUndoes", "standingBehind", "(I)I"⟩, 8) := ⟨⟨by decide +kernel, by decide +kernel⟩, List.mem_of_getElem? (i := 11) (by decide +kernel), List.mem_of_getElem? (i := 265) (by decide +kernel), List.mem_of_getElem? (i := 266) (by decide +kernel)⟩
theorem lw_p11 : lw_okq (⟨"EachUndoes$Undoings", "lawfulOfFirst", "(I)I"⟩, 4) := ⟨⟨by decide +kernel, by decide +kernel⟩, List.mem_of_getElem? (i := 25) (by decide +kernel), List.mem_of_getElem? (i := 269) (by decide +kernel), List.mem_of_getElem? (i := 270) (by decide +kernel)⟩
theorem lw_p12 : lw_okq (⟨"EachUndoes$Undoings", "standing", "(I)I"⟩, 4) := ⟨⟨by decide +kernel, by decide +kernel⟩, List.mem_of_getElem? (i := 25) (by decide +kernel), List.mem_of_getElem? (i := 277) (by decide +kernel), List.mem_of_getElem? (i := 278) (by decide +kernel)⟩
theorem lw_p13 : lw_okq (⟨"EachUndoes$Undoings", "undone", "(I)I"⟩, 4) := ⟨⟨by decide +kernel, by decide +kernel⟩, List.mem_of_getElem? (i := 25) (by decide +kernel), List.mem_of_getElem? (i := 281) (by decide +kernel), List.mem_of_getElem? (i := 282) (by decide +kernel)⟩
theorem lw_p14 : lw_okq (⟨"EachUndoes$Deeds", "standing", "(I)I"⟩, 7) := ⟨⟨by decide +kernel, by decide +kernel⟩, List.mem_of_getElem? (i := 31) (by decide +kernel), List.mem_of_getElem? (i := 286) (by decide +kernel), List.mem_of_getElem? (i := 287) (by decide +kernel)⟩
theorem lw_p15 : lw_okq (⟨"EachUndoes$Deeds", "fallen", "(I)I"⟩, 7) := ⟨⟨by decide +kernel, by decide +kernel⟩, List.mem_of_getElem? (i := 31) (by decide +kernel), List.mem_of_getElem? (i := 291) (by decide +kernel), List.mem_of_getElem? (i := 292) (by decide +kernel)⟩
def lw_privs_1 : List (MethodName × Nat) := [(⟨"EachUndoes$Deeds", "append", "(I)I"⟩, 7), (⟨"EachUndoes$Deeds", "parse", "()V"⟩, 7), (⟨"EachUndoes$Deeds", "begin", "(I)I"⟩, 7), (⟨"EachUndoes$Deeds", "goOn", "(II)I"⟩, 7), (⟨"EachUndoes$Deeds", "clear", "()I"⟩, 7), (⟨"EachUndoes$Undoings", "tell", "(II)Z"⟩, 4), (⟨"EachUndoes", "found", "(I)I"⟩, 8), (⟨"EachUndoes$Undoings", "lawful", "(I)I"⟩, 4), (⟨"EachUndoes$Undoings", "ownerOf", "(II)I"⟩, 4), (⟨"EachUndoes$Undoings", "holding", "(I)I"⟩, 4), (⟨"EachUndoes", "standingBehind", "(I)I"⟩, 8), (⟨"EachUndoes$Undoings", "lawfulOfFirst", "(I)I"⟩, 4), (⟨"EachUndoes$Undoings", "standing", "(I)I"⟩, 4), (⟨"EachUndoes$Undoings", "undone", "(I)I"⟩, 4), (⟨"EachUndoes$Deeds", "standing", "(I)I"⟩, 7), (⟨"EachUndoes$Deeds", "fallen", "(I)I"⟩, 7)]
theorem lw_r1 : ∀ q ∈ lw_privs_1, lw_okq q := List.forall_mem_cons.mpr ⟨lw_p0, List.forall_mem_cons.mpr ⟨lw_p1, List.forall_mem_cons.mpr ⟨lw_p2, List.forall_mem_cons.mpr ⟨lw_p3, List.forall_mem_cons.mpr ⟨lw_p4, List.forall_mem_cons.mpr ⟨lw_p5, List.forall_mem_cons.mpr ⟨lw_p6, List.forall_mem_cons.mpr ⟨lw_p7, List.forall_mem_cons.mpr ⟨lw_p8, List.forall_mem_cons.mpr ⟨lw_p9, List.forall_mem_cons.mpr ⟨lw_p10, List.forall_mem_cons.mpr ⟨lw_p11, List.forall_mem_cons.mpr ⟨lw_p12, List.forall_mem_cons.mpr ⟨lw_p13, List.forall_mem_cons.mpr ⟨lw_p14, List.forall_mem_cons.mpr ⟨lw_p15, fun _ h => absurd h List.not_mem_nil⟩⟩⟩⟩⟩⟩⟩⟩⟩⟩⟩⟩⟩⟩⟩⟩
theorem lw_p16 : lw_okq (⟨"EachUndoes$Undoings", "unspent", "(I)I"⟩, 4) := ⟨⟨by decide +kernel, by decide +kernel⟩, List.mem_of_getElem? (i := 25) (by decide +kernel), List.mem_of_getElem? (i := 295) (by decide +kernel), List.mem_of_getElem? (i := 296) (by decide +kernel)⟩
theorem lw_p17 : lw_okq (⟨"EachUndoes$Deeds", "rootOf", "(II)I"⟩, 7) := ⟨⟨by decide +kernel, by decide +kernel⟩, List.mem_of_getElem? (i := 31) (by decide +kernel), List.mem_of_getElem? (i := 304) (by decide +kernel), List.mem_of_getElem? (i := 305) (by decide +kernel)⟩
theorem lw_p18 : lw_okq (⟨"EachUndoes$Outlook", "renew", "()V"⟩, 8) := ⟨⟨by decide +kernel, by decide +kernel⟩, List.mem_of_getElem? (i := 19) (by decide +kernel), List.mem_of_getElem? (i := 324) (by decide +kernel), List.mem_of_getElem? (i := 325) (by decide +kernel)⟩
theorem lw_p19 : lw_okq (⟨"EachUndoes$Outlook", "standingWith", "(II)I"⟩, 8) := ⟨⟨by decide +kernel, by decide +kernel⟩, List.mem_of_getElem? (i := 19) (by decide +kernel), List.mem_of_getElem? (i := 330) (by decide +kernel), List.mem_of_getElem? (i := 331) (by decide +kernel)⟩
theorem lw_p20 : lw_okq (⟨"EachUndoes$Outlook", "isAsTold", "(III)Z"⟩, 8) := ⟨⟨by decide +kernel, by decide +kernel⟩, List.mem_of_getElem? (i := 19) (by decide +kernel), List.mem_of_getElem? (i := 336) (by decide +kernel), List.mem_of_getElem? (i := 337) (by decide +kernel)⟩
theorem lw_p21 : lw_okq (⟨"EachUndoes$Outlook", "leastFirst", "(III)I"⟩, 8) := ⟨⟨by decide +kernel, by decide +kernel⟩, List.mem_of_getElem? (i := 19) (by decide +kernel), List.mem_of_getElem? (i := 341) (by decide +kernel), List.mem_of_getElem? (i := 342) (by decide +kernel)⟩
theorem lw_p22 : lw_okq (⟨"EachUndoes$Outlook", "leastTaker", "(II)I"⟩, 8) := ⟨⟨by decide +kernel, by decide +kernel⟩, List.mem_of_getElem? (i := 19) (by decide +kernel), List.mem_of_getElem? (i := 345) (by decide +kernel), List.mem_of_getElem? (i := 346) (by decide +kernel)⟩
theorem lw_p23 : lw_okq (⟨"EachUndoes$Outlook", "takersOf", "(I)I"⟩, 8) := ⟨⟨by decide +kernel, by decide +kernel⟩, List.mem_of_getElem? (i := 19) (by decide +kernel), List.mem_of_getElem? (i := 349) (by decide +kernel), List.mem_of_getElem? (i := 350) (by decide +kernel)⟩
theorem lw_p24 : lw_okq (⟨"EachUndoes$Outlook", "lasting", "(I)I"⟩, 8) := ⟨⟨by decide +kernel, by decide +kernel⟩, List.mem_of_getElem? (i := 19) (by decide +kernel), List.mem_of_getElem? (i := 361) (by decide +kernel), List.mem_of_getElem? (i := 362) (by decide +kernel)⟩
theorem lw_p25 : lw_okq (⟨"EachUndoes$Outlook", "bestMove", "(II)I"⟩, 8) := ⟨⟨by decide +kernel, by decide +kernel⟩, List.mem_of_getElem? (i := 19) (by decide +kernel), List.mem_of_getElem? (i := 369) (by decide +kernel), List.mem_of_getElem? (i := 370) (by decide +kernel)⟩
theorem lw_p26 : lw_okq (⟨"EachUndoes$Outlook", "bestReply", "(II)I"⟩, 8) := ⟨⟨by decide +kernel, by decide +kernel⟩, List.mem_of_getElem? (i := 19) (by decide +kernel), List.mem_of_getElem? (i := 373) (by decide +kernel), List.mem_of_getElem? (i := 374) (by decide +kernel)⟩
theorem lw_p27 : lw_okq (⟨"EachUndoes$Outlook", "worthOf", "(II)I"⟩, 8) := ⟨⟨by decide +kernel, by decide +kernel⟩, List.mem_of_getElem? (i := 19) (by decide +kernel), List.mem_of_getElem? (i := 377) (by decide +kernel), List.mem_of_getElem? (i := 378) (by decide +kernel)⟩
theorem lw_p28 : lw_okq (⟨"EachUndoes$Outlook", "canTake", "(III)Z"⟩, 8) := ⟨⟨by decide +kernel, by decide +kernel⟩, List.mem_of_getElem? (i := 19) (by decide +kernel), List.mem_of_getElem? (i := 381) (by decide +kernel), List.mem_of_getElem? (i := 382) (by decide +kernel)⟩
theorem lw_p29 : lw_okq (⟨"EachUndoes$Outlook", "draw", "(II)V"⟩, 8) := ⟨⟨by decide +kernel, by decide +kernel⟩, List.mem_of_getElem? (i := 19) (by decide +kernel), List.mem_of_getElem? (i := 403) (by decide +kernel), List.mem_of_getElem? (i := 404) (by decide +kernel)⟩
theorem lw_p30 : lw_okq (⟨"EachUndoes$Outlook", "lotOf", "(I)I"⟩, 8) := ⟨⟨by decide +kernel, by decide +kernel⟩, List.mem_of_getElem? (i := 19) (by decide +kernel), List.mem_of_getElem? (i := 410) (by decide +kernel), List.mem_of_getElem? (i := 411) (by decide +kernel)⟩
theorem lw_p31 : lw_okq (⟨"EachUndoes$Deeds", "doneBy", "(I)I"⟩, 7) := ⟨⟨by decide +kernel, by decide +kernel⟩, List.mem_of_getElem? (i := 31) (by decide +kernel), List.mem_of_getElem? (i := 416) (by decide +kernel), List.mem_of_getElem? (i := 417) (by decide +kernel)⟩
def lw_privs_2 : List (MethodName × Nat) := [(⟨"EachUndoes$Undoings", "unspent", "(I)I"⟩, 4), (⟨"EachUndoes$Deeds", "rootOf", "(II)I"⟩, 7), (⟨"EachUndoes$Outlook", "renew", "()V"⟩, 8), (⟨"EachUndoes$Outlook", "standingWith", "(II)I"⟩, 8), (⟨"EachUndoes$Outlook", "isAsTold", "(III)Z"⟩, 8), (⟨"EachUndoes$Outlook", "leastFirst", "(III)I"⟩, 8), (⟨"EachUndoes$Outlook", "leastTaker", "(II)I"⟩, 8), (⟨"EachUndoes$Outlook", "takersOf", "(I)I"⟩, 8), (⟨"EachUndoes$Outlook", "lasting", "(I)I"⟩, 8), (⟨"EachUndoes$Outlook", "bestMove", "(II)I"⟩, 8), (⟨"EachUndoes$Outlook", "bestReply", "(II)I"⟩, 8), (⟨"EachUndoes$Outlook", "worthOf", "(II)I"⟩, 8), (⟨"EachUndoes$Outlook", "canTake", "(III)Z"⟩, 8), (⟨"EachUndoes$Outlook", "draw", "(II)V"⟩, 8), (⟨"EachUndoes$Outlook", "lotOf", "(I)I"⟩, 8), (⟨"EachUndoes$Deeds", "doneBy", "(I)I"⟩, 7)]
theorem lw_r2 : ∀ q ∈ lw_privs_2, lw_okq q := List.forall_mem_cons.mpr ⟨lw_p16, List.forall_mem_cons.mpr ⟨lw_p17, List.forall_mem_cons.mpr ⟨lw_p18, List.forall_mem_cons.mpr ⟨lw_p19, List.forall_mem_cons.mpr ⟨lw_p20, List.forall_mem_cons.mpr ⟨lw_p21, List.forall_mem_cons.mpr ⟨lw_p22, List.forall_mem_cons.mpr ⟨lw_p23, List.forall_mem_cons.mpr ⟨lw_p24, List.forall_mem_cons.mpr ⟨lw_p25, List.forall_mem_cons.mpr ⟨lw_p26, List.forall_mem_cons.mpr ⟨lw_p27, List.forall_mem_cons.mpr ⟨lw_p28, List.forall_mem_cons.mpr ⟨lw_p29, List.forall_mem_cons.mpr ⟨lw_p30, List.forall_mem_cons.mpr ⟨lw_p31, fun _ h => absurd h List.not_mem_nil⟩⟩⟩⟩⟩⟩⟩⟩⟩⟩⟩⟩⟩⟩⟩⟩
theorem lw_p32 : lw_okq (⟨"EachUndoes$Sheet", "begin", "(II)V"⟩, 4) := ⟨⟨by decide +kernel, by decide +kernel⟩, List.mem_of_getElem? (i := 119) (by decide +kernel), List.mem_of_getElem? (i := 425) (by decide +kernel), List.mem_of_getElem? (i := 426) (by decide +kernel)⟩
theorem lw_p33 : lw_okq (⟨"EachUndoes$Sheet", "findingAt", "(II)I"⟩, 4) := ⟨⟨by decide +kernel, by decide +kernel⟩, List.mem_of_getElem? (i := 119) (by decide +kernel), List.mem_of_getElem? (i := 437) (by decide +kernel), List.mem_of_getElem? (i := 438) (by decide +kernel)⟩
theorem lw_p34 : lw_okq (⟨"EachUndoes$Sheet", "put", "(II)V"⟩, 4) := ⟨⟨by decide +kernel, by decide +kernel⟩, List.mem_of_getElem? (i := 119) (by decide +kernel), List.mem_of_getElem? (i := 442) (by decide +kernel), List.mem_of_getElem? (i := 443) (by decide +kernel)⟩
theorem lw_p35 : lw_okq (⟨"EachUndoes$Sheet", "hasItems", "(II)Z"⟩, 4) := ⟨⟨by decide +kernel, by decide +kernel⟩, List.mem_of_getElem? (i := 119) (by decide +kernel), List.mem_of_getElem? (i := 455) (by decide +kernel), List.mem_of_getElem? (i := 456) (by decide +kernel)⟩
theorem lw_p36 : lw_okq (⟨"EachUndoes", "withDeeds", "(J)J"⟩, 8) := ⟨⟨by decide +kernel, by decide +kernel⟩, List.mem_of_getElem? (i := 11) (by decide +kernel), List.mem_of_getElem? (i := 484) (by decide +kernel), List.mem_of_getElem? (i := 485) (by decide +kernel)⟩
theorem lw_p37 : lw_okq (⟨"EachUndoes", "withUndoings", "(J)J"⟩, 8) := ⟨⟨by decide +kernel, by decide +kernel⟩, List.mem_of_getElem? (i := 11) (by decide +kernel), List.mem_of_getElem? (i := 490) (by decide +kernel), List.mem_of_getElem? (i := 491) (by decide +kernel)⟩
theorem lw_p38 : lw_okq (⟨"EachUndoesModel", "met", "(I)I"⟩, 23) := ⟨⟨by decide +kernel, by decide +kernel⟩, List.mem_of_getElem? (i := 503) (by decide +kernel), List.mem_of_getElem? (i := 592) (by decide +kernel), List.mem_of_getElem? (i := 593) (by decide +kernel)⟩
theorem lw_p39 : lw_okq (⟨"EachUndoesModel", "lacks", "(III)I"⟩, 23) := ⟨⟨by decide +kernel, by decide +kernel⟩, List.mem_of_getElem? (i := 503) (by decide +kernel), List.mem_of_getElem? (i := 604) (by decide +kernel), List.mem_of_getElem? (i := 605) (by decide +kernel)⟩
theorem lw_p40 : lw_okq (⟨"EachUndoesModel", "reads", "()I"⟩, 23) := ⟨⟨by decide +kernel, by decide +kernel⟩, List.mem_of_getElem? (i := 503) (by decide +kernel), List.mem_of_getElem? (i := 633) (by decide +kernel), List.mem_of_getElem? (i := 634) (by decide +kernel)⟩
theorem lw_p41 : lw_okq (⟨"EachUndoesModel", "readsPart", "()Z"⟩, 23) := ⟨⟨by decide +kernel, by decide +kernel⟩, List.mem_of_getElem? (i := 503) (by decide +kernel), List.mem_of_getElem? (i := 637) (by decide +kernel), List.mem_of_getElem? (i := 638) (by decide +kernel)⟩
theorem lw_p42 : lw_okq (⟨"EachUndoesModel", "here", "()I"⟩, 23) := ⟨⟨by decide +kernel, by decide +kernel⟩, List.mem_of_getElem? (i := 503) (by decide +kernel), List.mem_of_getElem? (i := 641) (by decide +kernel), List.mem_of_getElem? (i := 642) (by decide +kernel)⟩
theorem lw_p43 : lw_okq (⟨"EachUndoesModel", "none", "()I"⟩, 23) := ⟨⟨by decide +kernel, by decide +kernel⟩, List.mem_of_getElem? (i := 503) (by decide +kernel), List.mem_of_getElem? (i := 649) (by decide +kernel), List.mem_of_getElem? (i := 650) (by decide +kernel)⟩
theorem lw_p44 : lw_okq (⟨"EachUndoesModel", "isDeed", "(I)Z"⟩, 23) := ⟨⟨by decide +kernel, by decide +kernel⟩, List.mem_of_getElem? (i := 503) (by decide +kernel), List.mem_of_getElem? (i := 657) (by decide +kernel), List.mem_of_getElem? (i := 658) (by decide +kernel)⟩
theorem lw_p45 : lw_okq (⟨"EachUndoesModel", "tells", "(III)V"⟩, 23) := ⟨⟨by decide +kernel, by decide +kernel⟩, List.mem_of_getElem? (i := 503) (by decide +kernel), List.mem_of_getElem? (i := 666) (by decide +kernel), List.mem_of_getElem? (i := 667) (by decide +kernel)⟩
theorem lw_p46 : lw_okq (⟨"EachUndoesModel", "find", "()V"⟩, 23) := ⟨⟨by decide +kernel, by decide +kernel⟩, List.mem_of_getElem? (i := 503) (by decide +kernel), List.mem_of_getElem? (i := 690) (by decide +kernel), List.mem_of_getElem? (i := 691) (by decide +kernel)⟩
theorem lw_p47 : lw_okq (⟨"EachUndoesModel", "judges", "(II)V"⟩, 23) := ⟨⟨by decide +kernel, by decide +kernel⟩, List.mem_of_getElem? (i := 503) (by decide +kernel), List.mem_of_getElem? (i := 694) (by decide +kernel), List.mem_of_getElem? (i := 695) (by decide +kernel)⟩
def lw_privs_3 : List (MethodName × Nat) := [(⟨"EachUndoes$Sheet", "begin", "(II)V"⟩, 4), (⟨"EachUndoes$Sheet", "findingAt", "(II)I"⟩, 4), (⟨"EachUndoes$Sheet", "put", "(II)V"⟩, 4), (⟨"EachUndoes$Sheet", "hasItems", "(II)Z"⟩, 4), (⟨"EachUndoes", "withDeeds", "(J)J"⟩, 8), (⟨"EachUndoes", "withUndoings", "(J)J"⟩, 8), (⟨"EachUndoesModel", "met", "(I)I"⟩, 23), (⟨"EachUndoesModel", "lacks", "(III)I"⟩, 23), (⟨"EachUndoesModel", "reads", "()I"⟩, 23), (⟨"EachUndoesModel", "readsPart", "()Z"⟩, 23), (⟨"EachUndoesModel", "here", "()I"⟩, 23), (⟨"EachUndoesModel", "none", "()I"⟩, 23), (⟨"EachUndoesModel", "isDeed", "(I)Z"⟩, 23), (⟨"EachUndoesModel", "tells", "(III)V"⟩, 23), (⟨"EachUndoesModel", "find", "()V"⟩, 23), (⟨"EachUndoesModel", "judges", "(II)V"⟩, 23)]
theorem lw_r3 : ∀ q ∈ lw_privs_3, lw_okq q := List.forall_mem_cons.mpr ⟨lw_p32, List.forall_mem_cons.mpr ⟨lw_p33, List.forall_mem_cons.mpr ⟨lw_p34, List.forall_mem_cons.mpr ⟨lw_p35, List.forall_mem_cons.mpr ⟨lw_p36, List.forall_mem_cons.mpr ⟨lw_p37, List.forall_mem_cons.mpr ⟨lw_p38, List.forall_mem_cons.mpr ⟨lw_p39, List.forall_mem_cons.mpr ⟨lw_p40, List.forall_mem_cons.mpr ⟨lw_p41, List.forall_mem_cons.mpr ⟨lw_p42, List.forall_mem_cons.mpr ⟨lw_p43, List.forall_mem_cons.mpr ⟨lw_p44, List.forall_mem_cons.mpr ⟨lw_p45, List.forall_mem_cons.mpr ⟨lw_p46, List.forall_mem_cons.mpr ⟨lw_p47, fun _ h => absurd h List.not_mem_nil⟩⟩⟩⟩⟩⟩⟩⟩⟩⟩⟩⟩⟩⟩⟩⟩
theorem lw_p48 : lw_okq (⟨"EachUndoesModel", "isLawful", "(I)Z"⟩, 23) := ⟨⟨by decide +kernel, by decide +kernel⟩, List.mem_of_getElem? (i := 503) (by decide +kernel), List.mem_of_getElem? (i := 698) (by decide +kernel), List.mem_of_getElem? (i := 699) (by decide +kernel)⟩
theorem lw_p49 : lw_okq (⟨"EachUndoesModel", "holding", "(I)I"⟩, 23) := ⟨⟨by decide +kernel, by decide +kernel⟩, List.mem_of_getElem? (i := 503) (by decide +kernel), List.mem_of_getElem? (i := 709) (by decide +kernel), List.mem_of_getElem? (i := 710) (by decide +kernel)⟩
theorem lw_p50 : lw_okq (⟨"EachUndoesModel", "stateOf", "(II)I"⟩, 23) := ⟨⟨by decide +kernel, by decide +kernel⟩, List.mem_of_getElem? (i := 503) (by decide +kernel), List.mem_of_getElem? (i := 720) (by decide +kernel), List.mem_of_getElem? (i := 721) (by decide +kernel)⟩
theorem lw_p51 : lw_okq (⟨"EachUndoesModel", "standing", "(I)I"⟩, 23) := ⟨⟨by decide +kernel, by decide +kernel⟩, List.mem_of_getElem? (i := 503) (by decide +kernel), List.mem_of_getElem? (i := 724) (by decide +kernel), List.mem_of_getElem? (i := 725) (by decide +kernel)⟩
theorem lw_p52 : lw_okq (⟨"EachUndoesModel", "struck", "(I)I"⟩, 23) := ⟨⟨by decide +kernel, by decide +kernel⟩, List.mem_of_getElem? (i := 503) (by decide +kernel), List.mem_of_getElem? (i := 728) (by decide +kernel), List.mem_of_getElem? (i := 729) (by decide +kernel)⟩
theorem lw_p53 : lw_okq (⟨"EachUndoesModel", "rootOf", "(I)I"⟩, 23) := ⟨⟨by decide +kernel, by decide +kernel⟩, List.mem_of_getElem? (i := 503) (by decide +kernel), List.mem_of_getElem? (i := 736) (by decide +kernel), List.mem_of_getElem? (i := 737) (by decide +kernel)⟩
theorem lw_p54 : lw_okq (⟨"EachUndoesModel", "byOf", "(I)I"⟩, 23) := ⟨⟨by decide +kernel, by decide +kernel⟩, List.mem_of_getElem? (i := 503) (by decide +kernel), List.mem_of_getElem? (i := 744) (by decide +kernel), List.mem_of_getElem? (i := 745) (by decide +kernel)⟩
theorem lw_p55 : lw_okq (⟨"EachUndoesModel", "withoutOf", "(II)I"⟩, 23) := ⟨⟨by decide +kernel, by decide +kernel⟩, List.mem_of_getElem? (i := 503) (by decide +kernel), List.mem_of_getElem? (i := 752) (by decide +kernel), List.mem_of_getElem? (i := 753) (by decide +kernel)⟩
theorem lw_p56 : lw_okq (⟨"EachUndoesModel", "fewestOf", "(IIII)I"⟩, 23) := ⟨⟨by decide +kernel, by decide +kernel⟩, List.mem_of_getElem? (i := 503) (by decide +kernel), List.mem_of_getElem? (i := 764) (by decide +kernel), List.mem_of_getElem? (i := 765) (by decide +kernel)⟩
theorem lw_p57 : lw_okq (⟨"EachUndoesModel", "isSo", "(III)Z"⟩, 23) := ⟨⟨by decide +kernel, by decide +kernel⟩, List.mem_of_getElem? (i := 503) (by decide +kernel), List.mem_of_getElem? (i := 768) (by decide +kernel), List.mem_of_getElem? (i := 769) (by decide +kernel)⟩
theorem lw_p58 : lw_okq (⟨"EachUndoesModel", "adds", "(II)Z"⟩, 23) := ⟨⟨by decide +kernel, by decide +kernel⟩, List.mem_of_getElem? (i := 503) (by decide +kernel), List.mem_of_getElem? (i := 772) (by decide +kernel), List.mem_of_getElem? (i := 773) (by decide +kernel)⟩
theorem lw_p59 : lw_okq (⟨"EachUndoesModel", "canBe", "(III)Z"⟩, 23) := ⟨⟨by decide +kernel, by decide +kernel⟩, List.mem_of_getElem? (i := 503) (by decide +kernel), List.mem_of_getElem? (i := 776) (by decide +kernel), List.mem_of_getElem? (i := 777) (by decide +kernel)⟩
theorem lw_p60 : lw_okq (⟨"EachUndoesModel", "safeOf", "(I)I"⟩, 23) := ⟨⟨by decide +kernel, by decide +kernel⟩, List.mem_of_getElem? (i := 503) (by decide +kernel), List.mem_of_getElem? (i := 784) (by decide +kernel), List.mem_of_getElem? (i := 785) (by decide +kernel)⟩
theorem lw_p61 : lw_okq (⟨"EachUndoesModel", "afterAny", "(II)I"⟩, 23) := ⟨⟨by decide +kernel, by decide +kernel⟩, List.mem_of_getElem? (i := 503) (by decide +kernel), List.mem_of_getElem? (i := 788) (by decide +kernel), List.mem_of_getElem? (i := 789) (by decide +kernel)⟩
theorem lw_p62 : lw_okq (⟨"EachUndoesModel", "lastOf", "(III)I"⟩, 23) := ⟨⟨by decide +kernel, by decide +kernel⟩, List.mem_of_getElem? (i := 503) (by decide +kernel), List.mem_of_getElem? (i := 796) (by decide +kernel), List.mem_of_getElem? (i := 797) (by decide +kernel)⟩
theorem lw_p63 : lw_okq (⟨"EachUndoesModel", "answers", "(II)V"⟩, 23) := ⟨⟨by decide +kernel, by decide +kernel⟩, List.mem_of_getElem? (i := 503) (by decide +kernel), List.mem_of_getElem? (i := 800) (by decide +kernel), List.mem_of_getElem? (i := 801) (by decide +kernel)⟩
def lw_privs_4 : List (MethodName × Nat) := [(⟨"EachUndoesModel", "isLawful", "(I)Z"⟩, 23), (⟨"EachUndoesModel", "holding", "(I)I"⟩, 23), (⟨"EachUndoesModel", "stateOf", "(II)I"⟩, 23), (⟨"EachUndoesModel", "standing", "(I)I"⟩, 23), (⟨"EachUndoesModel", "struck", "(I)I"⟩, 23), (⟨"EachUndoesModel", "rootOf", "(I)I"⟩, 23), (⟨"EachUndoesModel", "byOf", "(I)I"⟩, 23), (⟨"EachUndoesModel", "withoutOf", "(II)I"⟩, 23), (⟨"EachUndoesModel", "fewestOf", "(IIII)I"⟩, 23), (⟨"EachUndoesModel", "isSo", "(III)Z"⟩, 23), (⟨"EachUndoesModel", "adds", "(II)Z"⟩, 23), (⟨"EachUndoesModel", "canBe", "(III)Z"⟩, 23), (⟨"EachUndoesModel", "safeOf", "(I)I"⟩, 23), (⟨"EachUndoesModel", "afterAny", "(II)I"⟩, 23), (⟨"EachUndoesModel", "lastOf", "(III)I"⟩, 23), (⟨"EachUndoesModel", "answers", "(II)V"⟩, 23)]
theorem lw_r4 : ∀ q ∈ lw_privs_4, lw_okq q := List.forall_mem_cons.mpr ⟨lw_p48, List.forall_mem_cons.mpr ⟨lw_p49, List.forall_mem_cons.mpr ⟨lw_p50, List.forall_mem_cons.mpr ⟨lw_p51, List.forall_mem_cons.mpr ⟨lw_p52, List.forall_mem_cons.mpr ⟨lw_p53, List.forall_mem_cons.mpr ⟨lw_p54, List.forall_mem_cons.mpr ⟨lw_p55, List.forall_mem_cons.mpr ⟨lw_p56, List.forall_mem_cons.mpr ⟨lw_p57, List.forall_mem_cons.mpr ⟨lw_p58, List.forall_mem_cons.mpr ⟨lw_p59, List.forall_mem_cons.mpr ⟨lw_p60, List.forall_mem_cons.mpr ⟨lw_p61, List.forall_mem_cons.mpr ⟨lw_p62, List.forall_mem_cons.mpr ⟨lw_p63, fun _ h => absurd h List.not_mem_nil⟩⟩⟩⟩⟩⟩⟩⟩⟩⟩⟩⟩⟩⟩⟩⟩
theorem lw_p64 : lw_okq (⟨"EachUndoesModel", "worthOf", "(II)I"⟩, 23) := ⟨⟨by decide +kernel, by decide +kernel⟩, List.mem_of_getElem? (i := 503) (by decide +kernel), List.mem_of_getElem? (i := 804) (by decide +kernel), List.mem_of_getElem? (i := 805) (by decide +kernel)⟩
theorem lw_p65 : lw_okq (⟨"EachUndoesModel", "oftenNow", "()I"⟩, 23) := ⟨⟨by decide +kernel, by decide +kernel⟩, List.mem_of_getElem? (i := 503) (by decide +kernel), List.mem_of_getElem? (i := 820) (by decide +kernel), List.mem_of_getElem? (i := 821) (by decide +kernel)⟩
theorem lw_p66 : lw_okq (⟨"EachUndoesModel", "drawnOf", "(III)I"⟩, 23) := ⟨⟨by decide +kernel, by decide +kernel⟩, List.mem_of_getElem? (i := 503) (by decide +kernel), List.mem_of_getElem? (i := 829) (by decide +kernel), List.mem_of_getElem? (i := 830) (by decide +kernel)⟩
theorem lw_p67 : lw_okq (⟨"EachUndoesModel", "lot", "(I)I"⟩, 23) := ⟨⟨by decide +kernel, by decide +kernel⟩, List.mem_of_getElem? (i := 503) (by decide +kernel), List.mem_of_getElem? (i := 833) (by decide +kernel), List.mem_of_getElem? (i := 834) (by decide +kernel)⟩
theorem lw_p68 : lw_okq (⟨"EachUndoesModel", "ofOthers", "(I)I"⟩, 23) := ⟨⟨by decide +kernel, by decide +kernel⟩, List.mem_of_getElem? (i := 503) (by decide +kernel), List.mem_of_getElem? (i := 841) (by decide +kernel), List.mem_of_getElem? (i := 842) (by decide +kernel)⟩
def lw_privs_5 : List (MethodName × Nat) := [(⟨"EachUndoesModel", "worthOf", "(II)I"⟩, 23), (⟨"EachUndoesModel", "oftenNow", "()I"⟩, 23), (⟨"EachUndoesModel", "drawnOf", "(III)I"⟩, 23), (⟨"EachUndoesModel", "lot", "(I)I"⟩, 23), (⟨"EachUndoesModel", "ofOthers", "(I)I"⟩, 23)]
theorem lw_r5 : ∀ q ∈ lw_privs_5, lw_okq q := List.forall_mem_cons.mpr ⟨lw_p64, List.forall_mem_cons.mpr ⟨lw_p65, List.forall_mem_cons.mpr ⟨lw_p66, List.forall_mem_cons.mpr ⟨lw_p67, List.forall_mem_cons.mpr ⟨lw_p68, fun _ h => absurd h List.not_mem_nil⟩⟩⟩⟩⟩
def lw_privs : List (MethodName × Nat) := lw_privs_1 ++ (lw_privs_2 ++ (lw_privs_3 ++ (lw_privs_4 ++ (lw_privs_5))))
def lw_tbl : List Cond := k2_sels lw_privs ++ tables_1
theorem lw_privs_ok : ∀ q ∈ lw_privs, lw_okq q := by
  show ∀ q ∈ lw_privs_1 ++ (lw_privs_2 ++ (lw_privs_3 ++ (lw_privs_4 ++ (lw_privs_5)))), lw_okq q
  exact List.forall_mem_append.mpr ⟨lw_r1, List.forall_mem_append.mpr ⟨lw_r2, List.forall_mem_append.mpr ⟨lw_r3, List.forall_mem_append.mpr ⟨lw_r4, lw_r5⟩⟩⟩⟩
-- ===== end of PART A; then your names; then what follows =====
end
section
/-! ===== BEGIN words of one list among another's, by their places ===== -/
theorem goodIn_r {big : List Cond} (ws : List Cond) (ps : List Nat) (hp : ws = ps.filterMap (fun i => big[i]?)) (h : ws.all goodWord = true) : GoodIn big ws := by
  intro w hw
  have h1 := List.all_eq_true.mp h w hw
  rw [hp] at hw
  obtain ⟨i, -, hi⟩ := List.mem_filterMap.mp hw
  have hm : w ∈ big := by first | exact List.mem_of_getElem? hi | exact List.getElem?_mem hi
  exact ⟨hm, good_of_word h1⟩
theorem goodIn_app {big a b : List Cond} (ha : GoodIn big a) (hb : GoodIn big b) : GoodIn big (a ++ b) := fun w h => (List.mem_append.mp h).elim (ha w) (hb w)
theorem goodIn_ca {big a b : List Cond} {c : Cond} (ha : GoodIn big (c :: a)) (hb : GoodIn big b) : GoodIn big (c :: (a ++ b)) := fun w h => (List.mem_cons.mp h).elim (fun e => ha w (List.mem_cons.mpr (Or.inl e))) (fun h => (List.mem_append.mp h).elim (fun h => ha w (List.mem_cons.mpr (Or.inr h))) (hb w))
theorem goodIn_sub {big ws : List Cond} (hm : ∀ w ∈ ws, w ∈ big) (h : ws.all goodWord = true) : GoodIn big ws := fun w hw => ⟨hm w hw, good_of_word (List.all_eq_true.mp h w hw)⟩
/-! ===== END ===== -/

/-! ===== BEGIN new T[n][m]: the outer array a place, the inner ones among the pooled ===== -/
/-- f, but v at every address of l -/
def vr_up {α : Type} (f : Nat → α) (l : List Nat) (v : α) : Nat → α := fun a => if a ∈ l then v else f a
theorem vr_up_in {α : Type} {f : Nat → α} {l : List Nat} {v : α} {a : Nat} (h : a ∈ l) : vr_up f l v a = v := if_pos h
theorem vr_up_ne {α : Type} {f : Nat → α} {l : List Nat} {v : α} {a : Nat} (h : a ∉ l) : vr_up f l v a = f a := if_neg h
theorem vr_rows {L l : List Nat} {f : Nat → va_E} {e : va_E} (h : ∀ a, a ∈ l → a ∉ L) : va_pl L f ++ l.map (fun a => (a, e)) = va_pl (L ++ l) (vr_up f l e) := by
  unfold va_pl
  rw [List.map_append]
  congr 1
  · apply List.map_congr_left
    intro a ha
    rw [vr_up_ne (fun q => h a q ha)]
  · apply List.map_congr_left
    intro a ha
    rw [vr_up_in ha]
theorem vr_lay {X rows : va_W} {x : Nat × va_E} {pl : va_W} {D : va_G} {cl : List vw_C} {H : Heap} (hP : va_P D cl (((X ++ pl) ++ [x]) ++ rows) H) : va_P D cl ((X ++ [x]) ++ (pl ++ rows)) H := by
  rw [List.append_assoc (X ++ pl)] at hP
  have h := va_P.swap hP
  rw [← List.append_assoc X] at h
  have h2 := va_P.swap h
  rw [List.append_assoc (X ++ [x])] at h2
  exact h2
theorem vr_layD {X rows : va_W} {x : Nat × va_E} {pl : va_W} {A : Nat → Prop} (hD : va_D A (((X ++ pl) ++ [x]) ++ rows)) : va_D A ((X ++ [x]) ++ (pl ++ rows)) := by
  rw [List.append_assoc (X ++ pl)] at hD
  have h := va_D.swap hD
  rw [← List.append_assoc X] at h
  have h2 := va_D.swap h
  rw [List.append_assoc (X ++ [x])] at h2
  exact h2
theorem vr_outer (c : ClassId) (N h0 : Nat) : ∀ i : Nat, Jvm.Free.Multi.outerC c N h0 i = arrV c N (fun j => va_rf (if j < i then some (h0 + 1 + j) else none))
  | 0 => by
    show ({ cls := c, slots := Array.replicate N .null, vm := .none } : Cell) = _
    rw [arrV_new]
    refine congrArg (arrV c N) (funext fun j => ?_)
    simp [va_rf]
  | i + 1 => by
    show (Jvm.Free.Multi.outerC c N h0 i).setSlot i (.ref (h0 + 1 + i)) = _
    rw [vr_outer c N h0 i, arrV_store]
    refine congrArg (arrV c N) (funext fun j => ?_)
    by_cases e : j = i
    · subst e
      simp [updV, va_rf]
    · by_cases h : j < i
      · simp [updV, e, h, Nat.lt_succ_of_lt h]
      · simp [updV, e, h, show ¬ j < i + 1 by omega]
def va_AOA (t : FieldType) (U : State) : Prop := (Cond.arrayOver (.array t)).before #[] U = true
theorem va_AOA.of {t : FieldType} {A : Array Value} {U : State} (h : (Cond.arrayOver (.array t)).before A U = true) : va_AOA t U := h
theorem va_AOA.use {t : FieldType} {A : Array Value} {U : State} (h : va_AOA t U) : (Cond.arrayOver (.array t)).before A U = true := h
section VGM
variable {p : Program} {l : Launch} {e : Env} {R : Room} {s : State} {m : MethodId} {args : Array Value} {below : List Frame} {meth : Method} {c : Code} {H : Heap} {locs : List Loc} {cells slots : Nat} {Q : State → Prop}
variable {cc : ByteArray} {pc : Nat} {ls : Array Slot} {rest : List Value} {D : va_G} {cl : List vw_C} {A : Nat → Prop} {a : Nat} {tys : List (ClassId × FieldType)} {ws : va_W} {H0 : Heap}
theorem va_mna {X : va_W} {L : List Nat} {f : Nat → va_E} {cc : ByteArray} (hexec : p.tables.exec = Jvm.exec) (hb : c.code = cc) {own : String} {index : Nat} {ty : FieldType} {cy : ClassId} (hown : s.vm.findClass own = some m.cls) (hclink : (Cond.classLink own index ("[" ++ (FieldType.array ty).toString)).before args s = true) (hover : va_AOA ty s) (harr : (Cond.arrayClass ty).before args s = true) (hcy : s.vm.findClass (FieldType.array ty).toString = some cy)
    (hK : va_K D cl tys s) (hP : va_P D cl (X ++ va_pl L f) H) (hD : va_D A (X ++ va_pl L f)) (hS : va_S A H0 H locs) (hA : ∀ q, H0.size ≤ q → A q) {n k : Int32} {N' K' : Nat} {z : vp_A} (hn : ¬ n < 0) (hk : ¬ k < 0) (hN : n.toNatClampNeg = N') (hM : k.toNatClampNeg = K')
    (hb1 : N' * 4 ≤ 536870912) (hb2 : K' * componentBytes ty ≤ 536870912) (hb3 : K' ≤ 536870912) (hdf : fits ty (defaultValue ty) = true) (hdd : (defaultValue ty).isDefault = true) (hcells : cells + (1 + N') ≤ R.cells) (hslots : slots + (N' + N' * K') ≤ R.slots) (hz : ∀ c : ClassId, Jvm.Free.Multi.innerC c K' (defaultValue ty) = vp_cell c z) (hdg : decode cc pc = .ok (.multianewarray index 2, 4))
    (kk : ∀ (q : Nat) (r : Nat → Nat) (cA : ClassId) (H1 : Heap), (∀ i j : Nat, i < N' → j < N' → r i = r j → i = j) → (∀ i : Nat, i < N' → r i ∉ L) → va_K D cl (tys ++ [(cA, .array ty)]) s →
      va_P D cl ((X ++ [(q, .inl (cA, N', .inr (.inr (.inr (.inr (fun i => if i < N' then some (r i) else none))))))]) ++ va_pl (L ++ (List.range N').map r) (vr_up f ((List.range N').map r) (.inl (cy, z)))) H1 → va_D A ((X ++ [(q, .inl (cA, N', .inr (.inr (.inr (.inr (fun i => if i < N' then some (r i) else none))))))]) ++ va_pl (L ++ (List.range N').map r) (vr_up f ((List.range N').map r) (.inl (cy, z)))) → va_S A H0 H1 locs →
      W p l e R s m args below meth c H1 locs (cells + 1 + N') (slots + N' + N' * K') Q (F0 m (pc + 4) ls (.ref q :: rest))) : W p l e R s m args below meth c H locs cells slots Q (F0 m pc ls (.int k :: .int n :: rest)) := by
  subst hN
  subst hM
  intro T hT Xs
  obtain ⟨vm₁, cA, comp, -, fA, fC, hO, -, X', step⟩ := Xs.multianewarray2F hexec hown hclink (va_AOA.use hover) harr (g := F0 m pc ls (.int k :: .int n :: rest)) rfl (by rw [hb]; exact hdg) rfl hn hk hb1 hb2 hb3 hdf hdd hcells hslots
  have ec : some cy = some comp := hcy.symm.trans fC
  cases ec
  generalize hF : Jvm.Free.Multi.fill (T.setVm vm₁) cA cy n.toNatClampNeg k.toNatClampNeg (defaultValue ty) n.toNatClampNeg = F at X' step
  have hTh : (T.setVm vm₁).heap = H := hT
  obtain ⟨f1, f2, -, -⟩ := Jvm.Free.Multi.fill_facts (T.setVm vm₁) cA cy n.toNatClampNeg k.toNatClampNeg (defaultValue ty) n.toNatClampNeg
  rw [hF, hTh] at f1 f2
  have hold : ∀ x : Nat, x < H.size → F.heap[x]? = H[x]? := fun x hx => by
    have := Jvm.Free.Multi.fill_old (T.setVm vm₁) cA cy n.toNatClampNeg k.toNatClampNeg (defaultValue ty) (a := x) (by rw [hTh]; exact hx) n.toNatClampNeg
    rw [hF, hTh] at this
    exact this
  have hrow : ∀ j : Nat, j < n.toNatClampNeg → F.heap[H.size + 1 + j]? = some (vp_cell cy z) := fun j hj => by
    have := Jvm.Free.Multi.fill_inner (T.setVm vm₁) cA cy n.toNatClampNeg k.toNatClampNeg (defaultValue ty) n.toNatClampNeg j hj
    rw [hF, hTh, hz] at this
    exact this
  have hout : Jvm.Free.Multi.outerC cA n.toNatClampNeg H.size n.toNatClampNeg = vp_cell cA (n.toNatClampNeg, .inr (.inr (.inr (.inr (fun i => if i < n.toNatClampNeg then some (H.size + 1 + i) else none))))) := by
    rw [vp_cell_q]
    exact vr_outer cA n.toNatClampNeg H.size n.toNatClampNeg
  rw [hout] at f2
  have hlt : ∀ a, a ∈ L → a < H.size := fun a ha => by
    obtain ⟨k9, hk9⟩ := va_pl_get (X := X) (f := f) ha
    exact (hP k9 _ hk9).lt
  have hnl : ∀ i : Nat, i < n.toNatClampNeg → H.size + 1 + i ∉ L := fun i _ h => by
    have := hlt _ h
    omega
  have hnm : ∀ a, a ∈ (List.range n.toNatClampNeg).map (fun i => H.size + 1 + i) → a ∉ L := fun a ha h => by
    obtain ⟨i, -, rfl⟩ := List.mem_map.mp ha
    have := hlt _ h
    omega
  have hP0 : va_P D cl (X ++ va_pl L f) F.heap := hP.kept (fun k9 x hx => hold x.1 ((hP k9 x hx).lt))
  have hP1 : va_P D cl ((X ++ va_pl L f) ++ [(H.size, .inl (cA, n.toNatClampNeg, .inr (.inr (.inr (.inr (fun i => if i < n.toNatClampNeg then some (H.size + 1 + i) else none))))))]) F.heap := hP0.app (fun k9 x hx => by
    have h0 : k9 < 1 := (List.getElem?_eq_some_iff.mp hx).1
    rw [show k9 = 0 by omega] at hx
    cases hx
    exact f2)
  have hP2 : va_P D cl (((X ++ va_pl L f) ++ [(H.size, .inl (cA, n.toNatClampNeg, .inr (.inr (.inr (.inr (fun i => if i < n.toNatClampNeg then some (H.size + 1 + i) else none))))))]) ++ ((List.range n.toNatClampNeg).map (fun i => H.size + 1 + i)).map (fun a => (a, .inl (cy, z)))) F.heap := hP1.app (fun k9 x hx => by
    obtain ⟨a, ha, rfl⟩ := List.mem_map.mp (List.mem_of_getElem? hx)
    obtain ⟨i, hi, rfl⟩ := List.mem_map.mp ha
    exact hrow i (List.mem_range.mp hi))
  have hD2 : va_D A (((X ++ va_pl L f) ++ [(H.size, .inl (cA, n.toNatClampNeg, .inr (.inr (.inr (.inr (fun i => if i < n.toNatClampNeg then some (H.size + 1 + i) else none))))))]) ++ ((List.range n.toNatClampNeg).map (fun i => H.size + 1 + i)).map (fun a => (a, .inl (cy, z)))) := by
    have hD1 := hD.push (e := .inl (cA, n.toNatClampNeg, .inr (.inr (.inr (.inr (fun i => if i < n.toNatClampNeg then some (H.size + 1 + i) else none)))))) hP rfl (hA _ hS.1)
    generalize hW1 : (X ++ va_pl L f) ++ [(H.size, .inl (cA, n.toNatClampNeg, .inr (.inr (.inr (.inr (fun i => if i < n.toNatClampNeg then some (H.size + 1 + i) else none))))))] = W1 at hD1 hP1 ⊢
    have hle : ∀ (k9 : Nat) (x : Nat × va_E), W1[k9]? = some x → x.1 ≤ H.size := fun k9 x hx => by
      rw [← hW1] at hx
      by_cases hl : k9 < (X ++ va_pl L f).length
      · rw [List.getElem?_append_left hl] at hx
        exact Nat.le_of_lt ((hP k9 x hx).lt)
      · rw [List.getElem?_append_right (by omega)] at hx
        have h0 : k9 - (X ++ va_pl L f).length < 1 := (List.getElem?_eq_some_iff.mp hx).1
        rw [show k9 - (X ++ va_pl L f).length = 0 by omega] at hx
        cases hx
        exact Nat.le_refl _
    have hr : ∀ (k9 : Nat) (x : Nat × va_E), (((List.range n.toNatClampNeg).map (fun i => H.size + 1 + i)).map (fun a => ((a, .inl (cy, z)) : Nat × va_E)))[k9]? = some x → x.1 = H.size + 1 + k9 := fun k9 x hx => by
      rw [List.getElem?_map, List.getElem?_map] at hx
      by_cases h9 : k9 < n.toNatClampNeg
      · rw [List.getElem?_range h9] at hx
        cases hx
        rfl
      · have hn0 : (List.range n.toNatClampNeg)[k9]? = none := List.getElem?_eq_none (by rw [List.length_range]; omega)
        rw [hn0] at hx
        cases hx
    refine ⟨fun i j x y hi hj hxy => ?_, fun k9 x hx => ?_⟩
    · by_cases h1 : i < W1.length <;> by_cases h2 : j < W1.length
      · rw [List.getElem?_append_left h1] at hi
        rw [List.getElem?_append_left h2] at hj
        exact hD1.1 i j x y hi hj hxy
      · rw [List.getElem?_append_left h1] at hi
        rw [List.getElem?_append_right (by omega)] at hj
        have := hle _ _ hi
        have := hr _ _ hj
        omega
      · rw [List.getElem?_append_right (by omega)] at hi
        rw [List.getElem?_append_left h2] at hj
        have := hle _ _ hj
        have := hr _ _ hi
        omega
      · rw [List.getElem?_append_right (by omega)] at hi hj
        have := hr _ _ hi
        have := hr _ _ hj
        omega
    · by_cases h1 : k9 < W1.length
      · rw [List.getElem?_append_left h1] at hx
        exact hD1.2 k9 x hx
      · rw [List.getElem?_append_right (by omega)] at hx
        have := hr _ _ hx
        exact hA _ (by have := hS.1; omega)
  have hAr : ArrOfT s cA (.array ty) := fun N9 z9 => by
    obtain ⟨-, k9, hk9, cm9, hkk9⟩ := (hO 0 0 0).1
    exact ⟨(fun q hq => by cases hq), k9, hk9, cm9, hkk9⟩
  have hK2 : va_K D cl (tys ++ [(cA, .array ty)]) s := ⟨hK.1, fun k9 x hx => by
    by_cases hl : k9 < tys.length
    · rw [List.getElem?_append_left hl] at hx
      exact hK.2 k9 x hx
    · rw [List.getElem?_append_right (by omega)] at hx
      have h0 : k9 - tys.length < 1 := (List.getElem?_eq_some_iff.mp hx).1
      rw [show k9 - tys.length = 0 by omega] at hx
      cases hx
      exact ⟨hAr, fA⟩⟩
  obtain ⟨t, a1, b1⟩ := kk H.size (fun i => H.size + 1 + i) cA F.heap (fun i j _ _ h => by have h9 : H.size + 1 + i = H.size + 1 + j := h; omega) hnl hK2 (by rw [← vr_rows hnm]; exact vr_lay hP2) (by rw [← vr_rows hnm]; exact vr_layD hD2) ⟨by rw [f1]; have := hS.1; omega, fun x h1 h2 => (hold x (Nat.lt_of_lt_of_le h1 hS.1)).trans (hS.2.1 x h1 h2), hS.2.2⟩ F rfl X'
  refine ⟨t, step t ?_, b1⟩
  have e : T.heap.size = H.size := by rw [hT]
  rw [e]
  exact a1
end VGM
/-! ===== END ===== -/

/-! ===== BEGIN printed: names, fields, word lists, decode rows ===== -/
def RX0 : String := "EachUndoes$Deeds"
def TX0 : u_T := fun k => match k with
  | 0 => ("EachUndoes$Deeds", "bytes", "[I", true)
  | 1 => ("EachUndoes$Deeds", "doers", "[I", true)
  | 2 => ("EachUndoes$Deeds", "sources", "[I", true)
  | 3 => ("EachUndoes$Deeds", "length", "I", false)
  | 4 => ("EachUndoes$Deeds", "total", "I", false)
  | 5 => ("EachUndoes$Deeds", "own", "I", false)
  | _ => ("EachUndoes$Deeds", "fault", "I", false)
def tyX0 : Nat → FieldType := fun k => match k with
  | 0 => .array .int
  | 1 => .array .int
  | 2 => .array .int
  | 3 => .int
  | 4 => .int
  | 5 => .int
  | _ => .int
abbrev wsX00 : List Cond := u_ws RX0 TX0 7
theorem nmX0 : ∀ a, a < 7 → ∀ b, b < 7 → a ≠ b → (TX0 a).2.1 ≠ (TX0 b).2.1 := by decide +kernel
theorem tyX0_ok : ∀ k, k < 7 → parseFieldDescriptor (TX0 k).2.2.1 = some (tyX0 k) := by decide +kernel
abbrev cX0_init : ByteArray := prog_2_method_1_code
def yX0_init : MethodName := ⟨RX0, "<init>", "()V"⟩
abbrev cX0_append : ByteArray := prog_2_method_2_code
def yX0_append : MethodName := ⟨RX0, "append", "(I)I"⟩
abbrev cX0_clear : ByteArray := prog_2_method_3_code
def yX0_clear : MethodName := ⟨RX0, "clear", "()I"⟩
abbrev cX0_parse : ByteArray := prog_2_method_4_code
def yX0_parse : MethodName := ⟨RX0, "parse", "()V"⟩
abbrev cX0_begin : ByteArray := prog_2_method_5_code
def yX0_begin : MethodName := ⟨RX0, "begin", "(I)I"⟩
abbrev cX0_goOn : ByteArray := prog_2_method_6_code
def yX0_goOn : MethodName := ⟨RX0, "goOn", "(II)I"⟩
abbrev cX0_standing : ByteArray := prog_2_method_7_code
def yX0_standing : MethodName := ⟨RX0, "standing", "(I)I"⟩
abbrev cX0_fallen : ByteArray := prog_2_method_8_code
def yX0_fallen : MethodName := ⟨RX0, "fallen", "(I)I"⟩
abbrev cX0_rootOf : ByteArray := prog_2_method_9_code
def yX0_rootOf : MethodName := ⟨RX0, "rootOf", "(II)I"⟩
abbrev cX0_doneBy : ByteArray := prog_2_method_10_code
def yX0_doneBy : MethodName := ⟨RX0, "doneBy", "(I)I"⟩
def RX1 : String := "EachUndoes$Outlook"
def TX1 : u_T := fun k => match k with
  | 0 => ("EachUndoes$Outlook", "undoings", "LEachUndoes$Undoings;", true)
  | 1 => ("EachUndoes$Outlook", "deeds", "LEachUndoes$Deeds;", true)
  | 2 => ("EachUndoes$Outlook", "worths", "[[I", true)
  | 3 => ("EachUndoes$Outlook", "law", "I", false)
  | 4 => ("EachUndoes$Outlook", "unspent", "I", false)
  | 5 => ("EachUndoes$Outlook", "drawnDeeds", "I", false)
  | 6 => ("EachUndoes$Outlook", "drawnTotal", "I", false)
  | _ => ("EachUndoes$Outlook", "seed", "I", false)
def tyX1 : Nat → FieldType := fun k => match k with
  | 0 => .object "EachUndoes$Undoings"
  | 1 => .object "EachUndoes$Deeds"
  | 2 => .array (.array .int)
  | 3 => .int
  | 4 => .int
  | 5 => .int
  | 6 => .int
  | _ => .int
abbrev wsX10 : List Cond := u_ws RX1 TX1 8
theorem nmX1 : ∀ a, a < 8 → ∀ b, b < 8 → a ≠ b → (TX1 a).2.1 ≠ (TX1 b).2.1 := by decide +kernel
theorem tyX1_ok : ∀ k, k < 8 → parseFieldDescriptor (TX1 k).2.2.1 = some (tyX1 k) := by decide +kernel
abbrev cX1_init : ByteArray := prog_3_method_1_code
def yX1_init : MethodName := ⟨RX1, "<init>", "()V"⟩
abbrev cX1_renew : ByteArray := prog_3_method_2_code
def yX1_renew : MethodName := ⟨RX1, "renew", "()V"⟩
abbrev cX1_standingWith : ByteArray := prog_3_method_3_code
def yX1_standingWith : MethodName := ⟨RX1, "standingWith", "(II)I"⟩
abbrev cX1_isAsTold : ByteArray := prog_3_method_4_code
def yX1_isAsTold : MethodName := ⟨RX1, "isAsTold", "(III)Z"⟩
abbrev cX1_takersOf : ByteArray := prog_3_method_5_code
def yX1_takersOf : MethodName := ⟨RX1, "takersOf", "(I)I"⟩
abbrev cX1_leastTaker : ByteArray := prog_3_method_6_code
def yX1_leastTaker : MethodName := ⟨RX1, "leastTaker", "(II)I"⟩
abbrev cX1_leastFirst : ByteArray := prog_3_method_7_code
def yX1_leastFirst : MethodName := ⟨RX1, "leastFirst", "(III)I"⟩
abbrev cX1_lasting : ByteArray := prog_3_method_8_code
def yX1_lasting : MethodName := ⟨RX1, "lasting", "(I)I"⟩
abbrev cX1_bestMove : ByteArray := prog_3_method_9_code
def yX1_bestMove : MethodName := ⟨RX1, "bestMove", "(II)I"⟩
abbrev cX1_bestReply : ByteArray := prog_3_method_10_code
def yX1_bestReply : MethodName := ⟨RX1, "bestReply", "(II)I"⟩
abbrev cX1_canTake : ByteArray := prog_3_method_11_code
def yX1_canTake : MethodName := ⟨RX1, "canTake", "(III)Z"⟩
abbrev cX1_worthOf : ByteArray := prog_3_method_12_code
def yX1_worthOf : MethodName := ⟨RX1, "worthOf", "(II)I"⟩
abbrev cX1_draw : ByteArray := prog_3_method_13_code
def yX1_draw : MethodName := ⟨RX1, "draw", "(II)V"⟩
abbrev cX1_lotOf : ByteArray := prog_3_method_14_code
def yX1_lotOf : MethodName := ⟨RX1, "lotOf", "(I)I"⟩
def RX2 : String := "EachUndoes$Sheet"
def TX2 : u_T := fun k => match k with
  | 0 => ("EachUndoes$Sheet", "items", "[I", true)
  | 1 => ("EachUndoes$Sheet", "isLost", "Z", false)
  | 2 => ("EachUndoes$Sheet", "form", "I", false)
  | _ => ("EachUndoes$Sheet", "size", "I", false)
def tyX2 : Nat → FieldType := fun k => match k with
  | 0 => .array .int
  | 1 => .boolean
  | 2 => .int
  | _ => .int
abbrev wsX20 : List Cond := u_ws RX2 TX2 4
theorem nmX2 : ∀ a, a < 4 → ∀ b, b < 4 → a ≠ b → (TX2 a).2.1 ≠ (TX2 b).2.1 := by decide +kernel
theorem tyX2_ok : ∀ k, k < 4 → parseFieldDescriptor (TX2 k).2.2.1 = some (tyX2 k) := by decide +kernel
abbrev cX2_init : ByteArray := prog_4_method_1_code
def yX2_init : MethodName := ⟨RX2, "<init>", "()V"⟩
abbrev cX2_begin : ByteArray := prog_4_method_2_code
def yX2_begin : MethodName := ⟨RX2, "begin", "(II)V"⟩
abbrev cX2_findingAt : ByteArray := prog_4_method_3_code
def yX2_findingAt : MethodName := ⟨RX2, "findingAt", "(II)I"⟩
abbrev cX2_hasItems : ByteArray := prog_4_method_4_code
def yX2_hasItems : MethodName := ⟨RX2, "hasItems", "(II)Z"⟩
abbrev cX2_put : ByteArray := prog_4_method_5_code
def yX2_put : MethodName := ⟨RX2, "put", "(II)V"⟩
def RX3 : String := "EachUndoes$Undoings"
def TX3 : u_T := fun k => match k with
  | 0 => ("EachUndoes$Undoings", "deeds", "LEachUndoes$Deeds;", true)
  | 1 => ("EachUndoes$Undoings", "persons", "[I", true)
  | 2 => ("EachUndoes$Undoings", "things", "[I", true)
  | _ => ("EachUndoes$Undoings", "total", "I", false)
def tyX3 : Nat → FieldType := fun k => match k with
  | 0 => .object "EachUndoes$Deeds"
  | 1 => .array .int
  | 2 => .array .int
  | _ => .int
abbrev wsX30 : List Cond := u_ws RX3 TX3 4
theorem nmX3 : ∀ a, a < 4 → ∀ b, b < 4 → a ≠ b → (TX3 a).2.1 ≠ (TX3 b).2.1 := by decide +kernel
theorem tyX3_ok : ∀ k, k < 4 → parseFieldDescriptor (TX3 k).2.2.1 = some (tyX3 k) := by decide +kernel
abbrev cX3_init : ByteArray := prog_5_method_1_code
def yX3_init : MethodName := ⟨RX3, "<init>", "()V"⟩
abbrev cX3_tell : ByteArray := prog_5_method_2_code
def yX3_tell : MethodName := ⟨RX3, "tell", "(II)Z"⟩
abbrev cX3_lawful : ByteArray := prog_5_method_3_code
def yX3_lawful : MethodName := ⟨RX3, "lawful", "(I)I"⟩
abbrev cX3_lawfulOfFirst : ByteArray := prog_5_method_4_code
def yX3_lawfulOfFirst : MethodName := ⟨RX3, "lawfulOfFirst", "(I)I"⟩
abbrev cX3_ownerOf : ByteArray := prog_5_method_5_code
def yX3_ownerOf : MethodName := ⟨RX3, "ownerOf", "(II)I"⟩
abbrev cX3_unspent : ByteArray := prog_5_method_6_code
def yX3_unspent : MethodName := ⟨RX3, "unspent", "(I)I"⟩
abbrev cX3_holding : ByteArray := prog_5_method_7_code
def yX3_holding : MethodName := ⟨RX3, "holding", "(I)I"⟩
abbrev cX3_undone : ByteArray := prog_5_method_8_code
def yX3_undone : MethodName := ⟨RX3, "undone", "(I)I"⟩
abbrev cX3_standing : ByteArray := prog_5_method_9_code
def yX3_standing : MethodName := ⟨RX3, "standing", "(I)I"⟩
def RX4 : String := "EachUndoes"
def TX4 : u_T := fun k => match k with
  | 0 => ("EachUndoes", "outlook", "LEachUndoes$Outlook;", true)
  | 1 => ("EachUndoes", "undoings", "LEachUndoes$Undoings;", true)
  | 2 => ("EachUndoes", "deeds", "LEachUndoes$Deeds;", true)
  | 3 => ("EachUndoes", "sheets", "[LEachUndoes$Sheet;", true)
  | 4 => ("EachUndoes", "seenTotal", "I", false)
  | 5 => ("EachUndoes", "seenStanding", "I", false)
  | 6 => ("EachUndoes", "seenMissing", "I", false)
  | _ => ("EachUndoes", "finding", "I", false)
def tyX4 : Nat → FieldType := fun k => match k with
  | 0 => .object "EachUndoes$Outlook"
  | 1 => .object "EachUndoes$Undoings"
  | 2 => .object "EachUndoes$Deeds"
  | 3 => .array (.object "EachUndoes$Sheet")
  | 4 => .int
  | 5 => .int
  | 6 => .int
  | _ => .int
abbrev wsX40 : List Cond := u_ws RX4 TX4 8
theorem nmX4 : ∀ a, a < 8 → ∀ b, b < 8 → a ≠ b → (TX4 a).2.1 ≠ (TX4 b).2.1 := by decide +kernel
theorem tyX4_ok : ∀ k, k < 8 → parseFieldDescriptor (TX4 k).2.2.1 = some (tyX4 k) := by decide +kernel
abbrev cX4_init : ByteArray := prog_1_method_1_code
def yX4_init : MethodName := ⟨RX4, "<init>", "()V"⟩
abbrev cX4_type : ByteArray := prog_1_method_2_code
def yX4_type : MethodName := ⟨RX4, "type", "(I)I"⟩
abbrev cX4_wipe : ByteArray := prog_1_method_3_code
def yX4_wipe : MethodName := ⟨RX4, "wipe", "()I"⟩
abbrev cX4_fault : ByteArray := prog_1_method_4_code
def yX4_fault : MethodName := ⟨RX4, "fault", "()I"⟩
abbrev cX4_deed : ByteArray := prog_1_method_5_code
def yX4_deed : MethodName := ⟨RX4, "deed", "(II)I"⟩
abbrev cX4_undoes : ByteArray := prog_1_method_6_code
def yX4_undoes : MethodName := ⟨RX4, "undoes", "(II)I"⟩
abbrev cX4_read : ByteArray := prog_1_method_7_code
def yX4_read : MethodName := ⟨RX4, "read", "(I)I"⟩
abbrev cX4_undo : ByteArray := prog_1_method_8_code
def yX4_undo : MethodName := ⟨RX4, "undo", "()I"⟩
abbrev cX4_worth : ByteArray := prog_1_method_9_code
def yX4_worth : MethodName := ⟨RX4, "worth", "(III)I"⟩
abbrev cX4_judged : ByteArray := prog_1_method_10_code
def yX4_judged : MethodName := ⟨RX4, "judged", "()I"⟩
abbrev cX4_holds : ByteArray := prog_1_method_11_code
def yX4_holds : MethodName := ⟨RX4, "holds", "(I)I"⟩
abbrev cX4_state : ByteArray := prog_1_method_12_code
def yX4_state : MethodName := ⟨RX4, "state", "(II)I"⟩
abbrev cX4_root : ByteArray := prog_1_method_13_code
def yX4_root : MethodName := ⟨RX4, "root", "(I)I"⟩
abbrev cX4_by : ByteArray := prog_1_method_14_code
def yX4_by : MethodName := ⟨RX4, "by", "(I)I"⟩
abbrev cX4_without : ByteArray := prog_1_method_15_code
def yX4_without : MethodName := ⟨RX4, "without", "(II)I"⟩
abbrev cX4_standingBehind : ByteArray := prog_1_method_16_code
def yX4_standingBehind : MethodName := ⟨RX4, "standingBehind", "(I)I"⟩
abbrev cX4_fewest : ByteArray := prog_1_method_17_code
def yX4_fewest : MethodName := ⟨RX4, "fewest", "(IIII)I"⟩
abbrev cX4_safe : ByteArray := prog_1_method_18_code
def yX4_safe : MethodName := ⟨RX4, "safe", "(I)I"⟩
abbrev cX4_last : ByteArray := prog_1_method_19_code
def yX4_last : MethodName := ⟨RX4, "last", "(III)I"⟩
abbrev cX4_seen : ByteArray := prog_1_method_20_code
def yX4_seen : MethodName := ⟨RX4, "seen", "(II)I"⟩
abbrev cX4_forget : ByteArray := prog_1_method_21_code
def yX4_forget : MethodName := ⟨RX4, "forget", "()I"⟩
abbrev cX4_often : ByteArray := prog_1_method_22_code
def yX4_often : MethodName := ⟨RX4, "often", "()I"⟩
abbrev cX4_drawn : ByteArray := prog_1_method_23_code
def yX4_drawn : MethodName := ⟨RX4, "drawn", "(III)I"⟩
abbrev cX4_sheet : ByteArray := prog_1_method_24_code
def yX4_sheet : MethodName := ⟨RX4, "sheet", "(III)I"⟩
abbrev cX4_lose : ByteArray := prog_1_method_25_code
def yX4_lose : MethodName := ⟨RX4, "lose", "(I)I"⟩
abbrev cX4_lay : ByteArray := prog_1_method_26_code
def yX4_lay : MethodName := ⟨RX4, "lay", "(IIII)I"⟩
abbrev cX4_get : ByteArray := prog_1_method_27_code
def yX4_get : MethodName := ⟨RX4, "get", "(III)I"⟩
abbrev cX4_copy : ByteArray := prog_1_method_28_code
def yX4_copy : MethodName := ⟨RX4, "copy", "(IIIII)I"⟩
abbrev cX4_write : ByteArray := prog_1_method_29_code
def yX4_write : MethodName := ⟨RX4, "write", "(I)I"⟩
abbrev cX4_count : ByteArray := prog_1_method_30_code
def yX4_count : MethodName := ⟨RX4, "count", "(I)I"⟩
abbrev cX4_digest : ByteArray := prog_1_method_31_code
def yX4_digest : MethodName := ⟨RX4, "digest", "()J"⟩
abbrev cX4_withDeeds : ByteArray := prog_1_method_32_code
def yX4_withDeeds : MethodName := ⟨RX4, "withDeeds", "(J)J"⟩
abbrev cX4_withUndoings : ByteArray := prog_1_method_33_code
def yX4_withUndoings : MethodName := ⟨RX4, "withUndoings", "(J)J"⟩
abbrev cX4_found : ByteArray := prog_1_method_34_code
def yX4_found : MethodName := ⟨RX4, "found", "(I)I"⟩
abbrev cX4_mixed : ByteArray := prog_1_method_35_code
def yX4_mixed : MethodName := ⟨RX4, "mixed", "(JJ)J"⟩
abbrev cX4_isBelow : ByteArray := prog_1_method_36_code
def yX4_isBelow : MethodName := ⟨RX4, "isBelow", "(II)Z"⟩
abbrev cX4_bitOf : ByteArray := prog_1_method_37_code
def yX4_bitOf : MethodName := ⟨RX4, "bitOf", "(II)I"⟩
abbrev cX4_firstBits : ByteArray := prog_1_method_38_code
def yX4_firstBits : MethodName := ⟨RX4, "firstBits", "(I)I"⟩
abbrev cX4_leastOf : ByteArray := prog_1_method_39_code
def yX4_leastOf : MethodName := ⟨RX4, "leastOf", "(I)I"⟩
def RX5 : String := "EachUndoesModel"
def TX5 : u_T := fun k => match k with
  | 0 => ("EachUndoesModel", "forms", "[I", true)
  | 1 => ("EachUndoesModel", "sizes", "[I", true)
  | 2 => ("EachUndoesModel", "items", "[I", true)
  | 3 => ("EachUndoesModel", "moved", "[I", true)
  | 4 => ("EachUndoesModel", "latest", "I", false)
  | 5 => ("EachUndoesModel", "text", "[I", true)
  | 6 => ("EachUndoesModel", "typed", "I", false)
  | 7 => ("EachUndoesModel", "at", "I", false)
  | 8 => ("EachUndoesModel", "deeds", "I", false)
  | 9 => ("EachUndoesModel", "deed", "[I", true)
  | 10 => ("EachUndoesModel", "undoings", "I", false)
  | 11 => ("EachUndoesModel", "told", "[I", true)
  | 12 => ("EachUndoesModel", "worths", "[I", true)
  | 13 => ("EachUndoesModel", "lawful", "[Z", true)
  | 14 => ("EachUndoesModel", "against", "I", false)
  | 15 => ("EachUndoesModel", "firstAgainst", "I", false)
  | 16 => ("EachUndoesModel", "spent", "I", false)
  | 17 => ("EachUndoesModel", "roots", "[I", true)
  | 18 => ("EachUndoesModel", "answer", "I", false)
  | 19 => ("EachUndoesModel", "answered", "I", false)
  | 20 => ("EachUndoesModel", "sights", "I", false)
  | 21 => ("EachUndoesModel", "seen", "[I", true)
  | _ => ("EachUndoesModel", "now", "I", false)
def tyX5 : Nat → FieldType := fun k => match k with
  | 0 => .array .int
  | 1 => .array .int
  | 2 => .array .int
  | 3 => .array .int
  | 4 => .int
  | 5 => .array .int
  | 6 => .int
  | 7 => .int
  | 8 => .int
  | 9 => .array .int
  | 10 => .int
  | 11 => .array .int
  | 12 => .array .int
  | 13 => .array .boolean
  | 14 => .int
  | 15 => .int
  | 16 => .int
  | 17 => .array .int
  | 18 => .int
  | 19 => .int
  | 20 => .int
  | 21 => .array .int
  | _ => .int
abbrev wsX50 : List Cond := u_ws RX5 TX5 23
theorem nmX5 : ∀ a, a < 23 → ∀ b, b < 23 → a ≠ b → (TX5 a).2.1 ≠ (TX5 b).2.1 := by decide +kernel
theorem tyX5_ok : ∀ k, k < 23 → parseFieldDescriptor (TX5 k).2.2.1 = some (tyX5 k) := by decide +kernel
abbrev cX5_init : ByteArray := prog_7_method_1_code
def yX5_init : MethodName := ⟨RX5, "<init>", "()V"⟩
abbrev cX5_in : ByteArray := prog_7_method_3_code
def yX5_in : MethodName := ⟨RX5, "in", "(JJJ)Z"⟩
abbrev cX5_isTwo : ByteArray := prog_7_method_4_code
def yX5_isTwo : MethodName := ⟨RX5, "isTwo", "(I)Z"⟩
abbrev cX5_isIn : ByteArray := prog_7_method_5_code
def yX5_isIn : MethodName := ⟨RX5, "isIn", "(II)Z"⟩
abbrev cX5_ones : ByteArray := prog_7_method_6_code
def yX5_ones : MethodName := ⟨RX5, "ones", "(I)I"⟩
abbrev cX5_met : ByteArray := prog_7_method_7_code
def yX5_met : MethodName := ⟨RX5, "met", "(I)I"⟩
abbrev cX5_isSheet : ByteArray := prog_7_method_8_code
def yX5_isSheet : MethodName := ⟨RX5, "isSheet", "(I)Z"⟩
abbrev cX5_sheet : ByteArray := prog_7_method_9_code
def yX5_sheet : MethodName := ⟨RX5, "sheet", "(III)I"⟩
abbrev cX5_lose : ByteArray := prog_7_method_10_code
def yX5_lose : MethodName := ⟨RX5, "lose", "(I)I"⟩
abbrev cX5_lacks : ByteArray := prog_7_method_11_code
def yX5_lacks : MethodName := ⟨RX5, "lacks", "(III)I"⟩
abbrev cX5_cut : ByteArray := prog_7_method_12_code
def yX5_cut : MethodName := ⟨RX5, "cut", "(II)I"⟩
abbrev cX5_lay : ByteArray := prog_7_method_13_code
def yX5_lay : MethodName := ⟨RX5, "lay", "(IIII)I"⟩
abbrev cX5_get : ByteArray := prog_7_method_14_code
def yX5_get : MethodName := ⟨RX5, "get", "(III)I"⟩
abbrev cX5_copy : ByteArray := prog_7_method_15_code
def yX5_copy : MethodName := ⟨RX5, "copy", "(IIIII)I"⟩
abbrev cX5_type : ByteArray := prog_7_method_16_code
def yX5_type : MethodName := ⟨RX5, "type", "(I)I"⟩
abbrev cX5_wipe : ByteArray := prog_7_method_17_code
def yX5_wipe : MethodName := ⟨RX5, "wipe", "()I"⟩
abbrev cX5_here : ByteArray := prog_7_method_18_code
def yX5_here : MethodName := ⟨RX5, "here", "()I"⟩
abbrev cX5_none : ByteArray := prog_7_method_19_code
def yX5_none : MethodName := ⟨RX5, "none", "()I"⟩
abbrev cX5_readsPart : ByteArray := prog_7_method_20_code
def yX5_readsPart : MethodName := ⟨RX5, "readsPart", "()Z"⟩
abbrev cX5_reads : ByteArray := prog_7_method_21_code
def yX5_reads : MethodName := ⟨RX5, "reads", "()I"⟩
abbrev cX5_fault : ByteArray := prog_7_method_22_code
def yX5_fault : MethodName := ⟨RX5, "fault", "()I"⟩
abbrev cX5_isDeed : ByteArray := prog_7_method_23_code
def yX5_isDeed : MethodName := ⟨RX5, "isDeed", "(I)Z"⟩
abbrev cX5_deed : ByteArray := prog_7_method_24_code
def yX5_deed : MethodName := ⟨RX5, "deed", "(II)I"⟩
abbrev cX5_undoes : ByteArray := prog_7_method_25_code
def yX5_undoes : MethodName := ⟨RX5, "undoes", "(II)I"⟩
abbrev cX5_tells : ByteArray := prog_7_method_26_code
def yX5_tells : MethodName := ⟨RX5, "tells", "(III)V"⟩
abbrev cX5_read : ByteArray := prog_7_method_27_code
def yX5_read : MethodName := ⟨RX5, "read", "(I)I"⟩
abbrev cX5_undo : ByteArray := prog_7_method_28_code
def yX5_undo : MethodName := ⟨RX5, "undo", "()I"⟩
abbrev cX5_worth : ByteArray := prog_7_method_29_code
def yX5_worth : MethodName := ⟨RX5, "worth", "(III)I"⟩
abbrev cX5_isLawful : ByteArray := prog_7_method_30_code
def yX5_isLawful : MethodName := ⟨RX5, "isLawful", "(I)Z"⟩
abbrev cX5_judges : ByteArray := prog_7_method_31_code
def yX5_judges : MethodName := ⟨RX5, "judges", "(II)V"⟩
abbrev cX5_find : ByteArray := prog_7_method_32_code
def yX5_find : MethodName := ⟨RX5, "find", "()V"⟩
abbrev cX5_judged : ByteArray := prog_7_method_33_code
def yX5_judged : MethodName := ⟨RX5, "judged", "()I"⟩
abbrev cX5_holding : ByteArray := prog_7_method_34_code
def yX5_holding : MethodName := ⟨RX5, "holding", "(I)I"⟩
abbrev cX5_struck : ByteArray := prog_7_method_35_code
def yX5_struck : MethodName := ⟨RX5, "struck", "(I)I"⟩
abbrev cX5_standing : ByteArray := prog_7_method_36_code
def yX5_standing : MethodName := ⟨RX5, "standing", "(I)I"⟩
abbrev cX5_holds : ByteArray := prog_7_method_37_code
def yX5_holds : MethodName := ⟨RX5, "holds", "(I)I"⟩
abbrev cX5_stateOf : ByteArray := prog_7_method_38_code
def yX5_stateOf : MethodName := ⟨RX5, "stateOf", "(II)I"⟩
abbrev cX5_state : ByteArray := prog_7_method_39_code
def yX5_state : MethodName := ⟨RX5, "state", "(II)I"⟩
abbrev cX5_rootOf : ByteArray := prog_7_method_40_code
def yX5_rootOf : MethodName := ⟨RX5, "rootOf", "(I)I"⟩
abbrev cX5_root : ByteArray := prog_7_method_41_code
def yX5_root : MethodName := ⟨RX5, "root", "(I)I"⟩
abbrev cX5_byOf : ByteArray := prog_7_method_42_code
def yX5_byOf : MethodName := ⟨RX5, "byOf", "(I)I"⟩
abbrev cX5_by : ByteArray := prog_7_method_43_code
def yX5_by : MethodName := ⟨RX5, "by", "(I)I"⟩
abbrev cX5_least : ByteArray := prog_7_method_44_code
def yX5_least : MethodName := ⟨RX5, "least", "(I)I"⟩
abbrev cX5_withoutOf : ByteArray := prog_7_method_45_code
def yX5_withoutOf : MethodName := ⟨RX5, "withoutOf", "(II)I"⟩
abbrev cX5_without : ByteArray := prog_7_method_46_code
def yX5_without : MethodName := ⟨RX5, "without", "(II)I"⟩
abbrev cX5_adds : ByteArray := prog_7_method_47_code
def yX5_adds : MethodName := ⟨RX5, "adds", "(II)Z"⟩
abbrev cX5_isSo : ByteArray := prog_7_method_48_code
def yX5_isSo : MethodName := ⟨RX5, "isSo", "(III)Z"⟩
abbrev cX5_canBe : ByteArray := prog_7_method_49_code
def yX5_canBe : MethodName := ⟨RX5, "canBe", "(III)Z"⟩
abbrev cX5_fewestOf : ByteArray := prog_7_method_50_code
def yX5_fewestOf : MethodName := ⟨RX5, "fewestOf", "(IIII)I"⟩
abbrev cX5_fewest : ByteArray := prog_7_method_51_code
def yX5_fewest : MethodName := ⟨RX5, "fewest", "(IIII)I"⟩
abbrev cX5_afterAny : ByteArray := prog_7_method_52_code
def yX5_afterAny : MethodName := ⟨RX5, "afterAny", "(II)I"⟩
abbrev cX5_safeOf : ByteArray := prog_7_method_53_code
def yX5_safeOf : MethodName := ⟨RX5, "safeOf", "(I)I"⟩
abbrev cX5_safe : ByteArray := prog_7_method_54_code
def yX5_safe : MethodName := ⟨RX5, "safe", "(I)I"⟩
abbrev cX5_worthOf : ByteArray := prog_7_method_55_code
def yX5_worthOf : MethodName := ⟨RX5, "worthOf", "(II)I"⟩
abbrev cX5_answers : ByteArray := prog_7_method_56_code
def yX5_answers : MethodName := ⟨RX5, "answers", "(II)V"⟩
abbrev cX5_lastOf : ByteArray := prog_7_method_57_code
def yX5_lastOf : MethodName := ⟨RX5, "lastOf", "(III)I"⟩
abbrev cX5_last : ByteArray := prog_7_method_58_code
def yX5_last : MethodName := ⟨RX5, "last", "(III)I"⟩
abbrev cX5_seen : ByteArray := prog_7_method_59_code
def yX5_seen : MethodName := ⟨RX5, "seen", "(II)I"⟩
abbrev cX5_forget : ByteArray := prog_7_method_60_code
def yX5_forget : MethodName := ⟨RX5, "forget", "()I"⟩
abbrev cX5_oftenNow : ByteArray := prog_7_method_61_code
def yX5_oftenNow : MethodName := ⟨RX5, "oftenNow", "()I"⟩
abbrev cX5_often : ByteArray := prog_7_method_62_code
def yX5_often : MethodName := ⟨RX5, "often", "()I"⟩
abbrev cX5_lot : ByteArray := prog_7_method_63_code
def yX5_lot : MethodName := ⟨RX5, "lot", "(I)I"⟩
abbrev cX5_among : ByteArray := prog_7_method_64_code
def yX5_among : MethodName := ⟨RX5, "among", "(II)I"⟩
abbrev cX5_ofOthers : ByteArray := prog_7_method_65_code
def yX5_ofOthers : MethodName := ⟨RX5, "ofOthers", "(I)I"⟩
abbrev cX5_drawnOf : ByteArray := prog_7_method_66_code
def yX5_drawnOf : MethodName := ⟨RX5, "drawnOf", "(III)I"⟩
abbrev cX5_drawn : ByteArray := prog_7_method_67_code
def yX5_drawn : MethodName := ⟨RX5, "drawn", "(III)I"⟩
abbrev cX5_write : ByteArray := prog_7_method_68_code
def yX5_write : MethodName := ⟨RX5, "write", "(I)I"⟩
abbrev cX5_count : ByteArray := prog_7_method_69_code
def yX5_count : MethodName := ⟨RX5, "count", "(I)I"⟩
abbrev cX5_digest : ByteArray := prog_7_method_70_code
def yX5_digest : MethodName := ⟨RX5, "digest", "()J"⟩
def RJ6 : String := "java/lang/Integer"
def TJ6 : u_T := fun k => match k with
  | _ => ("", "", "", false)
def tyJ6 : Nat → FieldType := fun k => match k with
  | _ => .int
abbrev wsJ60 : List Cond := u_ws RJ6 TJ6 0
theorem nmJ6 : ∀ a, a < 0 → ∀ b, b < 0 → a ≠ b → (TJ6 a).2.1 ≠ (TJ6 b).2.1 := by decide +kernel
theorem tyJ6_ok : ∀ k, k < 0 → parseFieldDescriptor (TJ6 k).2.2.1 = some (tyJ6 k) := by decide +kernel
abbrev cJ6_bitCount_0f7a4 : ByteArray := prog_8_method_49_code
def yJ6_bitCount_0f7a4 : MethodName := ⟨RJ6, "bitCount", "(I)I"⟩
def RJ9 : String := "java/lang/Math"
def TJ9 : u_T := fun k => match k with
  | _ => ("", "", "", false)
def tyJ9 : Nat → FieldType := fun k => match k with
  | _ => .int
abbrev wsJ90 : List Cond := u_ws RJ9 TJ9 0
theorem nmJ9 : ∀ a, a < 0 → ∀ b, b < 0 → a ≠ b → (TJ9 a).2.1 ≠ (TJ9 b).2.1 := by decide +kernel
theorem tyJ9_ok : ∀ k, k < 0 → parseFieldDescriptor (TJ9 k).2.2.1 = some (tyJ9 k) := by decide +kernel
abbrev cJ9_min_7cf53 : ByteArray := prog_9_method_69_code
def yJ9_min_7cf53 : MethodName := ⟨RJ9, "min", "(II)I"⟩
def RJ10 : String := "java/lang/System"
def TJ10 : u_T := fun k => match k with
  | _ => ("", "", "", false)
def tyJ10 : Nat → FieldType := fun k => match k with
  | _ => .int
abbrev wsJ100 : List Cond := u_ws RJ10 TJ10 0
theorem nmJ10 : ∀ a, a < 0 → ∀ b, b < 0 → a ≠ b → (TJ10 a).2.1 ≠ (TJ10 b).2.1 := by decide +kernel
theorem tyJ10_ok : ∀ k, k < 0 → parseFieldDescriptor (TJ10 k).2.2.1 = some (tyJ10 k) := by decide +kernel
def RL : String := "EachUndoesLaw"
abbrev cL_law : ByteArray := code
def yL_law : MethodName := ⟨RL, "law", "([I)Z"⟩
abbrev vwCl : List vw_C := [(RX0, TX0, 7), (RX1, TX1, 8), (RX2, TX2, 4), (RX3, TX3, 4), (RX4, TX4, 8), (RX5, TX5, 23)]
end
section
def wsL_law_r1 : List Cond := [Cond.classLink RL 7 RX4, Cond.instantiable RX4 8, Cond.initialized RX4, Cond.classLink RL 10 RX5, Cond.instantiable RX5 23, Cond.initialized RX5, Cond.methodLink RL 9 yX4_init, Cond.instanceMethod yX4_init, Cond.code yX4_init cX4_init 2 none, Cond.methodLink RX4 3 objectInit, Cond.instanceMethod objectInit, Cond.code objectInit ⟨#[0xb1]⟩ 1 none, Cond.classLink RX4 9 RX1, Cond.instantiable RX1 8, Cond.initialized RX1, Cond.fieldLink RX4 12 "EachUndoes" "outlook" "LEachUndoes$Outlook;", Cond.fieldLink RX4 20 "EachUndoes" "undoings" "LEachUndoes$Undoings;", Cond.fieldLink RX4 27 "EachUndoes" "deeds" "LEachUndoes$Deeds;", Cond.classLink RX4 28 RX2, Cond.fieldLink RX4 30 "EachUndoes" "sheets" "[LEachUndoes$Sheet;", Cond.fieldLink RX4 34 "EachUndoes" "finding" "I", Cond.instantiable RX2 4, Cond.initialized RX2, Cond.instanceMethod yX1_init]
def wsL_law_r2 : List Cond := [Cond.code yX1_init cX1_init 1 none, Cond.methodLink RX1 3 objectInit, Cond.classLink RX1 9 RX3, Cond.instantiable RX3 4, Cond.initialized RX3, Cond.fieldLink RX1 12 "EachUndoes$Outlook" "undoings" "LEachUndoes$Undoings;", Cond.fieldLink RX1 22 "EachUndoes$Outlook" "deeds" "LEachUndoes$Deeds;", Cond.classLink RX1 23 "[[I", Cond.arrayClass .int, Cond.fieldLink RX1 25 "EachUndoes$Outlook" "worths" "[[I", Cond.instanceMethod yX3_init, Cond.code yX3_init cX3_init 1 none, Cond.methodLink RX3 3 objectInit, Cond.classLink RX3 9 RX0, Cond.instantiable RX0 7, Cond.initialized RX0, Cond.fieldLink RX3 12 "EachUndoes$Undoings" "deeds" "LEachUndoes$Deeds;", Cond.fieldLink RX3 18 "EachUndoes$Undoings" "persons" "[I", Cond.fieldLink RX3 22 "EachUndoes$Undoings" "things" "[I", Cond.instanceMethod yX0_init, Cond.code yX0_init cX0_init 1 none, Cond.methodLink RX0 3 objectInit, Cond.fieldLink RX0 9 "EachUndoes$Deeds" "bytes" "[I", Cond.fieldLink RX0 15 "EachUndoes$Deeds" "doers" "[I"]
def wsL_law_r3 : List Cond := [Cond.fieldLink RX0 18 "EachUndoes$Deeds" "sources" "[I", Cond.fieldLink RX0 21 "EachUndoes$Deeds" "fault" "I", Cond.instanceMethod yX2_init, Cond.code yX2_init cX2_init 1 none, Cond.methodLink RX2 3 objectInit, Cond.fieldLink RX2 9 "EachUndoes$Sheet" "items" "[I", Cond.fieldLink RX2 15 "EachUndoes$Sheet" "isLost" "Z", Cond.methodLink RL 12 yX5_init, Cond.instanceMethod yX5_init, Cond.code yX5_init cX5_init 2 none, Cond.methodLink RX5 1 objectInit, Cond.fieldLink RX5 7 "EachUndoesModel" "forms" "[I", Cond.fieldLink RX5 13 "EachUndoesModel" "sizes" "[I", Cond.fieldLink RX5 16 "EachUndoesModel" "items" "[I", Cond.fieldLink RX5 19 "EachUndoesModel" "moved" "[I", Cond.fieldLink RX5 22 "EachUndoesModel" "text" "[I", Cond.fieldLink RX5 25 "EachUndoesModel" "deed" "[I", Cond.fieldLink RX5 28 "EachUndoesModel" "told" "[I", Cond.fieldLink RX5 31 "EachUndoesModel" "worths" "[I", Cond.arrayClass .boolean, Cond.fieldLink RX5 34 "EachUndoesModel" "lawful" "[Z", Cond.fieldLink RX5 38 "EachUndoesModel" "roots" "[I", Cond.fieldLink RX5 41 "EachUndoesModel" "seen" "[I", Cond.methodLink RL 13 yX4_type]
def wsL_law_r4 : List Cond := [Cond.instanceMethod yX4_type, Cond.selects RX4 yX4_type yX4_type, Cond.code yX4_type cX4_type 2 (some .int), Cond.methodLink RX4 39 yX4_isBelow, Cond.static yX4_isBelow, Cond.code yX4_isBelow cX4_isBelow 2 (some .boolean), Cond.instanceMethod yX0_append, Cond.selects RX0 yX0_append yX0_append, Cond.code yX0_append cX0_append 2 (some .int), Cond.fieldLink RX0 25 "EachUndoes$Deeds" "length" "I", Cond.methodLink RX0 28 yX0_parse, Cond.instanceMethod yX0_parse, Cond.selects RX0 yX0_parse yX0_parse, Cond.code yX0_parse cX0_parse 3 none, Cond.fieldLink RX0 31 "EachUndoes$Deeds" "total" "I", Cond.fieldLink RX0 34 "EachUndoes$Deeds" "own" "I", Cond.methodLink RX0 37 yX0_begin, Cond.instanceMethod yX0_begin, Cond.selects RX0 yX0_begin yX0_begin, Cond.code yX0_begin cX0_begin 3 (some .int), Cond.methodLink RX0 41 yX0_goOn, Cond.instanceMethod yX0_goOn, Cond.selects RX0 yX0_goOn yX0_goOn, Cond.code yX0_goOn cX0_goOn 6 (some .int)]
def wsL_law_r5 : List Cond := [Cond.methodLink RX0 49 yJ6_bitCount_0f7a4, Cond.static yJ6_bitCount_0f7a4, Cond.initialized RJ6, Cond.code yJ6_bitCount_0f7a4 cJ6_bitCount_0f7a4 1 (some .int), Cond.constant RJ6 265 (1431655765), Cond.constant RJ6 266 (858993459), Cond.constant RJ6 267 (252645135), Cond.methodLink RL 17 yX5_type, Cond.instanceMethod yX5_type, Cond.selects RX5 yX5_type yX5_type, Cond.code yX5_type cX5_type 2 (some .int), Cond.constantLong RX5 73 (255), Cond.fieldLink RX5 75 "EachUndoesModel" "typed" "I", Cond.methodLink RX5 44 yX5_in, Cond.static yX5_in, Cond.code yX5_in cX5_in 6 (some .boolean), Cond.methodLink RL 18 yX4_wipe, Cond.instanceMethod yX4_wipe, Cond.selects RX4 yX4_wipe yX4_wipe, Cond.code yX4_wipe cX4_wipe 1 (some .int), Cond.instanceMethod yX0_clear, Cond.selects RX0 yX0_clear yX0_clear, Cond.code yX0_clear cX0_clear 2 (some .int), Cond.methodLink RL 22 yX5_wipe]
def wsL_law_r6 : List Cond := [Cond.instanceMethod yX5_wipe, Cond.selects RX5 yX5_wipe yX5_wipe, Cond.code yX5_wipe cX5_wipe 2 (some .int), Cond.methodLink RL 23 yX4_fault, Cond.instanceMethod yX4_fault, Cond.selects RX4 yX4_fault yX4_fault, Cond.code yX4_fault cX4_fault 1 (some .int), Cond.methodLink RL 26 yX5_fault, Cond.instanceMethod yX5_fault, Cond.selects RX5 yX5_fault yX5_fault, Cond.code yX5_fault cX5_fault 1 (some .int), Cond.methodLink RX5 100 yX5_reads, Cond.instanceMethod yX5_reads, Cond.selects RX5 yX5_reads yX5_reads, Cond.code yX5_reads cX5_reads 2 (some .int), Cond.fieldLink RX5 78 "EachUndoesModel" "at" "I", Cond.fieldLink RX5 81 "EachUndoesModel" "deeds" "I", Cond.methodLink RX5 93 yX5_readsPart, Cond.instanceMethod yX5_readsPart, Cond.selects RX5 yX5_readsPart yX5_readsPart, Cond.code yX5_readsPart cX5_readsPart 4 (some .boolean), Cond.constantLong RX5 88 (5), Cond.methodLink RX5 84 yX5_here, Cond.instanceMethod yX5_here]
def wsL_law_r7 : List Cond := [Cond.selects RX5 yX5_here yX5_here, Cond.code yX5_here cX5_here 1 (some .int), Cond.methodLink RX5 90 yX5_ones, Cond.static yX5_ones, Cond.code yX5_ones cX5_ones 3 (some .int), Cond.methodLink RX5 97 yX5_none, Cond.instanceMethod yX5_none, Cond.selects RX5 yX5_none yX5_none, Cond.code yX5_none cX5_none 1 (some .int), Cond.methodLink RL 27 yX4_deed, Cond.instanceMethod yX4_deed, Cond.selects RX4 yX4_deed yX4_deed, Cond.code yX4_deed cX4_deed 3 (some .int), Cond.methodLink RX4 72 yX4_bitOf, Cond.static yX4_bitOf, Cond.code yX4_bitOf cX4_bitOf 2 (some .int), Cond.methodLink RL 31 yX5_deed, Cond.instanceMethod yX5_deed, Cond.selects RX5 yX5_deed yX5_deed, Cond.code yX5_deed cX5_deed 3 (some .int), Cond.constantLong RX5 58 (2), Cond.methodLink RX5 103 yX5_isDeed, Cond.instanceMethod yX5_isDeed, Cond.selects RX5 yX5_isDeed yX5_isDeed]
def wsL_law_r8 : List Cond := [Cond.code yX5_isDeed cX5_isDeed 2 (some .boolean), Cond.methodLink RL 32 yX4_undoes, Cond.instanceMethod yX4_undoes, Cond.selects RX4 yX4_undoes yX4_undoes, Cond.code yX4_undoes cX4_undoes 3 (some .int), Cond.instanceMethod yX3_tell, Cond.selects RX3 yX3_tell yX3_tell, Cond.code yX3_tell cX3_tell 3 (some .boolean), Cond.fieldLink RX3 25 "EachUndoes$Undoings" "total" "I", Cond.methodLink RL 35 yX5_undoes, Cond.instanceMethod yX5_undoes, Cond.selects RX5 yX5_undoes yX5_undoes, Cond.code yX5_undoes cX5_undoes 3 (some .int), Cond.constantLong RX5 106 (23), Cond.fieldLink RX5 108 "EachUndoesModel" "undoings" "I", Cond.methodLink RX5 111 yX5_tells, Cond.instanceMethod yX5_tells, Cond.selects RX5 yX5_tells yX5_tells, Cond.code yX5_tells cX5_tells 4 none, Cond.methodLink RL 36 yX4_read, Cond.instanceMethod yX4_read, Cond.selects RX4 yX4_read yX4_read, Cond.code yX4_read cX4_read 6 (some .int), Cond.methodLink RX4 84 yX4_found]
def wsL_law_r9 : List Cond := [Cond.instanceMethod yX4_found, Cond.selects RX4 yX4_found yX4_found, Cond.code yX4_found cX4_found 2 (some .int), Cond.methodLink RL 39 yX5_read, Cond.instanceMethod yX5_read, Cond.selects RX5 yX5_read yX5_read, Cond.code yX5_read cX5_read 4 (some .int), Cond.methodLink RX5 54 yX5_isSheet, Cond.static yX5_isSheet, Cond.code yX5_isSheet cX5_isSheet 1 (some .boolean), Cond.constantLong RX5 52 (3), Cond.methodLink RX5 60 yX5_met, Cond.instanceMethod yX5_met, Cond.selects RX5 yX5_met yX5_met, Cond.code yX5_met cX5_met 2 (some .int), Cond.fieldLink RX5 48 "EachUndoesModel" "latest" "I", Cond.methodLink RX5 115 yX5_undoes, Cond.methodLink RL 40 yX4_undo, Cond.instanceMethod yX4_undo, Cond.selects RX4 yX4_undo yX4_undo, Cond.code yX4_undo cX4_undo 1 (some .int), Cond.methodLink RL 43 yX5_undo, Cond.instanceMethod yX5_undo, Cond.selects RX5 yX5_undo yX5_undo]
def wsL_law_r10 : List Cond := [Cond.code yX5_undo cX5_undo 1 (some .int), Cond.methodLink RL 44 yX4_worth, Cond.instanceMethod yX4_worth, Cond.selects RX4 yX4_worth yX4_worth, Cond.code yX4_worth cX4_worth 5 (some .int), Cond.methodLink RL 48 yX5_worth, Cond.instanceMethod yX5_worth, Cond.selects RX5 yX5_worth yX5_worth, Cond.code yX5_worth cX5_worth 5 (some .int), Cond.constantLong RX5 118 (11), Cond.constantLong RX5 120 (-9), Cond.constantLong RX5 122 (9), Cond.methodLink RL 49 yX4_judged, Cond.instanceMethod yX4_judged, Cond.selects RX4 yX4_judged yX4_judged, Cond.code yX4_judged cX4_judged 3 (some .int), Cond.instanceMethod yX3_lawful, Cond.selects RX3 yX3_lawful yX3_lawful, Cond.code yX3_lawful cX3_lawful 7 (some .int), Cond.methodLink RX3 29 yX3_ownerOf, Cond.instanceMethod yX3_ownerOf, Cond.selects RX3 yX3_ownerOf yX3_ownerOf, Cond.code yX3_ownerOf cX3_ownerOf 5 (some .int), Cond.methodLink RL 52 yX5_judged]
def wsL_law_r11 : List Cond := [Cond.instanceMethod yX5_judged, Cond.selects RX5 yX5_judged yX5_judged, Cond.code yX5_judged cX5_judged 1 (some .int), Cond.fieldLink RX5 134 "EachUndoesModel" "firstAgainst" "I", Cond.methodLink RX5 144 yX5_find, Cond.instanceMethod yX5_find, Cond.selects RX5 yX5_find yX5_find, Cond.code yX5_find cX5_find 1 none, Cond.methodLink RX5 140 yX5_judges, Cond.instanceMethod yX5_judges, Cond.selects RX5 yX5_judges yX5_judges, Cond.code yX5_judges cX5_judges 4 none, Cond.fieldLink RX5 131 "EachUndoesModel" "against" "I", Cond.fieldLink RX5 124 "EachUndoesModel" "spent" "I", Cond.methodLink RX5 137 yX5_isLawful, Cond.instanceMethod yX5_isLawful, Cond.selects RX5 yX5_isLawful yX5_isLawful, Cond.code yX5_isLawful cX5_isLawful 5 (some .boolean), Cond.methodLink RX5 127 yX5_isIn, Cond.static yX5_isIn, Cond.code yX5_isIn cX5_isIn 2 (some .boolean), Cond.methodLink RL 53 yX4_holds, Cond.instanceMethod yX4_holds, Cond.selects RX4 yX4_holds yX4_holds]
def wsL_law_r12 : List Cond := [Cond.code yX4_holds cX4_holds 2 (some .int), Cond.instanceMethod yX3_holding, Cond.selects RX3 yX3_holding yX3_holding, Cond.code yX3_holding cX3_holding 5 (some .int), Cond.methodLink RL 56 yX5_holds, Cond.instanceMethod yX5_holds, Cond.selects RX5 yX5_holds yX5_holds, Cond.code yX5_holds cX5_holds 2 (some .int), Cond.methodLink RX5 147 yX5_holding, Cond.instanceMethod yX5_holding, Cond.selects RX5 yX5_holding yX5_holding, Cond.code yX5_holding cX5_holding 5 (some .int), Cond.methodLink RL 57 yX4_state, Cond.instanceMethod yX4_state, Cond.selects RX4 yX4_state yX4_state, Cond.code yX4_state cX4_state 3 (some .int), Cond.methodLink RX4 103 yX4_standingBehind, Cond.instanceMethod yX4_standingBehind, Cond.selects RX4 yX4_standingBehind yX4_standingBehind, Cond.code yX4_standingBehind cX4_standingBehind 2 (some .int), Cond.instanceMethod yX3_lawfulOfFirst, Cond.selects RX3 yX3_lawfulOfFirst yX3_lawfulOfFirst, Cond.code yX3_lawfulOfFirst cX3_lawfulOfFirst 2 (some .int), Cond.methodLink RX3 36 yX3_lawful]
def wsL_law_r13 : List Cond := [Cond.static yX4_firstBits, Cond.code yX4_firstBits cX4_firstBits 1 (some .int), Cond.instanceMethod yX3_standing, Cond.selects RX3 yX3_standing yX3_standing, Cond.code yX3_standing cX3_standing 2 (some .int), Cond.methodLink RX3 50 yX3_undone, Cond.instanceMethod yX3_undone, Cond.selects RX3 yX3_undone yX3_undone, Cond.code yX3_undone cX3_undone 5 (some .int), Cond.methodLink RX3 47 yX3_holding, Cond.instanceMethod yX0_standing, Cond.selects RX0 yX0_standing yX0_standing, Cond.code yX0_standing cX0_standing 2 (some .int), Cond.methodLink RX0 57 yX0_fallen, Cond.instanceMethod yX0_fallen, Cond.selects RX0 yX0_fallen yX0_fallen, Cond.code yX0_fallen cX0_fallen 4 (some .int), Cond.instanceMethod yX3_unspent, Cond.selects RX3 yX3_unspent yX3_unspent, Cond.code yX3_unspent cX3_unspent 4 (some .int), Cond.methodLink RL 60 yX5_state, Cond.instanceMethod yX5_state, Cond.selects RX5 yX5_state yX5_state, Cond.code yX5_state cX5_state 3 (some .int)]
def wsL_law_r14 : List Cond := [Cond.methodLink RX5 156 yX5_isTwo, Cond.static yX5_isTwo, Cond.code yX5_isTwo cX5_isTwo 1 (some .boolean), Cond.methodLink RX5 159 yX5_stateOf, Cond.instanceMethod yX5_stateOf, Cond.selects RX5 yX5_stateOf yX5_stateOf, Cond.code yX5_stateOf cX5_stateOf 3 (some .int), Cond.methodLink RX5 153 yX5_standing, Cond.instanceMethod yX5_standing, Cond.selects RX5 yX5_standing yX5_standing, Cond.code yX5_standing cX5_standing 4 (some .int), Cond.methodLink RX5 150 yX5_struck, Cond.instanceMethod yX5_struck, Cond.selects RX5 yX5_struck yX5_struck, Cond.code yX5_struck cX5_struck 5 (some .int), Cond.methodLink RL 61 yX4_root, Cond.instanceMethod yX4_root, Cond.selects RX4 yX4_root yX4_root, Cond.code yX4_root cX4_root 2 (some .int), Cond.instanceMethod yX0_rootOf, Cond.selects RX0 yX0_rootOf yX0_rootOf, Cond.code yX0_rootOf cX0_rootOf 4 (some .int), Cond.methodLink RL 64 yX5_root, Cond.instanceMethod yX5_root]
def wsL_law_r15 : List Cond := [Cond.selects RX5 yX5_root yX5_root, Cond.code yX5_root cX5_root 2 (some .int), Cond.methodLink RX5 162 yX5_rootOf, Cond.instanceMethod yX5_rootOf, Cond.selects RX5 yX5_rootOf yX5_rootOf, Cond.code yX5_rootOf cX5_rootOf 6 (some .int), Cond.methodLink RL 65 yX4_by, Cond.instanceMethod yX4_by, Cond.selects RX4 yX4_by yX4_by, Cond.code yX4_by cX4_by 2 (some .int), Cond.methodLink RL 68 yX5_by, Cond.instanceMethod yX5_by, Cond.selects RX5 yX5_by yX5_by, Cond.code yX5_by cX5_by 2 (some .int), Cond.methodLink RX5 165 yX5_byOf, Cond.instanceMethod yX5_byOf, Cond.selects RX5 yX5_byOf yX5_byOf, Cond.code yX5_byOf cX5_byOf 2 (some .int), Cond.methodLink RL 69 yX4_without, Cond.instanceMethod yX4_without, Cond.selects RX4 yX4_without yX4_without, Cond.code yX4_without cX4_without 4 (some .int), Cond.methodLink RX4 121 yX4_leastOf, Cond.static yX4_leastOf]
def wsL_law_r16 : List Cond := [Cond.code yX4_leastOf cX4_leastOf 2 (some .int), Cond.methodLink RL 72 yX5_without, Cond.instanceMethod yX5_without, Cond.selects RX5 yX5_without yX5_without, Cond.code yX5_without cX5_without 3 (some .int), Cond.methodLink RX5 171 yX5_withoutOf, Cond.instanceMethod yX5_withoutOf, Cond.selects RX5 yX5_withoutOf yX5_withoutOf, Cond.code yX5_withoutOf cX5_withoutOf 5 (some .int), Cond.methodLink RX5 168 yX5_least, Cond.static yX5_least, Cond.code yX5_least cX5_least 2 (some .int), Cond.methodLink RL 73 yX4_fewest, Cond.instanceMethod yX4_fewest, Cond.selects RX4 yX4_fewest yX4_fewest, Cond.code yX4_fewest cX4_fewest 7 (some .int), Cond.instanceMethod yX1_renew, Cond.selects RX1 yX1_renew yX1_renew, Cond.code yX1_renew cX1_renew 1 none, Cond.fieldLink RX1 32 "EachUndoes$Outlook" "law" "I", Cond.fieldLink RX1 39 "EachUndoes$Outlook" "unspent" "I", Cond.instanceMethod yX1_standingWith, Cond.selects RX1 yX1_standingWith yX1_standingWith, Cond.code yX1_standingWith cX1_standingWith 5 (some .int)]
def wsL_law_r17 : List Cond := [Cond.instanceMethod yX1_isAsTold, Cond.selects RX1 yX1_isAsTold yX1_isAsTold, Cond.code yX1_isAsTold cX1_isAsTold 5 (some .boolean), Cond.instanceMethod yX1_leastFirst, Cond.selects RX1 yX1_leastFirst yX1_leastFirst, Cond.code yX1_leastFirst cX1_leastFirst 12 (some .int), Cond.methodLink RX1 70 yX1_leastTaker, Cond.instanceMethod yX1_leastTaker, Cond.selects RX1 yX1_leastTaker yX1_leastTaker, Cond.code yX1_leastTaker cX1_leastTaker 7 (some .int), Cond.methodLink RX1 64 yX1_takersOf, Cond.instanceMethod yX1_takersOf, Cond.selects RX1 yX1_takersOf yX1_takersOf, Cond.code yX1_takersOf cX1_takersOf 3 (some .int), Cond.methodLink RX1 73 yX1_standingWith, Cond.methodLink RX1 76 yX1_isAsTold, Cond.methodLink RL 77 yX5_fewest, Cond.instanceMethod yX5_fewest, Cond.selects RX5 yX5_fewest yX5_fewest, Cond.code yX5_fewest cX5_fewest 6 (some .int), Cond.constantLong RX5 184 (4095), Cond.methodLink RX5 186 yX5_fewestOf, Cond.instanceMethod yX5_fewestOf, Cond.selects RX5 yX5_fewestOf yX5_fewestOf]
def wsL_law_r18 : List Cond := [Cond.code yX5_fewestOf cX5_fewestOf 7 (some .int), Cond.methodLink RX5 177 yX5_isSo, Cond.instanceMethod yX5_isSo, Cond.selects RX5 yX5_isSo yX5_isSo, Cond.code yX5_isSo cX5_isSo 6 (some .boolean), Cond.methodLink RX5 174 yX5_adds, Cond.instanceMethod yX5_adds, Cond.selects RX5 yX5_adds yX5_adds, Cond.code yX5_adds cX5_adds 3 (some .boolean), Cond.methodLink RX5 181 yX5_canBe, Cond.instanceMethod yX5_canBe, Cond.selects RX5 yX5_canBe yX5_canBe, Cond.code yX5_canBe cX5_canBe 6 (some .boolean), Cond.methodLink RL 78 yX4_safe, Cond.instanceMethod yX4_safe, Cond.selects RX4 yX4_safe yX4_safe, Cond.code yX4_safe cX4_safe 2 (some .int), Cond.instanceMethod yX1_lasting, Cond.selects RX1 yX1_lasting yX1_lasting, Cond.code yX1_lasting cX1_lasting 7 (some .int), Cond.methodLink RL 81 yX5_safe, Cond.instanceMethod yX5_safe, Cond.selects RX5 yX5_safe yX5_safe, Cond.code yX5_safe cX5_safe 2 (some .int)]
def wsL_law_r19 : List Cond := [Cond.methodLink RX5 193 yX5_safeOf, Cond.instanceMethod yX5_safeOf, Cond.selects RX5 yX5_safeOf yX5_safeOf, Cond.code yX5_safeOf cX5_safeOf 4 (some .int), Cond.methodLink RX5 190 yX5_afterAny, Cond.instanceMethod yX5_afterAny, Cond.selects RX5 yX5_afterAny yX5_afterAny, Cond.code yX5_afterAny cX5_afterAny 5 (some .int), Cond.methodLink RL 82 yX4_last, Cond.instanceMethod yX4_last, Cond.selects RX4 yX4_last yX4_last, Cond.code yX4_last cX4_last 6 (some .int), Cond.instanceMethod yX1_bestMove, Cond.selects RX1 yX1_bestMove yX1_bestMove, Cond.code yX1_bestMove cX1_bestMove 7 (some .int), Cond.methodLink RX1 80 yX1_bestReply, Cond.instanceMethod yX1_bestReply, Cond.selects RX1 yX1_bestReply yX1_bestReply, Cond.code yX1_bestReply cX1_bestReply 7 (some .int), Cond.methodLink RX1 83 yX1_worthOf, Cond.instanceMethod yX1_worthOf, Cond.selects RX1 yX1_worthOf yX1_worthOf, Cond.code yX1_worthOf cX1_worthOf 5 (some .int), Cond.methodLink RX1 86 yX1_canTake]
def wsL_law_r20 : List Cond := [Cond.instanceMethod yX1_canTake, Cond.selects RX1 yX1_canTake yX1_canTake, Cond.code yX1_canTake cX1_canTake 6 (some .boolean), Cond.methodLink RL 85 yX5_last, Cond.instanceMethod yX5_last, Cond.selects RX5 yX5_last yX5_last, Cond.code yX5_last cX5_last 4 (some .int), Cond.methodLink RX5 208 yX5_lastOf, Cond.instanceMethod yX5_lastOf, Cond.selects RX5 yX5_lastOf yX5_lastOf, Cond.code yX5_lastOf cX5_lastOf 8 (some .int), Cond.fieldLink RX5 196 "EachUndoesModel" "answered" "I", Cond.fieldLink RX5 199 "EachUndoesModel" "answer" "I", Cond.methodLink RX5 205 yX5_answers, Cond.instanceMethod yX5_answers, Cond.selects RX5 yX5_answers yX5_answers, Cond.code yX5_answers cX5_answers 5 none, Cond.methodLink RX5 202 yX5_worthOf, Cond.instanceMethod yX5_worthOf, Cond.selects RX5 yX5_worthOf yX5_worthOf, Cond.code yX5_worthOf cX5_worthOf 5 (some .int), Cond.methodLink RL 86 yX4_seen, Cond.instanceMethod yX4_seen, Cond.selects RX4 yX4_seen yX4_seen]
def wsL_law_r21 : List Cond := [Cond.code yX4_seen cX4_seen 3 (some .int), Cond.fieldLink RX4 150 "EachUndoes" "seenTotal" "I", Cond.fieldLink RX4 153 "EachUndoes" "seenStanding" "I", Cond.fieldLink RX4 156 "EachUndoes" "seenMissing" "I", Cond.methodLink RL 89 yX5_seen, Cond.instanceMethod yX5_seen, Cond.selects RX5 yX5_seen yX5_seen, Cond.code yX5_seen cX5_seen 3 (some .int), Cond.fieldLink RX5 211 "EachUndoesModel" "sights" "I", Cond.methodLink RL 90 yX4_forget, Cond.instanceMethod yX4_forget, Cond.selects RX4 yX4_forget yX4_forget, Cond.code yX4_forget cX4_forget 2 (some .int), Cond.methodLink RL 93 yX5_forget, Cond.instanceMethod yX5_forget, Cond.selects RX5 yX5_forget yX5_forget, Cond.code yX5_forget cX5_forget 2 (some .int), Cond.methodLink RL 94 yX4_often, Cond.instanceMethod yX4_often, Cond.selects RX4 yX4_often yX4_often, Cond.code yX4_often cX4_often 4 (some .int), Cond.methodLink RL 97 yX5_often, Cond.instanceMethod yX5_often, Cond.selects RX5 yX5_often yX5_often]
def wsL_law_r22 : List Cond := [Cond.code yX5_often cX5_often 1 (some .int), Cond.methodLink RX5 214 yX5_oftenNow, Cond.instanceMethod yX5_oftenNow, Cond.selects RX5 yX5_oftenNow yX5_oftenNow, Cond.code yX5_oftenNow cX5_oftenNow 6 (some .int), Cond.methodLink RL 98 yX4_drawn, Cond.instanceMethod yX4_drawn, Cond.selects RX4 yX4_drawn yX4_drawn, Cond.code yX4_drawn cX4_drawn 4 (some .int), Cond.instanceMethod yX1_draw, Cond.selects RX1 yX1_draw yX1_draw, Cond.code yX1_draw cX1_draw 7 none, Cond.fieldLink RX1 89 "EachUndoes$Outlook" "seed" "I", Cond.fieldLink RX1 92 "EachUndoes$Outlook" "drawnDeeds" "I", Cond.fieldLink RX1 95 "EachUndoes$Outlook" "drawnTotal" "I", Cond.methodLink RX1 98 Lib.Math.min.name, Cond.static Lib.Math.min.name, Cond.initialized "java/lang/Math", Cond.code Lib.Math.min.name Lib.Math.min.code 2 (some .int), Cond.methodLink RX1 103 yX1_lotOf, Cond.instanceMethod yX1_lotOf, Cond.selects RX1 yX1_lotOf yX1_lotOf, Cond.code yX1_lotOf cX1_lotOf 6 (some .int), Cond.constant RX1 114 (1103515245)]
def wsL_law_r23 : List Cond := [Cond.methodLink RX1 109 yJ6_bitCount_0f7a4, Cond.instanceMethod yX0_doneBy, Cond.selects RX0 yX0_doneBy yX0_doneBy, Cond.code yX0_doneBy cX0_doneBy 4 (some .int), Cond.methodLink RL 101 yX5_drawn, Cond.instanceMethod yX5_drawn, Cond.selects RX5 yX5_drawn yX5_drawn, Cond.code yX5_drawn cX5_drawn 4 (some .int), Cond.constantLong RX5 230 (6), Cond.methodLink RX5 232 yX5_drawnOf, Cond.instanceMethod yX5_drawnOf, Cond.selects RX5 yX5_drawnOf yX5_drawnOf, Cond.code yX5_drawnOf cX5_drawnOf 9 (some .int), Cond.fieldLink RX5 218 "EachUndoesModel" "now" "I", Cond.methodLink RX5 221 yX5_lot, Cond.instanceMethod yX5_lot, Cond.selects RX5 yX5_lot yX5_lot, Cond.code yX5_lot cX5_lot 2 (some .int), Cond.constant RX5 217 (1103515245), Cond.methodLink RX5 224 yX5_among, Cond.static yX5_among, Cond.code yX5_among cX5_among 4 (some .int), Cond.methodLink RX5 227 yX5_ofOthers, Cond.instanceMethod yX5_ofOthers]
def wsL_law_r24 : List Cond := [Cond.selects RX5 yX5_ofOthers yX5_ofOthers, Cond.code yX5_ofOthers cX5_ofOthers 4 (some .int), Cond.methodLink RL 102 yX4_sheet, Cond.instanceMethod yX4_sheet, Cond.selects RX4 yX4_sheet yX4_sheet, Cond.code yX4_sheet cX4_sheet 4 (some .int), Cond.instanceMethod yX2_begin, Cond.selects RX2 yX2_begin yX2_begin, Cond.code yX2_begin cX2_begin 4 none, Cond.fieldLink RX2 19 "EachUndoes$Sheet" "form" "I", Cond.fieldLink RX2 23 "EachUndoes$Sheet" "size" "I", Cond.methodLink RL 105 yX5_sheet, Cond.instanceMethod yX5_sheet, Cond.selects RX5 yX5_sheet yX5_sheet, Cond.code yX5_sheet cX5_sheet 5 (some .int), Cond.methodLink RL 106 yX4_lose, Cond.instanceMethod yX4_lose, Cond.selects RX4 yX4_lose yX4_lose, Cond.code yX4_lose cX4_lose 3 (some .int), Cond.methodLink RL 109 yX5_lose, Cond.instanceMethod yX5_lose, Cond.selects RX5 yX5_lose yX5_lose, Cond.code yX5_lose cX5_lose 2 (some .int), Cond.methodLink RL 110 yX4_lay]
def wsL_law_r25 : List Cond := [Cond.instanceMethod yX4_lay, Cond.selects RX4 yX4_lay yX4_lay, Cond.code yX4_lay cX4_lay 6 (some .int), Cond.instanceMethod yX2_findingAt, Cond.selects RX2 yX2_findingAt yX2_findingAt, Cond.code yX2_findingAt cX2_findingAt 3 (some .int), Cond.instanceMethod yX2_put, Cond.selects RX2 yX2_put yX2_put, Cond.code yX2_put cX2_put 3 none, Cond.methodLink RL 113 yX5_lay, Cond.instanceMethod yX5_lay, Cond.selects RX5 yX5_lay yX5_lay, Cond.code yX5_lay cX5_lay 6 (some .int), Cond.methodLink RX5 64 yX5_lacks, Cond.instanceMethod yX5_lacks, Cond.selects RX5 yX5_lacks yX5_lacks, Cond.code yX5_lacks cX5_lacks 4 (some .int), Cond.methodLink RX5 68 yX5_cut, Cond.static yX5_cut, Cond.code yX5_cut cX5_cut 2 (some .int), Cond.methodLink RL 114 yX4_get, Cond.instanceMethod yX4_get, Cond.selects RX4 yX4_get yX4_get, Cond.code yX4_get cX4_get 5 (some .int)]
def wsL_law_r26 : List Cond := [Cond.constant RX4 179 (-2147483648), Cond.methodLink RL 117 yX5_get, Cond.instanceMethod yX5_get, Cond.selects RX5 yX5_get yX5_get, Cond.code yX5_get cX5_get 4 (some .int), Cond.constant RX5 72 (-2147483648), Cond.methodLink RL 118 yX4_copy, Cond.instanceMethod yX4_copy, Cond.selects RX4 yX4_copy yX4_copy, Cond.code yX4_copy cX4_copy 8 (some .int), Cond.methodLink RX4 186 arraycopyName, Cond.native arraycopyName, Cond.static arraycopyName, Cond.initialized "java/lang/System", Cond.instanceMethod yX2_hasItems, Cond.selects RX2 yX2_hasItems yX2_hasItems, Cond.code yX2_hasItems cX2_hasItems 3 (some .boolean), Cond.methodLink RL 122 yX5_copy, Cond.instanceMethod yX5_copy, Cond.selects RX5 yX5_copy yX5_copy, Cond.code yX5_copy cX5_copy 7 (some .int), Cond.methodLink RL 123 yX4_write, Cond.instanceMethod yX4_write, Cond.selects RX4 yX4_write yX4_write]
def wsL_law_r27 : List Cond := [Cond.code yX4_write cX4_write 6 (some .int), Cond.methodLink RX4 192 Lib.Math.min.name, Cond.methodLink RL 126 yX5_write, Cond.instanceMethod yX5_write, Cond.selects RX5 yX5_write yX5_write, Cond.code yX5_write cX5_write 4 (some .int), Cond.methodLink RL 127 yX4_count, Cond.instanceMethod yX4_count, Cond.selects RX4 yX4_count yX4_count, Cond.code yX4_count cX4_count 3 (some .int), Cond.methodLink RX4 197 yJ6_bitCount_0f7a4, Cond.methodLink RL 130 yX5_count, Cond.instanceMethod yX5_count, Cond.selects RX5 yX5_count yX5_count, Cond.code yX5_count cX5_count 4 (some .int), Cond.methodLink RL 131 yX4_digest, Cond.instanceMethod yX4_digest, Cond.selects RX4 yX4_digest yX4_digest, Cond.code yX4_digest cX4_digest 4 (some .long), Cond.constantLong RX4 202 (17), Cond.methodLink RX4 204 yX4_count, Cond.methodLink RX4 207 yX4_mixed, Cond.static yX4_mixed, Cond.code yX4_mixed cX4_mixed 4 (some .long)]
def wsL_law_r28 : List Cond := [Cond.constantLong RX4 257 (31), Cond.methodLink RX4 211 yX4_fault, Cond.methodLink RX4 213 yX4_judged, Cond.methodLink RX4 216 yX4_withDeeds, Cond.instanceMethod yX4_withDeeds, Cond.selects RX4 yX4_withDeeds yX4_withDeeds, Cond.code yX4_withDeeds cX4_withDeeds 7 (some .long), Cond.methodLink RX4 239 yX4_deed, Cond.methodLink RX4 242 yX4_root, Cond.methodLink RX4 220 yX4_withUndoings, Cond.instanceMethod yX4_withUndoings, Cond.selects RX4 yX4_withUndoings yX4_withUndoings, Cond.code yX4_withUndoings cX4_withUndoings 6 (some .long), Cond.methodLink RX4 245 yX4_holds, Cond.methodLink RX4 248 yX4_by, Cond.methodLink RX4 251 yX4_without, Cond.methodLink RX4 254 yX4_state, Cond.methodLink RX4 223 yX4_fewest, Cond.methodLink RX4 227 yX4_safe, Cond.methodLink RX4 230 yX4_last, Cond.methodLink RX4 233 yX4_often, Cond.methodLink RX4 236 yX4_drawn, Cond.methodLink RL 135 yX5_digest, Cond.instanceMethod yX5_digest]
def wsL_law_r29 : List Cond := [Cond.selects RX5 yX5_digest yX5_digest, Cond.code yX5_digest cX5_digest 5 (some .long), Cond.constantLong RX5 235 (17), Cond.constantLong RX5 237 (31), Cond.methodLink RX5 239 yX5_count, Cond.methodLink RX5 242 yX5_judged, Cond.methodLink RX5 245 yX5_holds]
def wsL_cs : List Cond := (wsL_law_r1 ++ (wsL_law_r2 ++ (wsL_law_r3 ++ (wsL_law_r4 ++ (wsL_law_r5 ++ (wsL_law_r6 ++ (wsL_law_r7 ++ (wsL_law_r8 ++ (wsL_law_r9 ++ (wsL_law_r10 ++ (wsL_law_r11 ++ (wsL_law_r12 ++ (wsL_law_r13 ++ (wsL_law_r14 ++ (wsL_law_r15 ++ (wsL_law_r16 ++ (wsL_law_r17 ++ (wsL_law_r18 ++ (wsL_law_r19 ++ (wsL_law_r20 ++ (wsL_law_r21 ++ (wsL_law_r22 ++ (wsL_law_r23 ++ (wsL_law_r24 ++ (wsL_law_r25 ++ (wsL_law_r26 ++ (wsL_law_r27 ++ (wsL_law_r28 ++ wsL_law_r29))))))))))))))))))))))))))))
def wsL_ly : List Cond := (wsX40 ++ (wsX50 ++ (wsX10 ++ (wsX30 ++ (wsX20 ++ wsX00)))))
def eu_TB : List Cond := wsL_cs ++ wsL_ly
theorem wsL_law_r1_in : ∀ w ∈ wsL_law_r1, w ∈ lw_tbl := by
  unfold wsL_law_r1
  refine List.forall_mem_cons.mpr ⟨List.mem_append_right _ (List.mem_append_left _ (List.mem_of_getElem? (i := 10) rfl)), ?_⟩
  refine List.forall_mem_cons.mpr ⟨List.mem_append_right _ (List.mem_append_left _ (List.mem_of_getElem? (i := 11) rfl)), ?_⟩
  refine List.forall_mem_cons.mpr ⟨List.mem_append_right _ (List.mem_append_left _ (List.mem_of_getElem? (i := 1) rfl)), ?_⟩
  refine List.forall_mem_cons.mpr ⟨List.mem_append_right _ (List.mem_append_right _ (List.mem_append_right _ (List.mem_append_left _ (List.mem_of_getElem? (i := 22) rfl)))), ?_⟩
  refine List.forall_mem_cons.mpr ⟨List.mem_append_right _ (List.mem_append_right _ (List.mem_append_right _ (List.mem_append_left _ (List.mem_of_getElem? (i := 23) rfl)))), ?_⟩
  refine List.forall_mem_cons.mpr ⟨List.mem_append_right _ (List.mem_append_left _ (List.mem_of_getElem? (i := 6) rfl)), ?_⟩
  refine List.forall_mem_cons.mpr ⟨List.mem_append_right _ (List.mem_append_left _ (List.mem_of_getElem? (i := 12) rfl)), ?_⟩
  refine List.forall_mem_cons.mpr ⟨List.mem_append_right _ (List.mem_append_left _ (List.mem_of_getElem? (i := 13) rfl)), ?_⟩
  refine List.forall_mem_cons.mpr ⟨List.mem_append_right _ (List.mem_append_left _ (List.mem_of_getElem? (i := 14) rfl)), ?_⟩
  refine List.forall_mem_cons.mpr ⟨List.mem_append_right _ (List.mem_append_left _ (List.mem_of_getElem? (i := 15) rfl)), ?_⟩
  refine List.forall_mem_cons.mpr ⟨List.mem_append_right _ (List.mem_append_left _ (List.mem_of_getElem? (i := 16) rfl)), ?_⟩
  refine List.forall_mem_cons.mpr ⟨List.mem_append_right _ (List.mem_append_left _ (List.mem_of_getElem? (i := 17) rfl)), ?_⟩
  refine List.forall_mem_cons.mpr ⟨List.mem_append_right _ (List.mem_append_left _ (List.mem_of_getElem? (i := 18) rfl)), ?_⟩
  refine List.forall_mem_cons.mpr ⟨List.mem_append_right _ (List.mem_append_left _ (List.mem_of_getElem? (i := 19) rfl)), ?_⟩
  refine List.forall_mem_cons.mpr ⟨List.mem_append_right _ (List.mem_append_left _ (List.mem_of_getElem? (i := 2) rfl)), ?_⟩
  refine List.forall_mem_cons.mpr ⟨List.mem_append_right _ (List.mem_append_left _ (List.mem_of_getElem? (i := 141) rfl)), ?_⟩
  refine List.forall_mem_cons.mpr ⟨List.mem_append_right _ (List.mem_append_left _ (List.mem_of_getElem? (i := 142) rfl)), ?_⟩
  refine List.forall_mem_cons.mpr ⟨List.mem_append_right _ (List.mem_append_left _ (List.mem_of_getElem? (i := 143) rfl)), ?_⟩
  refine List.forall_mem_cons.mpr ⟨List.mem_append_right _ (List.mem_append_left _ (List.mem_of_getElem? (i := 117) rfl)), ?_⟩
  refine List.forall_mem_cons.mpr ⟨List.mem_append_right _ (List.mem_append_left _ (List.mem_of_getElem? (i := 144) rfl)), ?_⟩
  refine List.forall_mem_cons.mpr ⟨List.mem_append_right _ (List.mem_append_left _ (List.mem_of_getElem? (i := 148) rfl)), ?_⟩
  refine List.forall_mem_cons.mpr ⟨List.mem_append_right _ (List.mem_append_left _ (List.mem_of_getElem? (i := 119) rfl)), ?_⟩
  refine List.forall_mem_cons.mpr ⟨List.mem_append_right _ (List.mem_append_left _ (List.mem_of_getElem? (i := 5) rfl)), ?_⟩
  refine List.forall_mem_cons.mpr ⟨List.mem_append_right _ (List.mem_append_left _ (List.mem_of_getElem? (i := 21) rfl)), ?_⟩
  exact fun _ h => absurd h List.not_mem_nil
theorem wsL_law_r1_ok : wsL_law_r1.all goodWord = true := by decide +kernel
theorem wsL_law_r2_in : ∀ w ∈ wsL_law_r2, w ∈ lw_tbl := by
  unfold wsL_law_r2
  refine List.forall_mem_cons.mpr ⟨List.mem_append_right _ (List.mem_append_left _ (List.mem_of_getElem? (i := 22) rfl)), ?_⟩
  refine List.forall_mem_cons.mpr ⟨List.mem_append_right _ (List.mem_append_left _ (List.mem_of_getElem? (i := 23) rfl)), ?_⟩
  refine List.forall_mem_cons.mpr ⟨List.mem_append_right _ (List.mem_append_left _ (List.mem_of_getElem? (i := 24) rfl)), ?_⟩
  refine List.forall_mem_cons.mpr ⟨List.mem_append_right _ (List.mem_append_left _ (List.mem_of_getElem? (i := 25) rfl)), ?_⟩
  refine List.forall_mem_cons.mpr ⟨List.mem_append_right _ (List.mem_append_left _ (List.mem_of_getElem? (i := 3) rfl)), ?_⟩
  refine List.forall_mem_cons.mpr ⟨List.mem_append_right _ (List.mem_append_left _ (List.mem_of_getElem? (i := 88) rfl)), ?_⟩
  refine List.forall_mem_cons.mpr ⟨List.mem_append_right _ (List.mem_append_left _ (List.mem_of_getElem? (i := 90) rfl)), ?_⟩
  refine List.forall_mem_cons.mpr ⟨List.mem_append_right _ (List.mem_append_left _ (List.mem_of_getElem? (i := 86) rfl)), ?_⟩
  refine List.forall_mem_cons.mpr ⟨List.mem_append_right _ (List.mem_append_left _ (List.mem_of_getElem? (i := 67) rfl)), ?_⟩
  refine List.forall_mem_cons.mpr ⟨List.mem_append_right _ (List.mem_append_left _ (List.mem_of_getElem? (i := 91) rfl)), ?_⟩
  refine List.forall_mem_cons.mpr ⟨List.mem_append_right _ (List.mem_append_left _ (List.mem_of_getElem? (i := 27) rfl)), ?_⟩
  refine List.forall_mem_cons.mpr ⟨List.mem_append_right _ (List.mem_append_left _ (List.mem_of_getElem? (i := 28) rfl)), ?_⟩
  refine List.forall_mem_cons.mpr ⟨List.mem_append_right _ (List.mem_append_left _ (List.mem_of_getElem? (i := 29) rfl)), ?_⟩
  refine List.forall_mem_cons.mpr ⟨List.mem_append_right _ (List.mem_append_left _ (List.mem_of_getElem? (i := 30) rfl)), ?_⟩
  refine List.forall_mem_cons.mpr ⟨List.mem_append_right _ (List.mem_append_left _ (List.mem_of_getElem? (i := 31) rfl)), ?_⟩
  refine List.forall_mem_cons.mpr ⟨List.mem_append_right _ (List.mem_append_left _ (List.mem_of_getElem? (i := 4) rfl)), ?_⟩
  refine List.forall_mem_cons.mpr ⟨List.mem_append_right _ (List.mem_append_left _ (List.mem_of_getElem? (i := 68) rfl)), ?_⟩
  refine List.forall_mem_cons.mpr ⟨List.mem_append_right _ (List.mem_append_left _ (List.mem_of_getElem? (i := 71) rfl)), ?_⟩
  refine List.forall_mem_cons.mpr ⟨List.mem_append_right _ (List.mem_append_left _ (List.mem_of_getElem? (i := 72) rfl)), ?_⟩
  refine List.forall_mem_cons.mpr ⟨List.mem_append_right _ (List.mem_append_left _ (List.mem_of_getElem? (i := 33) rfl)), ?_⟩
  refine List.forall_mem_cons.mpr ⟨List.mem_append_right _ (List.mem_append_left _ (List.mem_of_getElem? (i := 34) rfl)), ?_⟩
  refine List.forall_mem_cons.mpr ⟨List.mem_append_right _ (List.mem_append_left _ (List.mem_of_getElem? (i := 35) rfl)), ?_⟩
  refine List.forall_mem_cons.mpr ⟨List.mem_append_right _ (List.mem_append_left _ (List.mem_of_getElem? (i := 36) rfl)), ?_⟩
  refine List.forall_mem_cons.mpr ⟨List.mem_append_right _ (List.mem_append_left _ (List.mem_of_getElem? (i := 37) rfl)), ?_⟩
  exact fun _ h => absurd h List.not_mem_nil
theorem wsL_law_r2_ok : wsL_law_r2.all goodWord = true := by decide +kernel
theorem wsL_law_r3_in : ∀ w ∈ wsL_law_r3, w ∈ lw_tbl := by
  unfold wsL_law_r3
  refine List.forall_mem_cons.mpr ⟨List.mem_append_right _ (List.mem_append_left _ (List.mem_of_getElem? (i := 40) rfl)), ?_⟩
  refine List.forall_mem_cons.mpr ⟨List.mem_append_right _ (List.mem_append_left _ (List.mem_of_getElem? (i := 50) rfl)), ?_⟩
  refine List.forall_mem_cons.mpr ⟨List.mem_append_right _ (List.mem_append_left _ (List.mem_of_getElem? (i := 121) rfl)), ?_⟩
  refine List.forall_mem_cons.mpr ⟨List.mem_append_right _ (List.mem_append_left _ (List.mem_of_getElem? (i := 122) rfl)), ?_⟩
  refine List.forall_mem_cons.mpr ⟨List.mem_append_right _ (List.mem_append_left _ (List.mem_of_getElem? (i := 123) rfl)), ?_⟩
  refine List.forall_mem_cons.mpr ⟨List.mem_append_right _ (List.mem_append_left _ (List.mem_of_getElem? (i := 124) rfl)), ?_⟩
  refine List.forall_mem_cons.mpr ⟨List.mem_append_right _ (List.mem_append_left _ (List.mem_of_getElem? (i := 126) rfl)), ?_⟩
  refine List.forall_mem_cons.mpr ⟨List.mem_append_right _ (List.mem_append_right _ (List.mem_append_right _ (List.mem_append_left _ (List.mem_of_getElem? (i := 24) rfl)))), ?_⟩
  refine List.forall_mem_cons.mpr ⟨List.mem_append_right _ (List.mem_append_right _ (List.mem_append_right _ (List.mem_append_left _ (List.mem_of_getElem? (i := 25) rfl)))), ?_⟩
  refine List.forall_mem_cons.mpr ⟨List.mem_append_right _ (List.mem_append_right _ (List.mem_append_right _ (List.mem_append_left _ (List.mem_of_getElem? (i := 26) rfl)))), ?_⟩
  refine List.forall_mem_cons.mpr ⟨List.mem_append_right _ (List.mem_append_right _ (List.mem_append_right _ (List.mem_append_left _ (List.mem_of_getElem? (i := 27) rfl)))), ?_⟩
  refine List.forall_mem_cons.mpr ⟨List.mem_append_right _ (List.mem_append_right _ (List.mem_append_right _ (List.mem_append_left _ (List.mem_of_getElem? (i := 28) rfl)))), ?_⟩
  refine List.forall_mem_cons.mpr ⟨List.mem_append_right _ (List.mem_append_right _ (List.mem_append_right _ (List.mem_append_left _ (List.mem_of_getElem? (i := 29) rfl)))), ?_⟩
  refine List.forall_mem_cons.mpr ⟨List.mem_append_right _ (List.mem_append_right _ (List.mem_append_right _ (List.mem_append_left _ (List.mem_of_getElem? (i := 30) rfl)))), ?_⟩
  refine List.forall_mem_cons.mpr ⟨List.mem_append_right _ (List.mem_append_right _ (List.mem_append_right _ (List.mem_append_left _ (List.mem_of_getElem? (i := 31) rfl)))), ?_⟩
  refine List.forall_mem_cons.mpr ⟨List.mem_append_right _ (List.mem_append_right _ (List.mem_append_right _ (List.mem_append_left _ (List.mem_of_getElem? (i := 33) rfl)))), ?_⟩
  refine List.forall_mem_cons.mpr ⟨List.mem_append_right _ (List.mem_append_right _ (List.mem_append_right _ (List.mem_append_left _ (List.mem_of_getElem? (i := 37) rfl)))), ?_⟩
  refine List.forall_mem_cons.mpr ⟨List.mem_append_right _ (List.mem_append_right _ (List.mem_append_right _ (List.mem_append_left _ (List.mem_of_getElem? (i := 39) rfl)))), ?_⟩
  refine List.forall_mem_cons.mpr ⟨List.mem_append_right _ (List.mem_append_right _ (List.mem_append_right _ (List.mem_append_left _ (List.mem_of_getElem? (i := 40) rfl)))), ?_⟩
  refine List.forall_mem_cons.mpr ⟨List.mem_append_right _ (List.mem_append_right _ (List.mem_append_right _ (List.mem_append_left _ (List.mem_of_getElem? (i := 98) rfl)))), ?_⟩
  refine List.forall_mem_cons.mpr ⟨List.mem_append_right _ (List.mem_append_right _ (List.mem_append_right _ (List.mem_append_left _ (List.mem_of_getElem? (i := 41) rfl)))), ?_⟩
  refine List.forall_mem_cons.mpr ⟨List.mem_append_right _ (List.mem_append_right _ (List.mem_append_right _ (List.mem_append_left _ (List.mem_of_getElem? (i := 45) rfl)))), ?_⟩
  refine List.forall_mem_cons.mpr ⟨List.mem_append_right _ (List.mem_append_right _ (List.mem_append_right _ (List.mem_append_left _ (List.mem_of_getElem? (i := 49) rfl)))), ?_⟩
  refine List.forall_mem_cons.mpr ⟨List.mem_append_right _ (List.mem_append_left _ (List.mem_of_getElem? (i := 166) rfl)), ?_⟩
  exact fun _ h => absurd h List.not_mem_nil
theorem wsL_law_r3_ok : wsL_law_r3.all goodWord = true := by decide +kernel
theorem wsL_law_r4_in : ∀ w ∈ wsL_law_r4, w ∈ lw_tbl := by
  unfold wsL_law_r4
  refine List.forall_mem_cons.mpr ⟨List.mem_append_right _ (List.mem_append_left _ (List.mem_of_getElem? (i := 167) rfl)), ?_⟩
  refine List.forall_mem_cons.mpr ⟨List.mem_append_right _ (List.mem_append_left _ (List.mem_of_getElem? (i := 168) rfl)), ?_⟩
  refine List.forall_mem_cons.mpr ⟨List.mem_append_right _ (List.mem_append_left _ (List.mem_of_getElem? (i := 169) rfl)), ?_⟩
  refine List.forall_mem_cons.mpr ⟨List.mem_append_right _ (List.mem_append_left _ (List.mem_of_getElem? (i := 170) rfl)), ?_⟩
  refine List.forall_mem_cons.mpr ⟨List.mem_append_right _ (List.mem_append_left _ (List.mem_of_getElem? (i := 171) rfl)), ?_⟩
  refine List.forall_mem_cons.mpr ⟨List.mem_append_right _ (List.mem_append_left _ (List.mem_of_getElem? (i := 172) rfl)), ?_⟩
  refine List.forall_mem_cons.mpr ⟨List.mem_append_right _ (List.mem_append_left _ (List.mem_of_getElem? (i := 175) rfl)), ?_⟩
  refine List.forall_mem_cons.mpr ⟨List.mem_append_left _ (List.mem_map.mpr ⟨_, List.mem_append_left _ (List.mem_of_getElem? (i := 0) rfl), rfl⟩), ?_⟩
  refine List.forall_mem_cons.mpr ⟨List.mem_append_right _ (List.mem_append_left _ (List.mem_of_getElem? (i := 176) rfl)), ?_⟩
  refine List.forall_mem_cons.mpr ⟨List.mem_append_right _ (List.mem_append_left _ (List.mem_of_getElem? (i := 42) rfl)), ?_⟩
  refine List.forall_mem_cons.mpr ⟨List.mem_append_right _ (List.mem_append_left _ (List.mem_of_getElem? (i := 177) rfl)), ?_⟩
  refine List.forall_mem_cons.mpr ⟨List.mem_append_right _ (List.mem_append_left _ (List.mem_of_getElem? (i := 179) rfl)), ?_⟩
  refine List.forall_mem_cons.mpr ⟨List.mem_append_left _ (List.mem_map.mpr ⟨_, List.mem_append_left _ (List.mem_of_getElem? (i := 1) rfl), rfl⟩), ?_⟩
  refine List.forall_mem_cons.mpr ⟨List.mem_append_right _ (List.mem_append_left _ (List.mem_of_getElem? (i := 180) rfl)), ?_⟩
  refine List.forall_mem_cons.mpr ⟨List.mem_append_right _ (List.mem_append_left _ (List.mem_of_getElem? (i := 44) rfl)), ?_⟩
  refine List.forall_mem_cons.mpr ⟨List.mem_append_right _ (List.mem_append_left _ (List.mem_of_getElem? (i := 48) rfl)), ?_⟩
  refine List.forall_mem_cons.mpr ⟨List.mem_append_right _ (List.mem_append_left _ (List.mem_of_getElem? (i := 181) rfl)), ?_⟩
  refine List.forall_mem_cons.mpr ⟨List.mem_append_right _ (List.mem_append_left _ (List.mem_of_getElem? (i := 183) rfl)), ?_⟩
  refine List.forall_mem_cons.mpr ⟨List.mem_append_left _ (List.mem_map.mpr ⟨_, List.mem_append_left _ (List.mem_of_getElem? (i := 2) rfl), rfl⟩), ?_⟩
  refine List.forall_mem_cons.mpr ⟨List.mem_append_right _ (List.mem_append_left _ (List.mem_of_getElem? (i := 184) rfl)), ?_⟩
  refine List.forall_mem_cons.mpr ⟨List.mem_append_right _ (List.mem_append_left _ (List.mem_of_getElem? (i := 186) rfl)), ?_⟩
  refine List.forall_mem_cons.mpr ⟨List.mem_append_right _ (List.mem_append_left _ (List.mem_of_getElem? (i := 188) rfl)), ?_⟩
  refine List.forall_mem_cons.mpr ⟨List.mem_append_left _ (List.mem_map.mpr ⟨_, List.mem_append_left _ (List.mem_of_getElem? (i := 3) rfl), rfl⟩), ?_⟩
  refine List.forall_mem_cons.mpr ⟨List.mem_append_right _ (List.mem_append_left _ (List.mem_of_getElem? (i := 189) rfl)), ?_⟩
  exact fun _ h => absurd h List.not_mem_nil
theorem wsL_law_r4_ok : wsL_law_r4.all goodWord = true := by decide +kernel
theorem wsL_law_r5_in : ∀ w ∈ wsL_law_r5, w ∈ lw_tbl := by
  unfold wsL_law_r5
  refine List.forall_mem_cons.mpr ⟨List.mem_append_right _ (List.mem_append_left _ (List.mem_of_getElem? (i := 190) rfl)), ?_⟩
  refine List.forall_mem_cons.mpr ⟨List.mem_append_right _ (List.mem_append_left _ (List.mem_of_getElem? (i := 191) rfl)), ?_⟩
  refine List.forall_mem_cons.mpr ⟨List.mem_append_right _ (List.mem_append_left _ (List.mem_of_getElem? (i := 7) rfl)), ?_⟩
  refine List.forall_mem_cons.mpr ⟨List.mem_append_right _ (List.mem_append_left _ (List.mem_of_getElem? (i := 192) rfl)), ?_⟩
  refine List.forall_mem_cons.mpr ⟨List.mem_append_right _ (List.mem_append_left _ (List.mem_of_getElem? (i := 193) rfl)), ?_⟩
  refine List.forall_mem_cons.mpr ⟨List.mem_append_right _ (List.mem_append_left _ (List.mem_of_getElem? (i := 194) rfl)), ?_⟩
  refine List.forall_mem_cons.mpr ⟨List.mem_append_right _ (List.mem_append_left _ (List.mem_of_getElem? (i := 195) rfl)), ?_⟩
  refine List.forall_mem_cons.mpr ⟨List.mem_append_right _ (List.mem_append_right _ (List.mem_append_right _ (List.mem_append_left _ (List.mem_of_getElem? (i := 139) rfl)))), ?_⟩
  refine List.forall_mem_cons.mpr ⟨List.mem_append_right _ (List.mem_append_right _ (List.mem_append_right _ (List.mem_append_left _ (List.mem_of_getElem? (i := 140) rfl)))), ?_⟩
  refine List.forall_mem_cons.mpr ⟨List.mem_append_right _ (List.mem_append_right _ (List.mem_append_right _ (List.mem_append_left _ (List.mem_of_getElem? (i := 141) rfl)))), ?_⟩
  refine List.forall_mem_cons.mpr ⟨List.mem_append_right _ (List.mem_append_right _ (List.mem_append_right _ (List.mem_append_left _ (List.mem_of_getElem? (i := 142) rfl)))), ?_⟩
  refine List.forall_mem_cons.mpr ⟨List.mem_append_right _ (List.mem_append_right _ (List.mem_append_right _ (List.mem_append_left _ (List.mem_of_getElem? (i := 143) rfl)))), ?_⟩
  refine List.forall_mem_cons.mpr ⟨List.mem_append_right _ (List.mem_append_right _ (List.mem_append_right _ (List.mem_append_left _ (List.mem_of_getElem? (i := 34) rfl)))), ?_⟩
  refine List.forall_mem_cons.mpr ⟨List.mem_append_right _ (List.mem_append_right _ (List.mem_append_right _ (List.mem_append_left _ (List.mem_of_getElem? (i := 107) rfl)))), ?_⟩
  refine List.forall_mem_cons.mpr ⟨List.mem_append_right _ (List.mem_append_right _ (List.mem_append_right _ (List.mem_append_left _ (List.mem_of_getElem? (i := 108) rfl)))), ?_⟩
  refine List.forall_mem_cons.mpr ⟨List.mem_append_right _ (List.mem_append_right _ (List.mem_append_right _ (List.mem_append_left _ (List.mem_of_getElem? (i := 109) rfl)))), ?_⟩
  refine List.forall_mem_cons.mpr ⟨List.mem_append_right _ (List.mem_append_left _ (List.mem_of_getElem? (i := 196) rfl)), ?_⟩
  refine List.forall_mem_cons.mpr ⟨List.mem_append_right _ (List.mem_append_left _ (List.mem_of_getElem? (i := 197) rfl)), ?_⟩
  refine List.forall_mem_cons.mpr ⟨List.mem_append_right _ (List.mem_append_left _ (List.mem_of_getElem? (i := 198) rfl)), ?_⟩
  refine List.forall_mem_cons.mpr ⟨List.mem_append_right _ (List.mem_append_left _ (List.mem_of_getElem? (i := 199) rfl)), ?_⟩
  refine List.forall_mem_cons.mpr ⟨List.mem_append_right _ (List.mem_append_left _ (List.mem_of_getElem? (i := 202) rfl)), ?_⟩
  refine List.forall_mem_cons.mpr ⟨List.mem_append_left _ (List.mem_map.mpr ⟨_, List.mem_append_left _ (List.mem_of_getElem? (i := 4) rfl), rfl⟩), ?_⟩
  refine List.forall_mem_cons.mpr ⟨List.mem_append_right _ (List.mem_append_left _ (List.mem_of_getElem? (i := 203) rfl)), ?_⟩
  refine List.forall_mem_cons.mpr ⟨List.mem_append_right _ (List.mem_append_right _ (List.mem_append_right _ (List.mem_append_left _ (List.mem_of_getElem? (i := 144) rfl)))), ?_⟩
  exact fun _ h => absurd h List.not_mem_nil
theorem wsL_law_r5_ok : wsL_law_r5.all goodWord = true := by decide +kernel
theorem wsL_law_r6_in : ∀ w ∈ wsL_law_r6, w ∈ lw_tbl := by
  unfold wsL_law_r6
  refine List.forall_mem_cons.mpr ⟨List.mem_append_right _ (List.mem_append_right _ (List.mem_append_right _ (List.mem_append_left _ (List.mem_of_getElem? (i := 145) rfl)))), ?_⟩
  refine List.forall_mem_cons.mpr ⟨List.mem_append_right _ (List.mem_append_right _ (List.mem_append_right _ (List.mem_append_left _ (List.mem_of_getElem? (i := 146) rfl)))), ?_⟩
  refine List.forall_mem_cons.mpr ⟨List.mem_append_right _ (List.mem_append_right _ (List.mem_append_right _ (List.mem_append_left _ (List.mem_of_getElem? (i := 147) rfl)))), ?_⟩
  refine List.forall_mem_cons.mpr ⟨List.mem_append_right _ (List.mem_append_left _ (List.mem_of_getElem? (i := 204) rfl)), ?_⟩
  refine List.forall_mem_cons.mpr ⟨List.mem_append_right _ (List.mem_append_left _ (List.mem_of_getElem? (i := 205) rfl)), ?_⟩
  refine List.forall_mem_cons.mpr ⟨List.mem_append_right _ (List.mem_append_left _ (List.mem_of_getElem? (i := 206) rfl)), ?_⟩
  refine List.forall_mem_cons.mpr ⟨List.mem_append_right _ (List.mem_append_left _ (List.mem_of_getElem? (i := 207) rfl)), ?_⟩
  refine List.forall_mem_cons.mpr ⟨List.mem_append_right _ (List.mem_append_right _ (List.mem_append_right _ (List.mem_append_left _ (List.mem_of_getElem? (i := 148) rfl)))), ?_⟩
  refine List.forall_mem_cons.mpr ⟨List.mem_append_right _ (List.mem_append_right _ (List.mem_append_right _ (List.mem_append_left _ (List.mem_of_getElem? (i := 149) rfl)))), ?_⟩
  refine List.forall_mem_cons.mpr ⟨List.mem_append_right _ (List.mem_append_right _ (List.mem_append_right _ (List.mem_append_left _ (List.mem_of_getElem? (i := 150) rfl)))), ?_⟩
  refine List.forall_mem_cons.mpr ⟨List.mem_append_right _ (List.mem_append_right _ (List.mem_append_right _ (List.mem_append_left _ (List.mem_of_getElem? (i := 151) rfl)))), ?_⟩
  refine List.forall_mem_cons.mpr ⟨List.mem_append_right _ (List.mem_append_right _ (List.mem_append_right _ (List.mem_append_left _ (List.mem_of_getElem? (i := 152) rfl)))), ?_⟩
  refine List.forall_mem_cons.mpr ⟨List.mem_append_right _ (List.mem_append_right _ (List.mem_append_right _ (List.mem_append_left _ (List.mem_of_getElem? (i := 154) rfl)))), ?_⟩
  refine List.forall_mem_cons.mpr ⟨List.mem_append_left _ (List.mem_map.mpr ⟨_, List.mem_append_right _ (List.mem_append_right _ (List.mem_append_left _ (List.mem_of_getElem? (i := 8) rfl))), rfl⟩), ?_⟩
  refine List.forall_mem_cons.mpr ⟨List.mem_append_right _ (List.mem_append_right _ (List.mem_append_right _ (List.mem_append_left _ (List.mem_of_getElem? (i := 155) rfl)))), ?_⟩
  refine List.forall_mem_cons.mpr ⟨List.mem_append_right _ (List.mem_append_right _ (List.mem_append_right _ (List.mem_append_left _ (List.mem_of_getElem? (i := 35) rfl)))), ?_⟩
  refine List.forall_mem_cons.mpr ⟨List.mem_append_right _ (List.mem_append_right _ (List.mem_append_right _ (List.mem_append_left _ (List.mem_of_getElem? (i := 36) rfl)))), ?_⟩
  refine List.forall_mem_cons.mpr ⟨List.mem_append_right _ (List.mem_append_right _ (List.mem_append_right _ (List.mem_append_left _ (List.mem_of_getElem? (i := 156) rfl)))), ?_⟩
  refine List.forall_mem_cons.mpr ⟨List.mem_append_right _ (List.mem_append_right _ (List.mem_append_right _ (List.mem_append_left _ (List.mem_of_getElem? (i := 158) rfl)))), ?_⟩
  refine List.forall_mem_cons.mpr ⟨List.mem_append_left _ (List.mem_map.mpr ⟨_, List.mem_append_right _ (List.mem_append_right _ (List.mem_append_left _ (List.mem_of_getElem? (i := 9) rfl))), rfl⟩), ?_⟩
  refine List.forall_mem_cons.mpr ⟨List.mem_append_right _ (List.mem_append_right _ (List.mem_append_right _ (List.mem_append_left _ (List.mem_of_getElem? (i := 159) rfl)))), ?_⟩
  refine List.forall_mem_cons.mpr ⟨List.mem_append_right _ (List.mem_append_right _ (List.mem_append_right _ (List.mem_append_left _ (List.mem_of_getElem? (i := 164) rfl)))), ?_⟩
  refine List.forall_mem_cons.mpr ⟨List.mem_append_right _ (List.mem_append_right _ (List.mem_append_right _ (List.mem_append_left _ (List.mem_of_getElem? (i := 160) rfl)))), ?_⟩
  refine List.forall_mem_cons.mpr ⟨List.mem_append_right _ (List.mem_append_right _ (List.mem_append_right _ (List.mem_append_left _ (List.mem_of_getElem? (i := 162) rfl)))), ?_⟩
  exact fun _ h => absurd h List.not_mem_nil
theorem wsL_law_r6_ok : wsL_law_r6.all goodWord = true := by decide +kernel
theorem wsL_law_r7_in : ∀ w ∈ wsL_law_r7, w ∈ lw_tbl := by
  unfold wsL_law_r7
  refine List.forall_mem_cons.mpr ⟨List.mem_append_left _ (List.mem_map.mpr ⟨_, List.mem_append_right _ (List.mem_append_right _ (List.mem_append_left _ (List.mem_of_getElem? (i := 10) rfl))), rfl⟩), ?_⟩
  refine List.forall_mem_cons.mpr ⟨List.mem_append_right _ (List.mem_append_right _ (List.mem_append_right _ (List.mem_append_left _ (List.mem_of_getElem? (i := 163) rfl)))), ?_⟩
  refine List.forall_mem_cons.mpr ⟨List.mem_append_right _ (List.mem_append_right _ (List.mem_append_right _ (List.mem_append_left _ (List.mem_of_getElem? (i := 165) rfl)))), ?_⟩
  refine List.forall_mem_cons.mpr ⟨List.mem_append_right _ (List.mem_append_right _ (List.mem_append_right _ (List.mem_append_left _ (List.mem_of_getElem? (i := 166) rfl)))), ?_⟩
  refine List.forall_mem_cons.mpr ⟨List.mem_append_right _ (List.mem_append_right _ (List.mem_append_right _ (List.mem_append_left _ (List.mem_of_getElem? (i := 167) rfl)))), ?_⟩
  refine List.forall_mem_cons.mpr ⟨List.mem_append_right _ (List.mem_append_right _ (List.mem_append_right _ (List.mem_append_left _ (List.mem_of_getElem? (i := 168) rfl)))), ?_⟩
  refine List.forall_mem_cons.mpr ⟨List.mem_append_right _ (List.mem_append_right _ (List.mem_append_right _ (List.mem_append_left _ (List.mem_of_getElem? (i := 170) rfl)))), ?_⟩
  refine List.forall_mem_cons.mpr ⟨List.mem_append_left _ (List.mem_map.mpr ⟨_, List.mem_append_right _ (List.mem_append_right _ (List.mem_append_left _ (List.mem_of_getElem? (i := 11) rfl))), rfl⟩), ?_⟩
  refine List.forall_mem_cons.mpr ⟨List.mem_append_right _ (List.mem_append_right _ (List.mem_append_right _ (List.mem_append_left _ (List.mem_of_getElem? (i := 171) rfl)))), ?_⟩
  refine List.forall_mem_cons.mpr ⟨List.mem_append_right _ (List.mem_append_left _ (List.mem_of_getElem? (i := 208) rfl)), ?_⟩
  refine List.forall_mem_cons.mpr ⟨List.mem_append_right _ (List.mem_append_left _ (List.mem_of_getElem? (i := 209) rfl)), ?_⟩
  refine List.forall_mem_cons.mpr ⟨List.mem_append_right _ (List.mem_append_left _ (List.mem_of_getElem? (i := 210) rfl)), ?_⟩
  refine List.forall_mem_cons.mpr ⟨List.mem_append_right _ (List.mem_append_left _ (List.mem_of_getElem? (i := 211) rfl)), ?_⟩
  refine List.forall_mem_cons.mpr ⟨List.mem_append_right _ (List.mem_append_left _ (List.mem_of_getElem? (i := 212) rfl)), ?_⟩
  refine List.forall_mem_cons.mpr ⟨List.mem_append_right _ (List.mem_append_left _ (List.mem_of_getElem? (i := 213) rfl)), ?_⟩
  refine List.forall_mem_cons.mpr ⟨List.mem_append_right _ (List.mem_append_left _ (List.mem_of_getElem? (i := 214) rfl)), ?_⟩
  refine List.forall_mem_cons.mpr ⟨List.mem_append_right _ (List.mem_append_right _ (List.mem_append_right _ (List.mem_append_left _ (List.mem_of_getElem? (i := 172) rfl)))), ?_⟩
  refine List.forall_mem_cons.mpr ⟨List.mem_append_right _ (List.mem_append_right _ (List.mem_append_right _ (List.mem_append_left _ (List.mem_of_getElem? (i := 173) rfl)))), ?_⟩
  refine List.forall_mem_cons.mpr ⟨List.mem_append_right _ (List.mem_append_right _ (List.mem_append_right _ (List.mem_append_left _ (List.mem_of_getElem? (i := 174) rfl)))), ?_⟩
  refine List.forall_mem_cons.mpr ⟨List.mem_append_right _ (List.mem_append_right _ (List.mem_append_right _ (List.mem_append_left _ (List.mem_of_getElem? (i := 175) rfl)))), ?_⟩
  refine List.forall_mem_cons.mpr ⟨List.mem_append_right _ (List.mem_append_right _ (List.mem_append_right _ (List.mem_append_left _ (List.mem_of_getElem? (i := 110) rfl)))), ?_⟩
  refine List.forall_mem_cons.mpr ⟨List.mem_append_right _ (List.mem_append_right _ (List.mem_append_right _ (List.mem_append_left _ (List.mem_of_getElem? (i := 176) rfl)))), ?_⟩
  refine List.forall_mem_cons.mpr ⟨List.mem_append_right _ (List.mem_append_right _ (List.mem_append_right _ (List.mem_append_left _ (List.mem_of_getElem? (i := 178) rfl)))), ?_⟩
  refine List.forall_mem_cons.mpr ⟨List.mem_append_left _ (List.mem_map.mpr ⟨_, List.mem_append_right _ (List.mem_append_right _ (List.mem_append_left _ (List.mem_of_getElem? (i := 12) rfl))), rfl⟩), ?_⟩
  exact fun _ h => absurd h List.not_mem_nil
theorem wsL_law_r7_ok : wsL_law_r7.all goodWord = true := by decide +kernel
theorem wsL_law_r8_in : ∀ w ∈ wsL_law_r8, w ∈ lw_tbl := by
  unfold wsL_law_r8
  refine List.forall_mem_cons.mpr ⟨List.mem_append_right _ (List.mem_append_right _ (List.mem_append_right _ (List.mem_append_left _ (List.mem_of_getElem? (i := 179) rfl)))), ?_⟩
  refine List.forall_mem_cons.mpr ⟨List.mem_append_right _ (List.mem_append_left _ (List.mem_of_getElem? (i := 215) rfl)), ?_⟩
  refine List.forall_mem_cons.mpr ⟨List.mem_append_right _ (List.mem_append_left _ (List.mem_of_getElem? (i := 216) rfl)), ?_⟩
  refine List.forall_mem_cons.mpr ⟨List.mem_append_right _ (List.mem_append_left _ (List.mem_of_getElem? (i := 217) rfl)), ?_⟩
  refine List.forall_mem_cons.mpr ⟨List.mem_append_right _ (List.mem_append_left _ (List.mem_of_getElem? (i := 218) rfl)), ?_⟩
  refine List.forall_mem_cons.mpr ⟨List.mem_append_right _ (List.mem_append_left _ (List.mem_of_getElem? (i := 221) rfl)), ?_⟩
  refine List.forall_mem_cons.mpr ⟨List.mem_append_left _ (List.mem_map.mpr ⟨_, List.mem_append_left _ (List.mem_of_getElem? (i := 5) rfl), rfl⟩), ?_⟩
  refine List.forall_mem_cons.mpr ⟨List.mem_append_right _ (List.mem_append_left _ (List.mem_of_getElem? (i := 222) rfl)), ?_⟩
  refine List.forall_mem_cons.mpr ⟨List.mem_append_right _ (List.mem_append_left _ (List.mem_of_getElem? (i := 74) rfl)), ?_⟩
  refine List.forall_mem_cons.mpr ⟨List.mem_append_right _ (List.mem_append_right _ (List.mem_append_right _ (List.mem_append_left _ (List.mem_of_getElem? (i := 180) rfl)))), ?_⟩
  refine List.forall_mem_cons.mpr ⟨List.mem_append_right _ (List.mem_append_right _ (List.mem_append_right _ (List.mem_append_left _ (List.mem_of_getElem? (i := 181) rfl)))), ?_⟩
  refine List.forall_mem_cons.mpr ⟨List.mem_append_right _ (List.mem_append_right _ (List.mem_append_right _ (List.mem_append_left _ (List.mem_of_getElem? (i := 182) rfl)))), ?_⟩
  refine List.forall_mem_cons.mpr ⟨List.mem_append_right _ (List.mem_append_right _ (List.mem_append_right _ (List.mem_append_left _ (List.mem_of_getElem? (i := 183) rfl)))), ?_⟩
  refine List.forall_mem_cons.mpr ⟨List.mem_append_right _ (List.mem_append_right _ (List.mem_append_right _ (List.mem_append_left _ (List.mem_of_getElem? (i := 184) rfl)))), ?_⟩
  refine List.forall_mem_cons.mpr ⟨List.mem_append_right _ (List.mem_append_right _ (List.mem_append_right _ (List.mem_append_left _ (List.mem_of_getElem? (i := 38) rfl)))), ?_⟩
  refine List.forall_mem_cons.mpr ⟨List.mem_append_right _ (List.mem_append_right _ (List.mem_append_right _ (List.mem_append_left _ (List.mem_of_getElem? (i := 185) rfl)))), ?_⟩
  refine List.forall_mem_cons.mpr ⟨List.mem_append_right _ (List.mem_append_right _ (List.mem_append_right _ (List.mem_append_left _ (List.mem_of_getElem? (i := 187) rfl)))), ?_⟩
  refine List.forall_mem_cons.mpr ⟨List.mem_append_left _ (List.mem_map.mpr ⟨_, List.mem_append_right _ (List.mem_append_right _ (List.mem_append_left _ (List.mem_of_getElem? (i := 13) rfl))), rfl⟩), ?_⟩
  refine List.forall_mem_cons.mpr ⟨List.mem_append_right _ (List.mem_append_right _ (List.mem_append_right _ (List.mem_append_left _ (List.mem_of_getElem? (i := 188) rfl)))), ?_⟩
  refine List.forall_mem_cons.mpr ⟨List.mem_append_right _ (List.mem_append_left _ (List.mem_of_getElem? (i := 223) rfl)), ?_⟩
  refine List.forall_mem_cons.mpr ⟨List.mem_append_right _ (List.mem_append_left _ (List.mem_of_getElem? (i := 224) rfl)), ?_⟩
  refine List.forall_mem_cons.mpr ⟨List.mem_append_right _ (List.mem_append_left _ (List.mem_of_getElem? (i := 225) rfl)), ?_⟩
  refine List.forall_mem_cons.mpr ⟨List.mem_append_right _ (List.mem_append_left _ (List.mem_of_getElem? (i := 226) rfl)), ?_⟩
  refine List.forall_mem_cons.mpr ⟨List.mem_append_right _ (List.mem_append_left _ (List.mem_of_getElem? (i := 227) rfl)), ?_⟩
  exact fun _ h => absurd h List.not_mem_nil
theorem wsL_law_r8_ok : wsL_law_r8.all goodWord = true := by decide +kernel
theorem wsL_law_r9_in : ∀ w ∈ wsL_law_r9, w ∈ lw_tbl := by
  unfold wsL_law_r9
  refine List.forall_mem_cons.mpr ⟨List.mem_append_right _ (List.mem_append_left _ (List.mem_of_getElem? (i := 229) rfl)), ?_⟩
  refine List.forall_mem_cons.mpr ⟨List.mem_append_left _ (List.mem_map.mpr ⟨_, List.mem_append_left _ (List.mem_of_getElem? (i := 6) rfl), rfl⟩), ?_⟩
  refine List.forall_mem_cons.mpr ⟨List.mem_append_right _ (List.mem_append_left _ (List.mem_of_getElem? (i := 230) rfl)), ?_⟩
  refine List.forall_mem_cons.mpr ⟨List.mem_append_right _ (List.mem_append_right _ (List.mem_append_right _ (List.mem_append_left _ (List.mem_of_getElem? (i := 189) rfl)))), ?_⟩
  refine List.forall_mem_cons.mpr ⟨List.mem_append_right _ (List.mem_append_right _ (List.mem_append_right _ (List.mem_append_left _ (List.mem_of_getElem? (i := 190) rfl)))), ?_⟩
  refine List.forall_mem_cons.mpr ⟨List.mem_append_right _ (List.mem_append_right _ (List.mem_append_right _ (List.mem_append_left _ (List.mem_of_getElem? (i := 191) rfl)))), ?_⟩
  refine List.forall_mem_cons.mpr ⟨List.mem_append_right _ (List.mem_append_right _ (List.mem_append_right _ (List.mem_append_left _ (List.mem_of_getElem? (i := 192) rfl)))), ?_⟩
  refine List.forall_mem_cons.mpr ⟨List.mem_append_right _ (List.mem_append_right _ (List.mem_append_right _ (List.mem_append_left _ (List.mem_of_getElem? (i := 103) rfl)))), ?_⟩
  refine List.forall_mem_cons.mpr ⟨List.mem_append_right _ (List.mem_append_right _ (List.mem_append_right _ (List.mem_append_left _ (List.mem_of_getElem? (i := 104) rfl)))), ?_⟩
  refine List.forall_mem_cons.mpr ⟨List.mem_append_right _ (List.mem_append_right _ (List.mem_append_right _ (List.mem_append_left _ (List.mem_of_getElem? (i := 105) rfl)))), ?_⟩
  refine List.forall_mem_cons.mpr ⟨List.mem_append_right _ (List.mem_append_right _ (List.mem_append_right _ (List.mem_append_left _ (List.mem_of_getElem? (i := 106) rfl)))), ?_⟩
  refine List.forall_mem_cons.mpr ⟨List.mem_append_right _ (List.mem_append_right _ (List.mem_append_right _ (List.mem_append_left _ (List.mem_of_getElem? (i := 111) rfl)))), ?_⟩
  refine List.forall_mem_cons.mpr ⟨List.mem_append_right _ (List.mem_append_right _ (List.mem_append_right _ (List.mem_append_left _ (List.mem_of_getElem? (i := 113) rfl)))), ?_⟩
  refine List.forall_mem_cons.mpr ⟨List.mem_append_left _ (List.mem_map.mpr ⟨_, List.mem_append_right _ (List.mem_append_right _ (List.mem_append_left _ (List.mem_of_getElem? (i := 6) rfl))), rfl⟩), ?_⟩
  refine List.forall_mem_cons.mpr ⟨List.mem_append_right _ (List.mem_append_right _ (List.mem_append_right _ (List.mem_append_left _ (List.mem_of_getElem? (i := 114) rfl)))), ?_⟩
  refine List.forall_mem_cons.mpr ⟨List.mem_append_right _ (List.mem_append_right _ (List.mem_append_right _ (List.mem_append_left _ (List.mem_of_getElem? (i := 32) rfl)))), ?_⟩
  refine List.forall_mem_cons.mpr ⟨List.mem_append_right _ (List.mem_append_right _ (List.mem_append_right _ (List.mem_append_left _ (List.mem_of_getElem? (i := 193) rfl)))), ?_⟩
  refine List.forall_mem_cons.mpr ⟨List.mem_append_right _ (List.mem_append_left _ (List.mem_of_getElem? (i := 231) rfl)), ?_⟩
  refine List.forall_mem_cons.mpr ⟨List.mem_append_right _ (List.mem_append_left _ (List.mem_of_getElem? (i := 232) rfl)), ?_⟩
  refine List.forall_mem_cons.mpr ⟨List.mem_append_right _ (List.mem_append_left _ (List.mem_of_getElem? (i := 233) rfl)), ?_⟩
  refine List.forall_mem_cons.mpr ⟨List.mem_append_right _ (List.mem_append_left _ (List.mem_of_getElem? (i := 234) rfl)), ?_⟩
  refine List.forall_mem_cons.mpr ⟨List.mem_append_right _ (List.mem_append_right _ (List.mem_append_right _ (List.mem_append_left _ (List.mem_of_getElem? (i := 194) rfl)))), ?_⟩
  refine List.forall_mem_cons.mpr ⟨List.mem_append_right _ (List.mem_append_right _ (List.mem_append_right _ (List.mem_append_left _ (List.mem_of_getElem? (i := 195) rfl)))), ?_⟩
  refine List.forall_mem_cons.mpr ⟨List.mem_append_right _ (List.mem_append_right _ (List.mem_append_right _ (List.mem_append_left _ (List.mem_of_getElem? (i := 196) rfl)))), ?_⟩
  exact fun _ h => absurd h List.not_mem_nil
theorem wsL_law_r9_ok : wsL_law_r9.all goodWord = true := by decide +kernel
theorem wsL_law_r10_in : ∀ w ∈ wsL_law_r10, w ∈ lw_tbl := by
  unfold wsL_law_r10
  refine List.forall_mem_cons.mpr ⟨List.mem_append_right _ (List.mem_append_right _ (List.mem_append_right _ (List.mem_append_left _ (List.mem_of_getElem? (i := 197) rfl)))), ?_⟩
  refine List.forall_mem_cons.mpr ⟨List.mem_append_right _ (List.mem_append_left _ (List.mem_of_getElem? (i := 235) rfl)), ?_⟩
  refine List.forall_mem_cons.mpr ⟨List.mem_append_right _ (List.mem_append_left _ (List.mem_of_getElem? (i := 236) rfl)), ?_⟩
  refine List.forall_mem_cons.mpr ⟨List.mem_append_right _ (List.mem_append_left _ (List.mem_of_getElem? (i := 237) rfl)), ?_⟩
  refine List.forall_mem_cons.mpr ⟨List.mem_append_right _ (List.mem_append_left _ (List.mem_of_getElem? (i := 238) rfl)), ?_⟩
  refine List.forall_mem_cons.mpr ⟨List.mem_append_right _ (List.mem_append_right _ (List.mem_append_right _ (List.mem_append_left _ (List.mem_of_getElem? (i := 198) rfl)))), ?_⟩
  refine List.forall_mem_cons.mpr ⟨List.mem_append_right _ (List.mem_append_right _ (List.mem_append_right _ (List.mem_append_left _ (List.mem_of_getElem? (i := 199) rfl)))), ?_⟩
  refine List.forall_mem_cons.mpr ⟨List.mem_append_right _ (List.mem_append_right _ (List.mem_append_right _ (List.mem_append_left _ (List.mem_of_getElem? (i := 200) rfl)))), ?_⟩
  refine List.forall_mem_cons.mpr ⟨List.mem_append_right _ (List.mem_append_right _ (List.mem_append_right _ (List.mem_append_left _ (List.mem_of_getElem? (i := 201) rfl)))), ?_⟩
  refine List.forall_mem_cons.mpr ⟨List.mem_append_right _ (List.mem_append_right _ (List.mem_append_right _ (List.mem_append_left _ (List.mem_of_getElem? (i := 202) rfl)))), ?_⟩
  refine List.forall_mem_cons.mpr ⟨List.mem_append_right _ (List.mem_append_right _ (List.mem_append_right _ (List.mem_append_left _ (List.mem_of_getElem? (i := 203) rfl)))), ?_⟩
  refine List.forall_mem_cons.mpr ⟨List.mem_append_right _ (List.mem_append_right _ (List.mem_append_right _ (List.mem_append_left _ (List.mem_of_getElem? (i := 204) rfl)))), ?_⟩
  refine List.forall_mem_cons.mpr ⟨List.mem_append_right _ (List.mem_append_left _ (List.mem_of_getElem? (i := 239) rfl)), ?_⟩
  refine List.forall_mem_cons.mpr ⟨List.mem_append_right _ (List.mem_append_right _ (List.mem_append_left _ (List.mem_of_getElem? (i := 0) rfl))), ?_⟩
  refine List.forall_mem_cons.mpr ⟨List.mem_append_right _ (List.mem_append_right _ (List.mem_append_left _ (List.mem_of_getElem? (i := 1) rfl))), ?_⟩
  refine List.forall_mem_cons.mpr ⟨List.mem_append_right _ (List.mem_append_right _ (List.mem_append_left _ (List.mem_of_getElem? (i := 2) rfl))), ?_⟩
  refine List.forall_mem_cons.mpr ⟨List.mem_append_right _ (List.mem_append_right _ (List.mem_append_left _ (List.mem_of_getElem? (i := 5) rfl))), ?_⟩
  refine List.forall_mem_cons.mpr ⟨List.mem_append_left _ (List.mem_map.mpr ⟨_, List.mem_append_left _ (List.mem_of_getElem? (i := 7) rfl), rfl⟩), ?_⟩
  refine List.forall_mem_cons.mpr ⟨List.mem_append_right _ (List.mem_append_right _ (List.mem_append_left _ (List.mem_of_getElem? (i := 6) rfl))), ?_⟩
  refine List.forall_mem_cons.mpr ⟨List.mem_append_right _ (List.mem_append_right _ (List.mem_append_left _ (List.mem_of_getElem? (i := 7) rfl))), ?_⟩
  refine List.forall_mem_cons.mpr ⟨List.mem_append_right _ (List.mem_append_right _ (List.mem_append_left _ (List.mem_of_getElem? (i := 9) rfl))), ?_⟩
  refine List.forall_mem_cons.mpr ⟨List.mem_append_left _ (List.mem_map.mpr ⟨_, List.mem_append_left _ (List.mem_of_getElem? (i := 8) rfl), rfl⟩), ?_⟩
  refine List.forall_mem_cons.mpr ⟨List.mem_append_right _ (List.mem_append_right _ (List.mem_append_left _ (List.mem_of_getElem? (i := 10) rfl))), ?_⟩
  refine List.forall_mem_cons.mpr ⟨List.mem_append_right _ (List.mem_append_right _ (List.mem_append_right _ (List.mem_append_left _ (List.mem_of_getElem? (i := 205) rfl)))), ?_⟩
  exact fun _ h => absurd h List.not_mem_nil
theorem wsL_law_r10_ok : wsL_law_r10.all goodWord = true := by decide +kernel
theorem wsL_law_r11_in : ∀ w ∈ wsL_law_r11, w ∈ lw_tbl := by
  unfold wsL_law_r11
  refine List.forall_mem_cons.mpr ⟨List.mem_append_right _ (List.mem_append_right _ (List.mem_append_right _ (List.mem_append_left _ (List.mem_of_getElem? (i := 206) rfl)))), ?_⟩
  refine List.forall_mem_cons.mpr ⟨List.mem_append_right _ (List.mem_append_right _ (List.mem_append_right _ (List.mem_append_left _ (List.mem_of_getElem? (i := 207) rfl)))), ?_⟩
  refine List.forall_mem_cons.mpr ⟨List.mem_append_right _ (List.mem_append_right _ (List.mem_append_right _ (List.mem_append_left _ (List.mem_of_getElem? (i := 208) rfl)))), ?_⟩
  refine List.forall_mem_cons.mpr ⟨List.mem_append_right _ (List.mem_append_right _ (List.mem_append_right _ (List.mem_append_left _ (List.mem_of_getElem? (i := 43) rfl)))), ?_⟩
  refine List.forall_mem_cons.mpr ⟨List.mem_append_right _ (List.mem_append_right _ (List.mem_append_right _ (List.mem_append_left _ (List.mem_of_getElem? (i := 209) rfl)))), ?_⟩
  refine List.forall_mem_cons.mpr ⟨List.mem_append_right _ (List.mem_append_right _ (List.mem_append_right _ (List.mem_append_left _ (List.mem_of_getElem? (i := 211) rfl)))), ?_⟩
  refine List.forall_mem_cons.mpr ⟨List.mem_append_left _ (List.mem_map.mpr ⟨_, List.mem_append_right _ (List.mem_append_right _ (List.mem_append_left _ (List.mem_of_getElem? (i := 14) rfl))), rfl⟩), ?_⟩
  refine List.forall_mem_cons.mpr ⟨List.mem_append_right _ (List.mem_append_right _ (List.mem_append_right _ (List.mem_append_left _ (List.mem_of_getElem? (i := 212) rfl)))), ?_⟩
  refine List.forall_mem_cons.mpr ⟨List.mem_append_right _ (List.mem_append_right _ (List.mem_append_right _ (List.mem_append_left _ (List.mem_of_getElem? (i := 213) rfl)))), ?_⟩
  refine List.forall_mem_cons.mpr ⟨List.mem_append_right _ (List.mem_append_right _ (List.mem_append_right _ (List.mem_append_left _ (List.mem_of_getElem? (i := 215) rfl)))), ?_⟩
  refine List.forall_mem_cons.mpr ⟨List.mem_append_left _ (List.mem_map.mpr ⟨_, List.mem_append_right _ (List.mem_append_right _ (List.mem_append_left _ (List.mem_of_getElem? (i := 15) rfl))), rfl⟩), ?_⟩
  refine List.forall_mem_cons.mpr ⟨List.mem_append_right _ (List.mem_append_right _ (List.mem_append_right _ (List.mem_append_left _ (List.mem_of_getElem? (i := 216) rfl)))), ?_⟩
  refine List.forall_mem_cons.mpr ⟨List.mem_append_right _ (List.mem_append_right _ (List.mem_append_right _ (List.mem_append_left _ (List.mem_of_getElem? (i := 42) rfl)))), ?_⟩
  refine List.forall_mem_cons.mpr ⟨List.mem_append_right _ (List.mem_append_right _ (List.mem_append_right _ (List.mem_append_left _ (List.mem_of_getElem? (i := 44) rfl)))), ?_⟩
  refine List.forall_mem_cons.mpr ⟨List.mem_append_right _ (List.mem_append_right _ (List.mem_append_right _ (List.mem_append_left _ (List.mem_of_getElem? (i := 217) rfl)))), ?_⟩
  refine List.forall_mem_cons.mpr ⟨List.mem_append_right _ (List.mem_append_right _ (List.mem_append_right _ (List.mem_append_left _ (List.mem_of_getElem? (i := 219) rfl)))), ?_⟩
  refine List.forall_mem_cons.mpr ⟨List.mem_append_left _ (List.mem_map.mpr ⟨_, List.mem_append_right _ (List.mem_append_right _ (List.mem_append_right _ (List.mem_append_left _ (List.mem_of_getElem? (i := 0) rfl)))), rfl⟩), ?_⟩
  refine List.forall_mem_cons.mpr ⟨List.mem_append_right _ (List.mem_append_right _ (List.mem_append_right _ (List.mem_append_left _ (List.mem_of_getElem? (i := 220) rfl)))), ?_⟩
  refine List.forall_mem_cons.mpr ⟨List.mem_append_right _ (List.mem_append_right _ (List.mem_append_right _ (List.mem_append_left _ (List.mem_of_getElem? (i := 221) rfl)))), ?_⟩
  refine List.forall_mem_cons.mpr ⟨List.mem_append_right _ (List.mem_append_right _ (List.mem_append_right _ (List.mem_append_left _ (List.mem_of_getElem? (i := 222) rfl)))), ?_⟩
  refine List.forall_mem_cons.mpr ⟨List.mem_append_right _ (List.mem_append_right _ (List.mem_append_right _ (List.mem_append_left _ (List.mem_of_getElem? (i := 223) rfl)))), ?_⟩
  refine List.forall_mem_cons.mpr ⟨List.mem_append_right _ (List.mem_append_right _ (List.mem_append_left _ (List.mem_of_getElem? (i := 12) rfl))), ?_⟩
  refine List.forall_mem_cons.mpr ⟨List.mem_append_right _ (List.mem_append_right _ (List.mem_append_left _ (List.mem_of_getElem? (i := 13) rfl))), ?_⟩
  refine List.forall_mem_cons.mpr ⟨List.mem_append_right _ (List.mem_append_right _ (List.mem_append_left _ (List.mem_of_getElem? (i := 14) rfl))), ?_⟩
  exact fun _ h => absurd h List.not_mem_nil
theorem wsL_law_r11_ok : wsL_law_r11.all goodWord = true := by decide +kernel
theorem wsL_law_r12_in : ∀ w ∈ wsL_law_r12, w ∈ lw_tbl := by
  unfold wsL_law_r12
  refine List.forall_mem_cons.mpr ⟨List.mem_append_right _ (List.mem_append_right _ (List.mem_append_left _ (List.mem_of_getElem? (i := 15) rfl))), ?_⟩
  refine List.forall_mem_cons.mpr ⟨List.mem_append_right _ (List.mem_append_right _ (List.mem_append_left _ (List.mem_of_getElem? (i := 18) rfl))), ?_⟩
  refine List.forall_mem_cons.mpr ⟨List.mem_append_left _ (List.mem_map.mpr ⟨_, List.mem_append_left _ (List.mem_of_getElem? (i := 9) rfl), rfl⟩), ?_⟩
  refine List.forall_mem_cons.mpr ⟨List.mem_append_right _ (List.mem_append_right _ (List.mem_append_left _ (List.mem_of_getElem? (i := 19) rfl))), ?_⟩
  refine List.forall_mem_cons.mpr ⟨List.mem_append_right _ (List.mem_append_right _ (List.mem_append_right _ (List.mem_append_left _ (List.mem_of_getElem? (i := 224) rfl)))), ?_⟩
  refine List.forall_mem_cons.mpr ⟨List.mem_append_right _ (List.mem_append_right _ (List.mem_append_right _ (List.mem_append_left _ (List.mem_of_getElem? (i := 225) rfl)))), ?_⟩
  refine List.forall_mem_cons.mpr ⟨List.mem_append_right _ (List.mem_append_right _ (List.mem_append_right _ (List.mem_append_left _ (List.mem_of_getElem? (i := 226) rfl)))), ?_⟩
  refine List.forall_mem_cons.mpr ⟨List.mem_append_right _ (List.mem_append_right _ (List.mem_append_right _ (List.mem_append_left _ (List.mem_of_getElem? (i := 227) rfl)))), ?_⟩
  refine List.forall_mem_cons.mpr ⟨List.mem_append_right _ (List.mem_append_right _ (List.mem_append_right _ (List.mem_append_left _ (List.mem_of_getElem? (i := 228) rfl)))), ?_⟩
  refine List.forall_mem_cons.mpr ⟨List.mem_append_right _ (List.mem_append_right _ (List.mem_append_right _ (List.mem_append_left _ (List.mem_of_getElem? (i := 230) rfl)))), ?_⟩
  refine List.forall_mem_cons.mpr ⟨List.mem_append_left _ (List.mem_map.mpr ⟨_, List.mem_append_right _ (List.mem_append_right _ (List.mem_append_right _ (List.mem_append_left _ (List.mem_of_getElem? (i := 1) rfl)))), rfl⟩), ?_⟩
  refine List.forall_mem_cons.mpr ⟨List.mem_append_right _ (List.mem_append_right _ (List.mem_append_right _ (List.mem_append_left _ (List.mem_of_getElem? (i := 231) rfl)))), ?_⟩
  refine List.forall_mem_cons.mpr ⟨List.mem_append_right _ (List.mem_append_right _ (List.mem_append_left _ (List.mem_of_getElem? (i := 20) rfl))), ?_⟩
  refine List.forall_mem_cons.mpr ⟨List.mem_append_right _ (List.mem_append_right _ (List.mem_append_left _ (List.mem_of_getElem? (i := 21) rfl))), ?_⟩
  refine List.forall_mem_cons.mpr ⟨List.mem_append_right _ (List.mem_append_right _ (List.mem_append_left _ (List.mem_of_getElem? (i := 22) rfl))), ?_⟩
  refine List.forall_mem_cons.mpr ⟨List.mem_append_right _ (List.mem_append_right _ (List.mem_append_left _ (List.mem_of_getElem? (i := 23) rfl))), ?_⟩
  refine List.forall_mem_cons.mpr ⟨List.mem_append_right _ (List.mem_append_right _ (List.mem_append_left _ (List.mem_of_getElem? (i := 24) rfl))), ?_⟩
  refine List.forall_mem_cons.mpr ⟨List.mem_append_right _ (List.mem_append_right _ (List.mem_append_left _ (List.mem_of_getElem? (i := 26) rfl))), ?_⟩
  refine List.forall_mem_cons.mpr ⟨List.mem_append_left _ (List.mem_map.mpr ⟨_, List.mem_append_left _ (List.mem_of_getElem? (i := 10) rfl), rfl⟩), ?_⟩
  refine List.forall_mem_cons.mpr ⟨List.mem_append_right _ (List.mem_append_right _ (List.mem_append_left _ (List.mem_of_getElem? (i := 27) rfl))), ?_⟩
  refine List.forall_mem_cons.mpr ⟨List.mem_append_right _ (List.mem_append_right _ (List.mem_append_left _ (List.mem_of_getElem? (i := 30) rfl))), ?_⟩
  refine List.forall_mem_cons.mpr ⟨List.mem_append_left _ (List.mem_map.mpr ⟨_, List.mem_append_left _ (List.mem_of_getElem? (i := 11) rfl), rfl⟩), ?_⟩
  refine List.forall_mem_cons.mpr ⟨List.mem_append_right _ (List.mem_append_right _ (List.mem_append_left _ (List.mem_of_getElem? (i := 31) rfl))), ?_⟩
  refine List.forall_mem_cons.mpr ⟨List.mem_append_right _ (List.mem_append_right _ (List.mem_append_left _ (List.mem_of_getElem? (i := 32) rfl))), ?_⟩
  exact fun _ h => absurd h List.not_mem_nil
theorem wsL_law_r12_ok : wsL_law_r12.all goodWord = true := by decide +kernel
theorem wsL_law_r13_in : ∀ w ∈ wsL_law_r13, w ∈ lw_tbl := by
  unfold wsL_law_r13
  refine List.forall_mem_cons.mpr ⟨List.mem_append_right _ (List.mem_append_right _ (List.mem_append_left _ (List.mem_of_getElem? (i := 34) rfl))), ?_⟩
  refine List.forall_mem_cons.mpr ⟨List.mem_append_right _ (List.mem_append_right _ (List.mem_append_left _ (List.mem_of_getElem? (i := 35) rfl))), ?_⟩
  refine List.forall_mem_cons.mpr ⟨List.mem_append_right _ (List.mem_append_right _ (List.mem_append_left _ (List.mem_of_getElem? (i := 38) rfl))), ?_⟩
  refine List.forall_mem_cons.mpr ⟨List.mem_append_left _ (List.mem_map.mpr ⟨_, List.mem_append_left _ (List.mem_of_getElem? (i := 12) rfl), rfl⟩), ?_⟩
  refine List.forall_mem_cons.mpr ⟨List.mem_append_right _ (List.mem_append_right _ (List.mem_append_left _ (List.mem_of_getElem? (i := 39) rfl))), ?_⟩
  refine List.forall_mem_cons.mpr ⟨List.mem_append_right _ (List.mem_append_right _ (List.mem_append_left _ (List.mem_of_getElem? (i := 40) rfl))), ?_⟩
  refine List.forall_mem_cons.mpr ⟨List.mem_append_right _ (List.mem_append_right _ (List.mem_append_left _ (List.mem_of_getElem? (i := 42) rfl))), ?_⟩
  refine List.forall_mem_cons.mpr ⟨List.mem_append_left _ (List.mem_map.mpr ⟨_, List.mem_append_left _ (List.mem_of_getElem? (i := 13) rfl), rfl⟩), ?_⟩
  refine List.forall_mem_cons.mpr ⟨List.mem_append_right _ (List.mem_append_right _ (List.mem_append_left _ (List.mem_of_getElem? (i := 43) rfl))), ?_⟩
  refine List.forall_mem_cons.mpr ⟨List.mem_append_right _ (List.mem_append_right _ (List.mem_append_left _ (List.mem_of_getElem? (i := 44) rfl))), ?_⟩
  refine List.forall_mem_cons.mpr ⟨List.mem_append_right _ (List.mem_append_right _ (List.mem_append_left _ (List.mem_of_getElem? (i := 47) rfl))), ?_⟩
  refine List.forall_mem_cons.mpr ⟨List.mem_append_left _ (List.mem_map.mpr ⟨_, List.mem_append_left _ (List.mem_of_getElem? (i := 14) rfl), rfl⟩), ?_⟩
  refine List.forall_mem_cons.mpr ⟨List.mem_append_right _ (List.mem_append_right _ (List.mem_append_left _ (List.mem_of_getElem? (i := 48) rfl))), ?_⟩
  refine List.forall_mem_cons.mpr ⟨List.mem_append_right _ (List.mem_append_right _ (List.mem_append_left _ (List.mem_of_getElem? (i := 50) rfl))), ?_⟩
  refine List.forall_mem_cons.mpr ⟨List.mem_append_right _ (List.mem_append_right _ (List.mem_append_left _ (List.mem_of_getElem? (i := 52) rfl))), ?_⟩
  refine List.forall_mem_cons.mpr ⟨List.mem_append_left _ (List.mem_map.mpr ⟨_, List.mem_append_left _ (List.mem_of_getElem? (i := 15) rfl), rfl⟩), ?_⟩
  refine List.forall_mem_cons.mpr ⟨List.mem_append_right _ (List.mem_append_right _ (List.mem_append_left _ (List.mem_of_getElem? (i := 53) rfl))), ?_⟩
  refine List.forall_mem_cons.mpr ⟨List.mem_append_right _ (List.mem_append_right _ (List.mem_append_left _ (List.mem_of_getElem? (i := 56) rfl))), ?_⟩
  refine List.forall_mem_cons.mpr ⟨List.mem_append_left _ (List.mem_map.mpr ⟨_, List.mem_append_right _ (List.mem_append_left _ (List.mem_of_getElem? (i := 0) rfl)), rfl⟩), ?_⟩
  refine List.forall_mem_cons.mpr ⟨List.mem_append_right _ (List.mem_append_right _ (List.mem_append_left _ (List.mem_of_getElem? (i := 57) rfl))), ?_⟩
  refine List.forall_mem_cons.mpr ⟨List.mem_append_right _ (List.mem_append_right _ (List.mem_append_right _ (List.mem_append_left _ (List.mem_of_getElem? (i := 232) rfl)))), ?_⟩
  refine List.forall_mem_cons.mpr ⟨List.mem_append_right _ (List.mem_append_right _ (List.mem_append_right _ (List.mem_append_left _ (List.mem_of_getElem? (i := 233) rfl)))), ?_⟩
  refine List.forall_mem_cons.mpr ⟨List.mem_append_right _ (List.mem_append_right _ (List.mem_append_right _ (List.mem_append_left _ (List.mem_of_getElem? (i := 234) rfl)))), ?_⟩
  refine List.forall_mem_cons.mpr ⟨List.mem_append_right _ (List.mem_append_right _ (List.mem_append_right _ (List.mem_append_left _ (List.mem_of_getElem? (i := 235) rfl)))), ?_⟩
  exact fun _ h => absurd h List.not_mem_nil
theorem wsL_law_r13_ok : wsL_law_r13.all goodWord = true := by decide +kernel
theorem wsL_law_r14_in : ∀ w ∈ wsL_law_r14, w ∈ lw_tbl := by
  unfold wsL_law_r14
  refine List.forall_mem_cons.mpr ⟨List.mem_append_right _ (List.mem_append_right _ (List.mem_append_right _ (List.mem_append_left _ (List.mem_of_getElem? (i := 236) rfl)))), ?_⟩
  refine List.forall_mem_cons.mpr ⟨List.mem_append_right _ (List.mem_append_right _ (List.mem_append_right _ (List.mem_append_left _ (List.mem_of_getElem? (i := 237) rfl)))), ?_⟩
  refine List.forall_mem_cons.mpr ⟨List.mem_append_right _ (List.mem_append_right _ (List.mem_append_right _ (List.mem_append_left _ (List.mem_of_getElem? (i := 238) rfl)))), ?_⟩
  refine List.forall_mem_cons.mpr ⟨List.mem_append_right _ (List.mem_append_right _ (List.mem_append_right _ (List.mem_append_left _ (List.mem_of_getElem? (i := 239) rfl)))), ?_⟩
  refine List.forall_mem_cons.mpr ⟨List.mem_append_right _ (List.mem_append_right _ (List.mem_append_right _ (List.mem_append_right _ (List.mem_of_getElem? (i := 1) rfl)))), ?_⟩
  refine List.forall_mem_cons.mpr ⟨List.mem_append_left _ (List.mem_map.mpr ⟨_, List.mem_append_right _ (List.mem_append_right _ (List.mem_append_right _ (List.mem_append_left _ (List.mem_of_getElem? (i := 2) rfl)))), rfl⟩), ?_⟩
  refine List.forall_mem_cons.mpr ⟨List.mem_append_right _ (List.mem_append_right _ (List.mem_append_right _ (List.mem_append_right _ (List.mem_of_getElem? (i := 2) rfl)))), ?_⟩
  refine List.forall_mem_cons.mpr ⟨List.mem_append_right _ (List.mem_append_right _ (List.mem_append_right _ (List.mem_append_right _ (List.mem_of_getElem? (i := 3) rfl)))), ?_⟩
  refine List.forall_mem_cons.mpr ⟨List.mem_append_right _ (List.mem_append_right _ (List.mem_append_right _ (List.mem_append_right _ (List.mem_of_getElem? (i := 5) rfl)))), ?_⟩
  refine List.forall_mem_cons.mpr ⟨List.mem_append_left _ (List.mem_map.mpr ⟨_, List.mem_append_right _ (List.mem_append_right _ (List.mem_append_right _ (List.mem_append_left _ (List.mem_of_getElem? (i := 3) rfl)))), rfl⟩), ?_⟩
  refine List.forall_mem_cons.mpr ⟨List.mem_append_right _ (List.mem_append_right _ (List.mem_append_right _ (List.mem_append_right _ (List.mem_of_getElem? (i := 6) rfl)))), ?_⟩
  refine List.forall_mem_cons.mpr ⟨List.mem_append_right _ (List.mem_append_right _ (List.mem_append_right _ (List.mem_append_right _ (List.mem_of_getElem? (i := 7) rfl)))), ?_⟩
  refine List.forall_mem_cons.mpr ⟨List.mem_append_right _ (List.mem_append_right _ (List.mem_append_right _ (List.mem_append_right _ (List.mem_of_getElem? (i := 9) rfl)))), ?_⟩
  refine List.forall_mem_cons.mpr ⟨List.mem_append_left _ (List.mem_map.mpr ⟨_, List.mem_append_right _ (List.mem_append_right _ (List.mem_append_right _ (List.mem_append_left _ (List.mem_of_getElem? (i := 4) rfl)))), rfl⟩), ?_⟩
  refine List.forall_mem_cons.mpr ⟨List.mem_append_right _ (List.mem_append_right _ (List.mem_append_right _ (List.mem_append_right _ (List.mem_of_getElem? (i := 10) rfl)))), ?_⟩
  refine List.forall_mem_cons.mpr ⟨List.mem_append_right _ (List.mem_append_right _ (List.mem_append_left _ (List.mem_of_getElem? (i := 58) rfl))), ?_⟩
  refine List.forall_mem_cons.mpr ⟨List.mem_append_right _ (List.mem_append_right _ (List.mem_append_left _ (List.mem_of_getElem? (i := 59) rfl))), ?_⟩
  refine List.forall_mem_cons.mpr ⟨List.mem_append_right _ (List.mem_append_right _ (List.mem_append_left _ (List.mem_of_getElem? (i := 60) rfl))), ?_⟩
  refine List.forall_mem_cons.mpr ⟨List.mem_append_right _ (List.mem_append_right _ (List.mem_append_left _ (List.mem_of_getElem? (i := 61) rfl))), ?_⟩
  refine List.forall_mem_cons.mpr ⟨List.mem_append_right _ (List.mem_append_right _ (List.mem_append_left _ (List.mem_of_getElem? (i := 65) rfl))), ?_⟩
  refine List.forall_mem_cons.mpr ⟨List.mem_append_left _ (List.mem_map.mpr ⟨_, List.mem_append_right _ (List.mem_append_left _ (List.mem_of_getElem? (i := 1) rfl)), rfl⟩), ?_⟩
  refine List.forall_mem_cons.mpr ⟨List.mem_append_right _ (List.mem_append_right _ (List.mem_append_left _ (List.mem_of_getElem? (i := 66) rfl))), ?_⟩
  refine List.forall_mem_cons.mpr ⟨List.mem_append_right _ (List.mem_append_right _ (List.mem_append_right _ (List.mem_append_right _ (List.mem_of_getElem? (i := 11) rfl)))), ?_⟩
  refine List.forall_mem_cons.mpr ⟨List.mem_append_right _ (List.mem_append_right _ (List.mem_append_right _ (List.mem_append_right _ (List.mem_of_getElem? (i := 12) rfl)))), ?_⟩
  exact fun _ h => absurd h List.not_mem_nil
theorem wsL_law_r14_ok : wsL_law_r14.all goodWord = true := by decide +kernel
theorem wsL_law_r15_in : ∀ w ∈ wsL_law_r15, w ∈ lw_tbl := by
  unfold wsL_law_r15
  refine List.forall_mem_cons.mpr ⟨List.mem_append_right _ (List.mem_append_right _ (List.mem_append_right _ (List.mem_append_right _ (List.mem_of_getElem? (i := 13) rfl)))), ?_⟩
  refine List.forall_mem_cons.mpr ⟨List.mem_append_right _ (List.mem_append_right _ (List.mem_append_right _ (List.mem_append_right _ (List.mem_of_getElem? (i := 14) rfl)))), ?_⟩
  refine List.forall_mem_cons.mpr ⟨List.mem_append_right _ (List.mem_append_right _ (List.mem_append_right _ (List.mem_append_right _ (List.mem_of_getElem? (i := 15) rfl)))), ?_⟩
  refine List.forall_mem_cons.mpr ⟨List.mem_append_right _ (List.mem_append_right _ (List.mem_append_right _ (List.mem_append_right _ (List.mem_of_getElem? (i := 17) rfl)))), ?_⟩
  refine List.forall_mem_cons.mpr ⟨List.mem_append_left _ (List.mem_map.mpr ⟨_, List.mem_append_right _ (List.mem_append_right _ (List.mem_append_right _ (List.mem_append_left _ (List.mem_of_getElem? (i := 5) rfl)))), rfl⟩), ?_⟩
  refine List.forall_mem_cons.mpr ⟨List.mem_append_right _ (List.mem_append_right _ (List.mem_append_right _ (List.mem_append_right _ (List.mem_of_getElem? (i := 18) rfl)))), ?_⟩
  refine List.forall_mem_cons.mpr ⟨List.mem_append_right _ (List.mem_append_right _ (List.mem_append_left _ (List.mem_of_getElem? (i := 68) rfl))), ?_⟩
  refine List.forall_mem_cons.mpr ⟨List.mem_append_right _ (List.mem_append_right _ (List.mem_append_left _ (List.mem_of_getElem? (i := 69) rfl))), ?_⟩
  refine List.forall_mem_cons.mpr ⟨List.mem_append_right _ (List.mem_append_right _ (List.mem_append_left _ (List.mem_of_getElem? (i := 70) rfl))), ?_⟩
  refine List.forall_mem_cons.mpr ⟨List.mem_append_right _ (List.mem_append_right _ (List.mem_append_left _ (List.mem_of_getElem? (i := 71) rfl))), ?_⟩
  refine List.forall_mem_cons.mpr ⟨List.mem_append_right _ (List.mem_append_right _ (List.mem_append_right _ (List.mem_append_right _ (List.mem_of_getElem? (i := 19) rfl)))), ?_⟩
  refine List.forall_mem_cons.mpr ⟨List.mem_append_right _ (List.mem_append_right _ (List.mem_append_right _ (List.mem_append_right _ (List.mem_of_getElem? (i := 20) rfl)))), ?_⟩
  refine List.forall_mem_cons.mpr ⟨List.mem_append_right _ (List.mem_append_right _ (List.mem_append_right _ (List.mem_append_right _ (List.mem_of_getElem? (i := 21) rfl)))), ?_⟩
  refine List.forall_mem_cons.mpr ⟨List.mem_append_right _ (List.mem_append_right _ (List.mem_append_right _ (List.mem_append_right _ (List.mem_of_getElem? (i := 22) rfl)))), ?_⟩
  refine List.forall_mem_cons.mpr ⟨List.mem_append_right _ (List.mem_append_right _ (List.mem_append_right _ (List.mem_append_right _ (List.mem_of_getElem? (i := 23) rfl)))), ?_⟩
  refine List.forall_mem_cons.mpr ⟨List.mem_append_right _ (List.mem_append_right _ (List.mem_append_right _ (List.mem_append_right _ (List.mem_of_getElem? (i := 25) rfl)))), ?_⟩
  refine List.forall_mem_cons.mpr ⟨List.mem_append_left _ (List.mem_map.mpr ⟨_, List.mem_append_right _ (List.mem_append_right _ (List.mem_append_right _ (List.mem_append_left _ (List.mem_of_getElem? (i := 6) rfl)))), rfl⟩), ?_⟩
  refine List.forall_mem_cons.mpr ⟨List.mem_append_right _ (List.mem_append_right _ (List.mem_append_right _ (List.mem_append_right _ (List.mem_of_getElem? (i := 26) rfl)))), ?_⟩
  refine List.forall_mem_cons.mpr ⟨List.mem_append_right _ (List.mem_append_right _ (List.mem_append_left _ (List.mem_of_getElem? (i := 72) rfl))), ?_⟩
  refine List.forall_mem_cons.mpr ⟨List.mem_append_right _ (List.mem_append_right _ (List.mem_append_left _ (List.mem_of_getElem? (i := 73) rfl))), ?_⟩
  refine List.forall_mem_cons.mpr ⟨List.mem_append_right _ (List.mem_append_right _ (List.mem_append_left _ (List.mem_of_getElem? (i := 74) rfl))), ?_⟩
  refine List.forall_mem_cons.mpr ⟨List.mem_append_right _ (List.mem_append_right _ (List.mem_append_left _ (List.mem_of_getElem? (i := 75) rfl))), ?_⟩
  refine List.forall_mem_cons.mpr ⟨List.mem_append_right _ (List.mem_append_right _ (List.mem_append_left _ (List.mem_of_getElem? (i := 76) rfl))), ?_⟩
  refine List.forall_mem_cons.mpr ⟨List.mem_append_right _ (List.mem_append_right _ (List.mem_append_left _ (List.mem_of_getElem? (i := 77) rfl))), ?_⟩
  exact fun _ h => absurd h List.not_mem_nil
theorem wsL_law_r15_ok : wsL_law_r15.all goodWord = true := by decide +kernel
theorem wsL_law_r16_in : ∀ w ∈ wsL_law_r16, w ∈ lw_tbl := by
  unfold wsL_law_r16
  refine List.forall_mem_cons.mpr ⟨List.mem_append_right _ (List.mem_append_right _ (List.mem_append_left _ (List.mem_of_getElem? (i := 78) rfl))), ?_⟩
  refine List.forall_mem_cons.mpr ⟨List.mem_append_right _ (List.mem_append_right _ (List.mem_append_right _ (List.mem_append_right _ (List.mem_of_getElem? (i := 27) rfl)))), ?_⟩
  refine List.forall_mem_cons.mpr ⟨List.mem_append_right _ (List.mem_append_right _ (List.mem_append_right _ (List.mem_append_right _ (List.mem_of_getElem? (i := 28) rfl)))), ?_⟩
  refine List.forall_mem_cons.mpr ⟨List.mem_append_right _ (List.mem_append_right _ (List.mem_append_right _ (List.mem_append_right _ (List.mem_of_getElem? (i := 29) rfl)))), ?_⟩
  refine List.forall_mem_cons.mpr ⟨List.mem_append_right _ (List.mem_append_right _ (List.mem_append_right _ (List.mem_append_right _ (List.mem_of_getElem? (i := 30) rfl)))), ?_⟩
  refine List.forall_mem_cons.mpr ⟨List.mem_append_right _ (List.mem_append_right _ (List.mem_append_right _ (List.mem_append_right _ (List.mem_of_getElem? (i := 31) rfl)))), ?_⟩
  refine List.forall_mem_cons.mpr ⟨List.mem_append_right _ (List.mem_append_right _ (List.mem_append_right _ (List.mem_append_right _ (List.mem_of_getElem? (i := 33) rfl)))), ?_⟩
  refine List.forall_mem_cons.mpr ⟨List.mem_append_left _ (List.mem_map.mpr ⟨_, List.mem_append_right _ (List.mem_append_right _ (List.mem_append_right _ (List.mem_append_left _ (List.mem_of_getElem? (i := 7) rfl)))), rfl⟩), ?_⟩
  refine List.forall_mem_cons.mpr ⟨List.mem_append_right _ (List.mem_append_right _ (List.mem_append_right _ (List.mem_append_right _ (List.mem_of_getElem? (i := 34) rfl)))), ?_⟩
  refine List.forall_mem_cons.mpr ⟨List.mem_append_right _ (List.mem_append_right _ (List.mem_append_right _ (List.mem_append_right _ (List.mem_of_getElem? (i := 35) rfl)))), ?_⟩
  refine List.forall_mem_cons.mpr ⟨List.mem_append_right _ (List.mem_append_right _ (List.mem_append_right _ (List.mem_append_right _ (List.mem_of_getElem? (i := 36) rfl)))), ?_⟩
  refine List.forall_mem_cons.mpr ⟨List.mem_append_right _ (List.mem_append_right _ (List.mem_append_right _ (List.mem_append_right _ (List.mem_of_getElem? (i := 37) rfl)))), ?_⟩
  refine List.forall_mem_cons.mpr ⟨List.mem_append_right _ (List.mem_append_right _ (List.mem_append_left _ (List.mem_of_getElem? (i := 79) rfl))), ?_⟩
  refine List.forall_mem_cons.mpr ⟨List.mem_append_right _ (List.mem_append_right _ (List.mem_append_left _ (List.mem_of_getElem? (i := 80) rfl))), ?_⟩
  refine List.forall_mem_cons.mpr ⟨List.mem_append_right _ (List.mem_append_right _ (List.mem_append_left _ (List.mem_of_getElem? (i := 81) rfl))), ?_⟩
  refine List.forall_mem_cons.mpr ⟨List.mem_append_right _ (List.mem_append_right _ (List.mem_append_left _ (List.mem_of_getElem? (i := 82) rfl))), ?_⟩
  refine List.forall_mem_cons.mpr ⟨List.mem_append_right _ (List.mem_append_right _ (List.mem_append_left _ (List.mem_of_getElem? (i := 85) rfl))), ?_⟩
  refine List.forall_mem_cons.mpr ⟨List.mem_append_left _ (List.mem_map.mpr ⟨_, List.mem_append_right _ (List.mem_append_left _ (List.mem_of_getElem? (i := 2) rfl)), rfl⟩), ?_⟩
  refine List.forall_mem_cons.mpr ⟨List.mem_append_right _ (List.mem_append_right _ (List.mem_append_left _ (List.mem_of_getElem? (i := 86) rfl))), ?_⟩
  refine List.forall_mem_cons.mpr ⟨List.mem_append_right _ (List.mem_append_left _ (List.mem_of_getElem? (i := 93) rfl)), ?_⟩
  refine List.forall_mem_cons.mpr ⟨List.mem_append_right _ (List.mem_append_left _ (List.mem_of_getElem? (i := 94) rfl)), ?_⟩
  refine List.forall_mem_cons.mpr ⟨List.mem_append_right _ (List.mem_append_right _ (List.mem_append_left _ (List.mem_of_getElem? (i := 91) rfl))), ?_⟩
  refine List.forall_mem_cons.mpr ⟨List.mem_append_left _ (List.mem_map.mpr ⟨_, List.mem_append_right _ (List.mem_append_left _ (List.mem_of_getElem? (i := 3) rfl)), rfl⟩), ?_⟩
  refine List.forall_mem_cons.mpr ⟨List.mem_append_right _ (List.mem_append_right _ (List.mem_append_left _ (List.mem_of_getElem? (i := 92) rfl))), ?_⟩
  exact fun _ h => absurd h List.not_mem_nil
theorem wsL_law_r16_ok : wsL_law_r16.all goodWord = true := by decide +kernel
theorem wsL_law_r17_in : ∀ w ∈ wsL_law_r17, w ∈ lw_tbl := by
  unfold wsL_law_r17
  refine List.forall_mem_cons.mpr ⟨List.mem_append_right _ (List.mem_append_right _ (List.mem_append_left _ (List.mem_of_getElem? (i := 97) rfl))), ?_⟩
  refine List.forall_mem_cons.mpr ⟨List.mem_append_left _ (List.mem_map.mpr ⟨_, List.mem_append_right _ (List.mem_append_left _ (List.mem_of_getElem? (i := 4) rfl)), rfl⟩), ?_⟩
  refine List.forall_mem_cons.mpr ⟨List.mem_append_right _ (List.mem_append_right _ (List.mem_append_left _ (List.mem_of_getElem? (i := 98) rfl))), ?_⟩
  refine List.forall_mem_cons.mpr ⟨List.mem_append_right _ (List.mem_append_right _ (List.mem_append_left _ (List.mem_of_getElem? (i := 102) rfl))), ?_⟩
  refine List.forall_mem_cons.mpr ⟨List.mem_append_left _ (List.mem_map.mpr ⟨_, List.mem_append_right _ (List.mem_append_left _ (List.mem_of_getElem? (i := 5) rfl)), rfl⟩), ?_⟩
  refine List.forall_mem_cons.mpr ⟨List.mem_append_right _ (List.mem_append_right _ (List.mem_append_left _ (List.mem_of_getElem? (i := 103) rfl))), ?_⟩
  refine List.forall_mem_cons.mpr ⟨List.mem_append_right _ (List.mem_append_right _ (List.mem_append_left _ (List.mem_of_getElem? (i := 104) rfl))), ?_⟩
  refine List.forall_mem_cons.mpr ⟨List.mem_append_right _ (List.mem_append_right _ (List.mem_append_left _ (List.mem_of_getElem? (i := 106) rfl))), ?_⟩
  refine List.forall_mem_cons.mpr ⟨List.mem_append_left _ (List.mem_map.mpr ⟨_, List.mem_append_right _ (List.mem_append_left _ (List.mem_of_getElem? (i := 6) rfl)), rfl⟩), ?_⟩
  refine List.forall_mem_cons.mpr ⟨List.mem_append_right _ (List.mem_append_right _ (List.mem_append_left _ (List.mem_of_getElem? (i := 107) rfl))), ?_⟩
  refine List.forall_mem_cons.mpr ⟨List.mem_append_right _ (List.mem_append_right _ (List.mem_append_left _ (List.mem_of_getElem? (i := 108) rfl))), ?_⟩
  refine List.forall_mem_cons.mpr ⟨List.mem_append_right _ (List.mem_append_right _ (List.mem_append_left _ (List.mem_of_getElem? (i := 110) rfl))), ?_⟩
  refine List.forall_mem_cons.mpr ⟨List.mem_append_left _ (List.mem_map.mpr ⟨_, List.mem_append_right _ (List.mem_append_left _ (List.mem_of_getElem? (i := 7) rfl)), rfl⟩), ?_⟩
  refine List.forall_mem_cons.mpr ⟨List.mem_append_right _ (List.mem_append_right _ (List.mem_append_left _ (List.mem_of_getElem? (i := 111) rfl))), ?_⟩
  refine List.forall_mem_cons.mpr ⟨List.mem_append_right _ (List.mem_append_right _ (List.mem_append_left _ (List.mem_of_getElem? (i := 114) rfl))), ?_⟩
  refine List.forall_mem_cons.mpr ⟨List.mem_append_right _ (List.mem_append_right _ (List.mem_append_left _ (List.mem_of_getElem? (i := 115) rfl))), ?_⟩
  refine List.forall_mem_cons.mpr ⟨List.mem_append_right _ (List.mem_append_right _ (List.mem_append_right _ (List.mem_append_right _ (List.mem_of_getElem? (i := 38) rfl)))), ?_⟩
  refine List.forall_mem_cons.mpr ⟨List.mem_append_right _ (List.mem_append_right _ (List.mem_append_right _ (List.mem_append_right _ (List.mem_of_getElem? (i := 39) rfl)))), ?_⟩
  refine List.forall_mem_cons.mpr ⟨List.mem_append_right _ (List.mem_append_right _ (List.mem_append_right _ (List.mem_append_right _ (List.mem_of_getElem? (i := 40) rfl)))), ?_⟩
  refine List.forall_mem_cons.mpr ⟨List.mem_append_right _ (List.mem_append_right _ (List.mem_append_right _ (List.mem_append_right _ (List.mem_of_getElem? (i := 41) rfl)))), ?_⟩
  refine List.forall_mem_cons.mpr ⟨List.mem_append_right _ (List.mem_append_right _ (List.mem_append_right _ (List.mem_append_right _ (List.mem_of_getElem? (i := 42) rfl)))), ?_⟩
  refine List.forall_mem_cons.mpr ⟨List.mem_append_right _ (List.mem_append_right _ (List.mem_append_right _ (List.mem_append_right _ (List.mem_of_getElem? (i := 43) rfl)))), ?_⟩
  refine List.forall_mem_cons.mpr ⟨List.mem_append_right _ (List.mem_append_right _ (List.mem_append_right _ (List.mem_append_right _ (List.mem_of_getElem? (i := 45) rfl)))), ?_⟩
  refine List.forall_mem_cons.mpr ⟨List.mem_append_left _ (List.mem_map.mpr ⟨_, List.mem_append_right _ (List.mem_append_right _ (List.mem_append_right _ (List.mem_append_left _ (List.mem_of_getElem? (i := 8) rfl)))), rfl⟩), ?_⟩
  exact fun _ h => absurd h List.not_mem_nil
theorem wsL_law_r17_ok : wsL_law_r17.all goodWord = true := by decide +kernel
theorem wsL_law_r18_in : ∀ w ∈ wsL_law_r18, w ∈ lw_tbl := by
  unfold wsL_law_r18
  refine List.forall_mem_cons.mpr ⟨List.mem_append_right _ (List.mem_append_right _ (List.mem_append_right _ (List.mem_append_right _ (List.mem_of_getElem? (i := 46) rfl)))), ?_⟩
  refine List.forall_mem_cons.mpr ⟨List.mem_append_right _ (List.mem_append_right _ (List.mem_append_right _ (List.mem_append_right _ (List.mem_of_getElem? (i := 47) rfl)))), ?_⟩
  refine List.forall_mem_cons.mpr ⟨List.mem_append_right _ (List.mem_append_right _ (List.mem_append_right _ (List.mem_append_right _ (List.mem_of_getElem? (i := 49) rfl)))), ?_⟩
  refine List.forall_mem_cons.mpr ⟨List.mem_append_left _ (List.mem_map.mpr ⟨_, List.mem_append_right _ (List.mem_append_right _ (List.mem_append_right _ (List.mem_append_left _ (List.mem_of_getElem? (i := 9) rfl)))), rfl⟩), ?_⟩
  refine List.forall_mem_cons.mpr ⟨List.mem_append_right _ (List.mem_append_right _ (List.mem_append_right _ (List.mem_append_right _ (List.mem_of_getElem? (i := 50) rfl)))), ?_⟩
  refine List.forall_mem_cons.mpr ⟨List.mem_append_right _ (List.mem_append_right _ (List.mem_append_right _ (List.mem_append_right _ (List.mem_of_getElem? (i := 51) rfl)))), ?_⟩
  refine List.forall_mem_cons.mpr ⟨List.mem_append_right _ (List.mem_append_right _ (List.mem_append_right _ (List.mem_append_right _ (List.mem_of_getElem? (i := 53) rfl)))), ?_⟩
  refine List.forall_mem_cons.mpr ⟨List.mem_append_left _ (List.mem_map.mpr ⟨_, List.mem_append_right _ (List.mem_append_right _ (List.mem_append_right _ (List.mem_append_left _ (List.mem_of_getElem? (i := 10) rfl)))), rfl⟩), ?_⟩
  refine List.forall_mem_cons.mpr ⟨List.mem_append_right _ (List.mem_append_right _ (List.mem_append_right _ (List.mem_append_right _ (List.mem_of_getElem? (i := 54) rfl)))), ?_⟩
  refine List.forall_mem_cons.mpr ⟨List.mem_append_right _ (List.mem_append_right _ (List.mem_append_right _ (List.mem_append_right _ (List.mem_of_getElem? (i := 55) rfl)))), ?_⟩
  refine List.forall_mem_cons.mpr ⟨List.mem_append_right _ (List.mem_append_right _ (List.mem_append_right _ (List.mem_append_right _ (List.mem_of_getElem? (i := 57) rfl)))), ?_⟩
  refine List.forall_mem_cons.mpr ⟨List.mem_append_left _ (List.mem_map.mpr ⟨_, List.mem_append_right _ (List.mem_append_right _ (List.mem_append_right _ (List.mem_append_left _ (List.mem_of_getElem? (i := 11) rfl)))), rfl⟩), ?_⟩
  refine List.forall_mem_cons.mpr ⟨List.mem_append_right _ (List.mem_append_right _ (List.mem_append_right _ (List.mem_append_right _ (List.mem_of_getElem? (i := 58) rfl)))), ?_⟩
  refine List.forall_mem_cons.mpr ⟨List.mem_append_right _ (List.mem_append_right _ (List.mem_append_left _ (List.mem_of_getElem? (i := 116) rfl))), ?_⟩
  refine List.forall_mem_cons.mpr ⟨List.mem_append_right _ (List.mem_append_right _ (List.mem_append_left _ (List.mem_of_getElem? (i := 117) rfl))), ?_⟩
  refine List.forall_mem_cons.mpr ⟨List.mem_append_right _ (List.mem_append_right _ (List.mem_append_left _ (List.mem_of_getElem? (i := 118) rfl))), ?_⟩
  refine List.forall_mem_cons.mpr ⟨List.mem_append_right _ (List.mem_append_right _ (List.mem_append_left _ (List.mem_of_getElem? (i := 119) rfl))), ?_⟩
  refine List.forall_mem_cons.mpr ⟨List.mem_append_right _ (List.mem_append_right _ (List.mem_append_left _ (List.mem_of_getElem? (i := 122) rfl))), ?_⟩
  refine List.forall_mem_cons.mpr ⟨List.mem_append_left _ (List.mem_map.mpr ⟨_, List.mem_append_right _ (List.mem_append_left _ (List.mem_of_getElem? (i := 8) rfl)), rfl⟩), ?_⟩
  refine List.forall_mem_cons.mpr ⟨List.mem_append_right _ (List.mem_append_right _ (List.mem_append_left _ (List.mem_of_getElem? (i := 123) rfl))), ?_⟩
  refine List.forall_mem_cons.mpr ⟨List.mem_append_right _ (List.mem_append_right _ (List.mem_append_right _ (List.mem_append_right _ (List.mem_of_getElem? (i := 59) rfl)))), ?_⟩
  refine List.forall_mem_cons.mpr ⟨List.mem_append_right _ (List.mem_append_right _ (List.mem_append_right _ (List.mem_append_right _ (List.mem_of_getElem? (i := 60) rfl)))), ?_⟩
  refine List.forall_mem_cons.mpr ⟨List.mem_append_right _ (List.mem_append_right _ (List.mem_append_right _ (List.mem_append_right _ (List.mem_of_getElem? (i := 61) rfl)))), ?_⟩
  refine List.forall_mem_cons.mpr ⟨List.mem_append_right _ (List.mem_append_right _ (List.mem_append_right _ (List.mem_append_right _ (List.mem_of_getElem? (i := 62) rfl)))), ?_⟩
  exact fun _ h => absurd h List.not_mem_nil
theorem wsL_law_r18_ok : wsL_law_r18.all goodWord = true := by decide +kernel
theorem wsL_law_r19_in : ∀ w ∈ wsL_law_r19, w ∈ lw_tbl := by
  unfold wsL_law_r19
  refine List.forall_mem_cons.mpr ⟨List.mem_append_right _ (List.mem_append_right _ (List.mem_append_right _ (List.mem_append_right _ (List.mem_of_getElem? (i := 63) rfl)))), ?_⟩
  refine List.forall_mem_cons.mpr ⟨List.mem_append_right _ (List.mem_append_right _ (List.mem_append_right _ (List.mem_append_right _ (List.mem_of_getElem? (i := 65) rfl)))), ?_⟩
  refine List.forall_mem_cons.mpr ⟨List.mem_append_left _ (List.mem_map.mpr ⟨_, List.mem_append_right _ (List.mem_append_right _ (List.mem_append_right _ (List.mem_append_left _ (List.mem_of_getElem? (i := 12) rfl)))), rfl⟩), ?_⟩
  refine List.forall_mem_cons.mpr ⟨List.mem_append_right _ (List.mem_append_right _ (List.mem_append_right _ (List.mem_append_right _ (List.mem_of_getElem? (i := 66) rfl)))), ?_⟩
  refine List.forall_mem_cons.mpr ⟨List.mem_append_right _ (List.mem_append_right _ (List.mem_append_right _ (List.mem_append_right _ (List.mem_of_getElem? (i := 67) rfl)))), ?_⟩
  refine List.forall_mem_cons.mpr ⟨List.mem_append_right _ (List.mem_append_right _ (List.mem_append_right _ (List.mem_append_right _ (List.mem_of_getElem? (i := 69) rfl)))), ?_⟩
  refine List.forall_mem_cons.mpr ⟨List.mem_append_left _ (List.mem_map.mpr ⟨_, List.mem_append_right _ (List.mem_append_right _ (List.mem_append_right _ (List.mem_append_left _ (List.mem_of_getElem? (i := 13) rfl)))), rfl⟩), ?_⟩
  refine List.forall_mem_cons.mpr ⟨List.mem_append_right _ (List.mem_append_right _ (List.mem_append_right _ (List.mem_append_right _ (List.mem_of_getElem? (i := 70) rfl)))), ?_⟩
  refine List.forall_mem_cons.mpr ⟨List.mem_append_right _ (List.mem_append_right _ (List.mem_append_left _ (List.mem_of_getElem? (i := 124) rfl))), ?_⟩
  refine List.forall_mem_cons.mpr ⟨List.mem_append_right _ (List.mem_append_right _ (List.mem_append_left _ (List.mem_of_getElem? (i := 125) rfl))), ?_⟩
  refine List.forall_mem_cons.mpr ⟨List.mem_append_right _ (List.mem_append_right _ (List.mem_append_left _ (List.mem_of_getElem? (i := 126) rfl))), ?_⟩
  refine List.forall_mem_cons.mpr ⟨List.mem_append_right _ (List.mem_append_right _ (List.mem_append_left _ (List.mem_of_getElem? (i := 127) rfl))), ?_⟩
  refine List.forall_mem_cons.mpr ⟨List.mem_append_right _ (List.mem_append_right _ (List.mem_append_left _ (List.mem_of_getElem? (i := 130) rfl))), ?_⟩
  refine List.forall_mem_cons.mpr ⟨List.mem_append_left _ (List.mem_map.mpr ⟨_, List.mem_append_right _ (List.mem_append_left _ (List.mem_of_getElem? (i := 9) rfl)), rfl⟩), ?_⟩
  refine List.forall_mem_cons.mpr ⟨List.mem_append_right _ (List.mem_append_right _ (List.mem_append_left _ (List.mem_of_getElem? (i := 131) rfl))), ?_⟩
  refine List.forall_mem_cons.mpr ⟨List.mem_append_right _ (List.mem_append_right _ (List.mem_append_left _ (List.mem_of_getElem? (i := 132) rfl))), ?_⟩
  refine List.forall_mem_cons.mpr ⟨List.mem_append_right _ (List.mem_append_right _ (List.mem_append_left _ (List.mem_of_getElem? (i := 134) rfl))), ?_⟩
  refine List.forall_mem_cons.mpr ⟨List.mem_append_left _ (List.mem_map.mpr ⟨_, List.mem_append_right _ (List.mem_append_left _ (List.mem_of_getElem? (i := 10) rfl)), rfl⟩), ?_⟩
  refine List.forall_mem_cons.mpr ⟨List.mem_append_right _ (List.mem_append_right _ (List.mem_append_left _ (List.mem_of_getElem? (i := 135) rfl))), ?_⟩
  refine List.forall_mem_cons.mpr ⟨List.mem_append_right _ (List.mem_append_right _ (List.mem_append_left _ (List.mem_of_getElem? (i := 136) rfl))), ?_⟩
  refine List.forall_mem_cons.mpr ⟨List.mem_append_right _ (List.mem_append_right _ (List.mem_append_left _ (List.mem_of_getElem? (i := 138) rfl))), ?_⟩
  refine List.forall_mem_cons.mpr ⟨List.mem_append_left _ (List.mem_map.mpr ⟨_, List.mem_append_right _ (List.mem_append_left _ (List.mem_of_getElem? (i := 11) rfl)), rfl⟩), ?_⟩
  refine List.forall_mem_cons.mpr ⟨List.mem_append_right _ (List.mem_append_right _ (List.mem_append_left _ (List.mem_of_getElem? (i := 139) rfl))), ?_⟩
  refine List.forall_mem_cons.mpr ⟨List.mem_append_right _ (List.mem_append_right _ (List.mem_append_left _ (List.mem_of_getElem? (i := 140) rfl))), ?_⟩
  exact fun _ h => absurd h List.not_mem_nil
theorem wsL_law_r19_ok : wsL_law_r19.all goodWord = true := by decide +kernel
theorem wsL_law_r20_in : ∀ w ∈ wsL_law_r20, w ∈ lw_tbl := by
  unfold wsL_law_r20
  refine List.forall_mem_cons.mpr ⟨List.mem_append_right _ (List.mem_append_right _ (List.mem_append_left _ (List.mem_of_getElem? (i := 142) rfl))), ?_⟩
  refine List.forall_mem_cons.mpr ⟨List.mem_append_left _ (List.mem_map.mpr ⟨_, List.mem_append_right _ (List.mem_append_left _ (List.mem_of_getElem? (i := 12) rfl)), rfl⟩), ?_⟩
  refine List.forall_mem_cons.mpr ⟨List.mem_append_right _ (List.mem_append_right _ (List.mem_append_left _ (List.mem_of_getElem? (i := 143) rfl))), ?_⟩
  refine List.forall_mem_cons.mpr ⟨List.mem_append_right _ (List.mem_append_right _ (List.mem_append_right _ (List.mem_append_right _ (List.mem_of_getElem? (i := 71) rfl)))), ?_⟩
  refine List.forall_mem_cons.mpr ⟨List.mem_append_right _ (List.mem_append_right _ (List.mem_append_right _ (List.mem_append_right _ (List.mem_of_getElem? (i := 72) rfl)))), ?_⟩
  refine List.forall_mem_cons.mpr ⟨List.mem_append_right _ (List.mem_append_right _ (List.mem_append_right _ (List.mem_append_right _ (List.mem_of_getElem? (i := 73) rfl)))), ?_⟩
  refine List.forall_mem_cons.mpr ⟨List.mem_append_right _ (List.mem_append_right _ (List.mem_append_right _ (List.mem_append_right _ (List.mem_of_getElem? (i := 74) rfl)))), ?_⟩
  refine List.forall_mem_cons.mpr ⟨List.mem_append_right _ (List.mem_append_right _ (List.mem_append_right _ (List.mem_append_right _ (List.mem_of_getElem? (i := 75) rfl)))), ?_⟩
  refine List.forall_mem_cons.mpr ⟨List.mem_append_right _ (List.mem_append_right _ (List.mem_append_right _ (List.mem_append_right _ (List.mem_of_getElem? (i := 77) rfl)))), ?_⟩
  refine List.forall_mem_cons.mpr ⟨List.mem_append_left _ (List.mem_map.mpr ⟨_, List.mem_append_right _ (List.mem_append_right _ (List.mem_append_right _ (List.mem_append_left _ (List.mem_of_getElem? (i := 14) rfl)))), rfl⟩), ?_⟩
  refine List.forall_mem_cons.mpr ⟨List.mem_append_right _ (List.mem_append_right _ (List.mem_append_right _ (List.mem_append_right _ (List.mem_of_getElem? (i := 78) rfl)))), ?_⟩
  refine List.forall_mem_cons.mpr ⟨List.mem_append_right _ (List.mem_append_right _ (List.mem_append_right _ (List.mem_append_left _ (List.mem_of_getElem? (i := 47) rfl)))), ?_⟩
  refine List.forall_mem_cons.mpr ⟨List.mem_append_right _ (List.mem_append_right _ (List.mem_append_right _ (List.mem_append_left _ (List.mem_of_getElem? (i := 46) rfl)))), ?_⟩
  refine List.forall_mem_cons.mpr ⟨List.mem_append_right _ (List.mem_append_right _ (List.mem_append_right _ (List.mem_append_right _ (List.mem_of_getElem? (i := 79) rfl)))), ?_⟩
  refine List.forall_mem_cons.mpr ⟨List.mem_append_right _ (List.mem_append_right _ (List.mem_append_right _ (List.mem_append_right _ (List.mem_of_getElem? (i := 81) rfl)))), ?_⟩
  refine List.forall_mem_cons.mpr ⟨List.mem_append_left _ (List.mem_map.mpr ⟨_, List.mem_append_right _ (List.mem_append_right _ (List.mem_append_right _ (List.mem_append_left _ (List.mem_of_getElem? (i := 15) rfl)))), rfl⟩), ?_⟩
  refine List.forall_mem_cons.mpr ⟨List.mem_append_right _ (List.mem_append_right _ (List.mem_append_right _ (List.mem_append_right _ (List.mem_of_getElem? (i := 82) rfl)))), ?_⟩
  refine List.forall_mem_cons.mpr ⟨List.mem_append_right _ (List.mem_append_right _ (List.mem_append_right _ (List.mem_append_right _ (List.mem_of_getElem? (i := 83) rfl)))), ?_⟩
  refine List.forall_mem_cons.mpr ⟨List.mem_append_right _ (List.mem_append_right _ (List.mem_append_right _ (List.mem_append_right _ (List.mem_of_getElem? (i := 85) rfl)))), ?_⟩
  refine List.forall_mem_cons.mpr ⟨List.mem_append_left _ (List.mem_map.mpr ⟨_, List.mem_append_right _ (List.mem_append_right _ (List.mem_append_right _ (List.mem_append_right _ (List.mem_of_getElem? (i := 0) rfl)))), rfl⟩), ?_⟩
  refine List.forall_mem_cons.mpr ⟨List.mem_append_right _ (List.mem_append_right _ (List.mem_append_right _ (List.mem_append_right _ (List.mem_of_getElem? (i := 86) rfl)))), ?_⟩
  refine List.forall_mem_cons.mpr ⟨List.mem_append_right _ (List.mem_append_right _ (List.mem_append_left _ (List.mem_of_getElem? (i := 146) rfl))), ?_⟩
  refine List.forall_mem_cons.mpr ⟨List.mem_append_right _ (List.mem_append_right _ (List.mem_append_left _ (List.mem_of_getElem? (i := 147) rfl))), ?_⟩
  refine List.forall_mem_cons.mpr ⟨List.mem_append_right _ (List.mem_append_right _ (List.mem_append_left _ (List.mem_of_getElem? (i := 148) rfl))), ?_⟩
  exact fun _ h => absurd h List.not_mem_nil
theorem wsL_law_r20_ok : wsL_law_r20.all goodWord = true := by decide +kernel
theorem wsL_law_r21_in : ∀ w ∈ wsL_law_r21, w ∈ lw_tbl := by
  unfold wsL_law_r21
  refine List.forall_mem_cons.mpr ⟨List.mem_append_right _ (List.mem_append_right _ (List.mem_append_left _ (List.mem_of_getElem? (i := 149) rfl))), ?_⟩
  refine List.forall_mem_cons.mpr ⟨List.mem_append_right _ (List.mem_append_left _ (List.mem_of_getElem? (i := 145) rfl)), ?_⟩
  refine List.forall_mem_cons.mpr ⟨List.mem_append_right _ (List.mem_append_left _ (List.mem_of_getElem? (i := 146) rfl)), ?_⟩
  refine List.forall_mem_cons.mpr ⟨List.mem_append_right _ (List.mem_append_left _ (List.mem_of_getElem? (i := 147) rfl)), ?_⟩
  refine List.forall_mem_cons.mpr ⟨List.mem_append_right _ (List.mem_append_right _ (List.mem_append_right _ (List.mem_append_right _ (List.mem_of_getElem? (i := 87) rfl)))), ?_⟩
  refine List.forall_mem_cons.mpr ⟨List.mem_append_right _ (List.mem_append_right _ (List.mem_append_right _ (List.mem_append_right _ (List.mem_of_getElem? (i := 88) rfl)))), ?_⟩
  refine List.forall_mem_cons.mpr ⟨List.mem_append_right _ (List.mem_append_right _ (List.mem_append_right _ (List.mem_append_right _ (List.mem_of_getElem? (i := 89) rfl)))), ?_⟩
  refine List.forall_mem_cons.mpr ⟨List.mem_append_right _ (List.mem_append_right _ (List.mem_append_right _ (List.mem_append_right _ (List.mem_of_getElem? (i := 90) rfl)))), ?_⟩
  refine List.forall_mem_cons.mpr ⟨List.mem_append_right _ (List.mem_append_right _ (List.mem_append_right _ (List.mem_append_left _ (List.mem_of_getElem? (i := 48) rfl)))), ?_⟩
  refine List.forall_mem_cons.mpr ⟨List.mem_append_right _ (List.mem_append_right _ (List.mem_append_left _ (List.mem_of_getElem? (i := 150) rfl))), ?_⟩
  refine List.forall_mem_cons.mpr ⟨List.mem_append_right _ (List.mem_append_right _ (List.mem_append_left _ (List.mem_of_getElem? (i := 151) rfl))), ?_⟩
  refine List.forall_mem_cons.mpr ⟨List.mem_append_right _ (List.mem_append_right _ (List.mem_append_left _ (List.mem_of_getElem? (i := 152) rfl))), ?_⟩
  refine List.forall_mem_cons.mpr ⟨List.mem_append_right _ (List.mem_append_right _ (List.mem_append_left _ (List.mem_of_getElem? (i := 153) rfl))), ?_⟩
  refine List.forall_mem_cons.mpr ⟨List.mem_append_right _ (List.mem_append_right _ (List.mem_append_right _ (List.mem_append_right _ (List.mem_of_getElem? (i := 91) rfl)))), ?_⟩
  refine List.forall_mem_cons.mpr ⟨List.mem_append_right _ (List.mem_append_right _ (List.mem_append_right _ (List.mem_append_right _ (List.mem_of_getElem? (i := 92) rfl)))), ?_⟩
  refine List.forall_mem_cons.mpr ⟨List.mem_append_right _ (List.mem_append_right _ (List.mem_append_right _ (List.mem_append_right _ (List.mem_of_getElem? (i := 93) rfl)))), ?_⟩
  refine List.forall_mem_cons.mpr ⟨List.mem_append_right _ (List.mem_append_right _ (List.mem_append_right _ (List.mem_append_right _ (List.mem_of_getElem? (i := 94) rfl)))), ?_⟩
  refine List.forall_mem_cons.mpr ⟨List.mem_append_right _ (List.mem_append_right _ (List.mem_append_left _ (List.mem_of_getElem? (i := 154) rfl))), ?_⟩
  refine List.forall_mem_cons.mpr ⟨List.mem_append_right _ (List.mem_append_right _ (List.mem_append_left _ (List.mem_of_getElem? (i := 155) rfl))), ?_⟩
  refine List.forall_mem_cons.mpr ⟨List.mem_append_right _ (List.mem_append_right _ (List.mem_append_left _ (List.mem_of_getElem? (i := 156) rfl))), ?_⟩
  refine List.forall_mem_cons.mpr ⟨List.mem_append_right _ (List.mem_append_right _ (List.mem_append_left _ (List.mem_of_getElem? (i := 157) rfl))), ?_⟩
  refine List.forall_mem_cons.mpr ⟨List.mem_append_right _ (List.mem_append_right _ (List.mem_append_right _ (List.mem_append_right _ (List.mem_of_getElem? (i := 95) rfl)))), ?_⟩
  refine List.forall_mem_cons.mpr ⟨List.mem_append_right _ (List.mem_append_right _ (List.mem_append_right _ (List.mem_append_right _ (List.mem_of_getElem? (i := 96) rfl)))), ?_⟩
  refine List.forall_mem_cons.mpr ⟨List.mem_append_right _ (List.mem_append_right _ (List.mem_append_right _ (List.mem_append_right _ (List.mem_of_getElem? (i := 97) rfl)))), ?_⟩
  exact fun _ h => absurd h List.not_mem_nil
theorem wsL_law_r21_ok : wsL_law_r21.all goodWord = true := by decide +kernel
theorem wsL_law_r22_in : ∀ w ∈ wsL_law_r22, w ∈ lw_tbl := by
  unfold wsL_law_r22
  refine List.forall_mem_cons.mpr ⟨List.mem_append_right _ (List.mem_append_right _ (List.mem_append_right _ (List.mem_append_right _ (List.mem_of_getElem? (i := 98) rfl)))), ?_⟩
  refine List.forall_mem_cons.mpr ⟨List.mem_append_right _ (List.mem_append_right _ (List.mem_append_right _ (List.mem_append_right _ (List.mem_of_getElem? (i := 99) rfl)))), ?_⟩
  refine List.forall_mem_cons.mpr ⟨List.mem_append_right _ (List.mem_append_right _ (List.mem_append_right _ (List.mem_append_right _ (List.mem_of_getElem? (i := 101) rfl)))), ?_⟩
  refine List.forall_mem_cons.mpr ⟨List.mem_append_left _ (List.mem_map.mpr ⟨_, List.mem_append_right _ (List.mem_append_right _ (List.mem_append_right _ (List.mem_append_right _ (List.mem_of_getElem? (i := 1) rfl)))), rfl⟩), ?_⟩
  refine List.forall_mem_cons.mpr ⟨List.mem_append_right _ (List.mem_append_right _ (List.mem_append_right _ (List.mem_append_right _ (List.mem_of_getElem? (i := 102) rfl)))), ?_⟩
  refine List.forall_mem_cons.mpr ⟨List.mem_append_right _ (List.mem_append_right _ (List.mem_append_left _ (List.mem_of_getElem? (i := 158) rfl))), ?_⟩
  refine List.forall_mem_cons.mpr ⟨List.mem_append_right _ (List.mem_append_right _ (List.mem_append_left _ (List.mem_of_getElem? (i := 159) rfl))), ?_⟩
  refine List.forall_mem_cons.mpr ⟨List.mem_append_right _ (List.mem_append_right _ (List.mem_append_left _ (List.mem_of_getElem? (i := 160) rfl))), ?_⟩
  refine List.forall_mem_cons.mpr ⟨List.mem_append_right _ (List.mem_append_right _ (List.mem_append_left _ (List.mem_of_getElem? (i := 161) rfl))), ?_⟩
  refine List.forall_mem_cons.mpr ⟨List.mem_append_right _ (List.mem_append_right _ (List.mem_append_left _ (List.mem_of_getElem? (i := 164) rfl))), ?_⟩
  refine List.forall_mem_cons.mpr ⟨List.mem_append_left _ (List.mem_map.mpr ⟨_, List.mem_append_right _ (List.mem_append_left _ (List.mem_of_getElem? (i := 13) rfl)), rfl⟩), ?_⟩
  refine List.forall_mem_cons.mpr ⟨List.mem_append_right _ (List.mem_append_right _ (List.mem_append_left _ (List.mem_of_getElem? (i := 165) rfl))), ?_⟩
  refine List.forall_mem_cons.mpr ⟨List.mem_append_right _ (List.mem_append_left _ (List.mem_of_getElem? (i := 99) rfl)), ?_⟩
  refine List.forall_mem_cons.mpr ⟨List.mem_append_right _ (List.mem_append_left _ (List.mem_of_getElem? (i := 95) rfl)), ?_⟩
  refine List.forall_mem_cons.mpr ⟨List.mem_append_right _ (List.mem_append_left _ (List.mem_of_getElem? (i := 97) rfl)), ?_⟩
  refine List.forall_mem_cons.mpr ⟨List.mem_append_right _ (List.mem_append_right _ (List.mem_append_left _ (List.mem_of_getElem? (i := 166) rfl))), ?_⟩
  refine List.forall_mem_cons.mpr ⟨List.mem_append_right _ (List.mem_append_right _ (List.mem_append_left _ (List.mem_of_getElem? (i := 167) rfl))), ?_⟩
  refine List.forall_mem_cons.mpr ⟨List.mem_append_right _ (List.mem_append_left _ (List.mem_of_getElem? (i := 8) rfl)), ?_⟩
  refine List.forall_mem_cons.mpr ⟨List.mem_append_right _ (List.mem_append_right _ (List.mem_append_left _ (List.mem_of_getElem? (i := 168) rfl))), ?_⟩
  refine List.forall_mem_cons.mpr ⟨List.mem_append_right _ (List.mem_append_right _ (List.mem_append_left _ (List.mem_of_getElem? (i := 169) rfl))), ?_⟩
  refine List.forall_mem_cons.mpr ⟨List.mem_append_right _ (List.mem_append_right _ (List.mem_append_left _ (List.mem_of_getElem? (i := 171) rfl))), ?_⟩
  refine List.forall_mem_cons.mpr ⟨List.mem_append_left _ (List.mem_map.mpr ⟨_, List.mem_append_right _ (List.mem_append_left _ (List.mem_of_getElem? (i := 14) rfl)), rfl⟩), ?_⟩
  refine List.forall_mem_cons.mpr ⟨List.mem_append_right _ (List.mem_append_right _ (List.mem_append_left _ (List.mem_of_getElem? (i := 172) rfl))), ?_⟩
  refine List.forall_mem_cons.mpr ⟨List.mem_append_right _ (List.mem_append_right _ (List.mem_append_left _ (List.mem_of_getElem? (i := 174) rfl))), ?_⟩
  exact fun _ h => absurd h List.not_mem_nil
theorem wsL_law_r22_ok : wsL_law_r22.all goodWord = true := by decide +kernel
theorem wsL_law_r23_in : ∀ w ∈ wsL_law_r23, w ∈ lw_tbl := by
  unfold wsL_law_r23
  refine List.forall_mem_cons.mpr ⟨List.mem_append_right _ (List.mem_append_right _ (List.mem_append_left _ (List.mem_of_getElem? (i := 173) rfl))), ?_⟩
  refine List.forall_mem_cons.mpr ⟨List.mem_append_right _ (List.mem_append_right _ (List.mem_append_left _ (List.mem_of_getElem? (i := 177) rfl))), ?_⟩
  refine List.forall_mem_cons.mpr ⟨List.mem_append_left _ (List.mem_map.mpr ⟨_, List.mem_append_right _ (List.mem_append_left _ (List.mem_of_getElem? (i := 15) rfl)), rfl⟩), ?_⟩
  refine List.forall_mem_cons.mpr ⟨List.mem_append_right _ (List.mem_append_right _ (List.mem_append_left _ (List.mem_of_getElem? (i := 178) rfl))), ?_⟩
  refine List.forall_mem_cons.mpr ⟨List.mem_append_right _ (List.mem_append_right _ (List.mem_append_right _ (List.mem_append_right _ (List.mem_of_getElem? (i := 103) rfl)))), ?_⟩
  refine List.forall_mem_cons.mpr ⟨List.mem_append_right _ (List.mem_append_right _ (List.mem_append_right _ (List.mem_append_right _ (List.mem_of_getElem? (i := 104) rfl)))), ?_⟩
  refine List.forall_mem_cons.mpr ⟨List.mem_append_right _ (List.mem_append_right _ (List.mem_append_right _ (List.mem_append_right _ (List.mem_of_getElem? (i := 105) rfl)))), ?_⟩
  refine List.forall_mem_cons.mpr ⟨List.mem_append_right _ (List.mem_append_right _ (List.mem_append_right _ (List.mem_append_right _ (List.mem_of_getElem? (i := 106) rfl)))), ?_⟩
  refine List.forall_mem_cons.mpr ⟨List.mem_append_right _ (List.mem_append_right _ (List.mem_append_right _ (List.mem_append_right _ (List.mem_of_getElem? (i := 107) rfl)))), ?_⟩
  refine List.forall_mem_cons.mpr ⟨List.mem_append_right _ (List.mem_append_right _ (List.mem_append_right _ (List.mem_append_right _ (List.mem_of_getElem? (i := 108) rfl)))), ?_⟩
  refine List.forall_mem_cons.mpr ⟨List.mem_append_right _ (List.mem_append_right _ (List.mem_append_right _ (List.mem_append_right _ (List.mem_of_getElem? (i := 110) rfl)))), ?_⟩
  refine List.forall_mem_cons.mpr ⟨List.mem_append_left _ (List.mem_map.mpr ⟨_, List.mem_append_right _ (List.mem_append_right _ (List.mem_append_right _ (List.mem_append_right _ (List.mem_of_getElem? (i := 2) rfl)))), rfl⟩), ?_⟩
  refine List.forall_mem_cons.mpr ⟨List.mem_append_right _ (List.mem_append_right _ (List.mem_append_right _ (List.mem_append_right _ (List.mem_of_getElem? (i := 111) rfl)))), ?_⟩
  refine List.forall_mem_cons.mpr ⟨List.mem_append_right _ (List.mem_append_right _ (List.mem_append_right _ (List.mem_append_left _ (List.mem_of_getElem? (i := 50) rfl)))), ?_⟩
  refine List.forall_mem_cons.mpr ⟨List.mem_append_right _ (List.mem_append_right _ (List.mem_append_right _ (List.mem_append_right _ (List.mem_of_getElem? (i := 112) rfl)))), ?_⟩
  refine List.forall_mem_cons.mpr ⟨List.mem_append_right _ (List.mem_append_right _ (List.mem_append_right _ (List.mem_append_right _ (List.mem_of_getElem? (i := 114) rfl)))), ?_⟩
  refine List.forall_mem_cons.mpr ⟨List.mem_append_left _ (List.mem_map.mpr ⟨_, List.mem_append_right _ (List.mem_append_right _ (List.mem_append_right _ (List.mem_append_right _ (List.mem_of_getElem? (i := 3) rfl)))), rfl⟩), ?_⟩
  refine List.forall_mem_cons.mpr ⟨List.mem_append_right _ (List.mem_append_right _ (List.mem_append_right _ (List.mem_append_right _ (List.mem_of_getElem? (i := 115) rfl)))), ?_⟩
  refine List.forall_mem_cons.mpr ⟨List.mem_append_right _ (List.mem_append_right _ (List.mem_append_right _ (List.mem_append_right _ (List.mem_of_getElem? (i := 116) rfl)))), ?_⟩
  refine List.forall_mem_cons.mpr ⟨List.mem_append_right _ (List.mem_append_right _ (List.mem_append_right _ (List.mem_append_right _ (List.mem_of_getElem? (i := 117) rfl)))), ?_⟩
  refine List.forall_mem_cons.mpr ⟨List.mem_append_right _ (List.mem_append_right _ (List.mem_append_right _ (List.mem_append_right _ (List.mem_of_getElem? (i := 118) rfl)))), ?_⟩
  refine List.forall_mem_cons.mpr ⟨List.mem_append_right _ (List.mem_append_right _ (List.mem_append_right _ (List.mem_append_right _ (List.mem_of_getElem? (i := 119) rfl)))), ?_⟩
  refine List.forall_mem_cons.mpr ⟨List.mem_append_right _ (List.mem_append_right _ (List.mem_append_right _ (List.mem_append_right _ (List.mem_of_getElem? (i := 120) rfl)))), ?_⟩
  refine List.forall_mem_cons.mpr ⟨List.mem_append_right _ (List.mem_append_right _ (List.mem_append_right _ (List.mem_append_right _ (List.mem_of_getElem? (i := 122) rfl)))), ?_⟩
  exact fun _ h => absurd h List.not_mem_nil
theorem wsL_law_r23_ok : wsL_law_r23.all goodWord = true := by decide +kernel
theorem wsL_law_r24_in : ∀ w ∈ wsL_law_r24, w ∈ lw_tbl := by
  unfold wsL_law_r24
  refine List.forall_mem_cons.mpr ⟨List.mem_append_left _ (List.mem_map.mpr ⟨_, List.mem_append_right _ (List.mem_append_right _ (List.mem_append_right _ (List.mem_append_right _ (List.mem_of_getElem? (i := 4) rfl)))), rfl⟩), ?_⟩
  refine List.forall_mem_cons.mpr ⟨List.mem_append_right _ (List.mem_append_right _ (List.mem_append_right _ (List.mem_append_right _ (List.mem_of_getElem? (i := 123) rfl)))), ?_⟩
  refine List.forall_mem_cons.mpr ⟨List.mem_append_right _ (List.mem_append_right _ (List.mem_append_left _ (List.mem_of_getElem? (i := 180) rfl))), ?_⟩
  refine List.forall_mem_cons.mpr ⟨List.mem_append_right _ (List.mem_append_right _ (List.mem_append_left _ (List.mem_of_getElem? (i := 181) rfl))), ?_⟩
  refine List.forall_mem_cons.mpr ⟨List.mem_append_right _ (List.mem_append_right _ (List.mem_append_left _ (List.mem_of_getElem? (i := 182) rfl))), ?_⟩
  refine List.forall_mem_cons.mpr ⟨List.mem_append_right _ (List.mem_append_right _ (List.mem_append_left _ (List.mem_of_getElem? (i := 183) rfl))), ?_⟩
  refine List.forall_mem_cons.mpr ⟨List.mem_append_right _ (List.mem_append_right _ (List.mem_append_left _ (List.mem_of_getElem? (i := 186) rfl))), ?_⟩
  refine List.forall_mem_cons.mpr ⟨List.mem_append_left _ (List.mem_map.mpr ⟨_, List.mem_append_right _ (List.mem_append_right _ (List.mem_append_left _ (List.mem_of_getElem? (i := 0) rfl))), rfl⟩), ?_⟩
  refine List.forall_mem_cons.mpr ⟨List.mem_append_right _ (List.mem_append_right _ (List.mem_append_left _ (List.mem_of_getElem? (i := 187) rfl))), ?_⟩
  refine List.forall_mem_cons.mpr ⟨List.mem_append_right _ (List.mem_append_left _ (List.mem_of_getElem? (i := 128) rfl)), ?_⟩
  refine List.forall_mem_cons.mpr ⟨List.mem_append_right _ (List.mem_append_left _ (List.mem_of_getElem? (i := 130) rfl)), ?_⟩
  refine List.forall_mem_cons.mpr ⟨List.mem_append_right _ (List.mem_append_right _ (List.mem_append_right _ (List.mem_append_left _ (List.mem_of_getElem? (i := 99) rfl)))), ?_⟩
  refine List.forall_mem_cons.mpr ⟨List.mem_append_right _ (List.mem_append_right _ (List.mem_append_right _ (List.mem_append_left _ (List.mem_of_getElem? (i := 100) rfl)))), ?_⟩
  refine List.forall_mem_cons.mpr ⟨List.mem_append_right _ (List.mem_append_right _ (List.mem_append_right _ (List.mem_append_left _ (List.mem_of_getElem? (i := 101) rfl)))), ?_⟩
  refine List.forall_mem_cons.mpr ⟨List.mem_append_right _ (List.mem_append_right _ (List.mem_append_right _ (List.mem_append_left _ (List.mem_of_getElem? (i := 102) rfl)))), ?_⟩
  refine List.forall_mem_cons.mpr ⟨List.mem_append_right _ (List.mem_append_right _ (List.mem_append_left _ (List.mem_of_getElem? (i := 188) rfl))), ?_⟩
  refine List.forall_mem_cons.mpr ⟨List.mem_append_right _ (List.mem_append_right _ (List.mem_append_left _ (List.mem_of_getElem? (i := 189) rfl))), ?_⟩
  refine List.forall_mem_cons.mpr ⟨List.mem_append_right _ (List.mem_append_right _ (List.mem_append_left _ (List.mem_of_getElem? (i := 190) rfl))), ?_⟩
  refine List.forall_mem_cons.mpr ⟨List.mem_append_right _ (List.mem_append_right _ (List.mem_append_left _ (List.mem_of_getElem? (i := 191) rfl))), ?_⟩
  refine List.forall_mem_cons.mpr ⟨List.mem_append_right _ (List.mem_append_right _ (List.mem_append_right _ (List.mem_append_left _ (List.mem_of_getElem? (i := 115) rfl)))), ?_⟩
  refine List.forall_mem_cons.mpr ⟨List.mem_append_right _ (List.mem_append_right _ (List.mem_append_right _ (List.mem_append_left _ (List.mem_of_getElem? (i := 116) rfl)))), ?_⟩
  refine List.forall_mem_cons.mpr ⟨List.mem_append_right _ (List.mem_append_right _ (List.mem_append_right _ (List.mem_append_left _ (List.mem_of_getElem? (i := 117) rfl)))), ?_⟩
  refine List.forall_mem_cons.mpr ⟨List.mem_append_right _ (List.mem_append_right _ (List.mem_append_right _ (List.mem_append_left _ (List.mem_of_getElem? (i := 118) rfl)))), ?_⟩
  refine List.forall_mem_cons.mpr ⟨List.mem_append_right _ (List.mem_append_right _ (List.mem_append_left _ (List.mem_of_getElem? (i := 192) rfl))), ?_⟩
  exact fun _ h => absurd h List.not_mem_nil
theorem wsL_law_r24_ok : wsL_law_r24.all goodWord = true := by decide +kernel
theorem wsL_law_r25_in : ∀ w ∈ wsL_law_r25, w ∈ lw_tbl := by
  unfold wsL_law_r25
  refine List.forall_mem_cons.mpr ⟨List.mem_append_right _ (List.mem_append_right _ (List.mem_append_left _ (List.mem_of_getElem? (i := 193) rfl))), ?_⟩
  refine List.forall_mem_cons.mpr ⟨List.mem_append_right _ (List.mem_append_right _ (List.mem_append_left _ (List.mem_of_getElem? (i := 194) rfl))), ?_⟩
  refine List.forall_mem_cons.mpr ⟨List.mem_append_right _ (List.mem_append_right _ (List.mem_append_left _ (List.mem_of_getElem? (i := 195) rfl))), ?_⟩
  refine List.forall_mem_cons.mpr ⟨List.mem_append_right _ (List.mem_append_right _ (List.mem_append_left _ (List.mem_of_getElem? (i := 198) rfl))), ?_⟩
  refine List.forall_mem_cons.mpr ⟨List.mem_append_left _ (List.mem_map.mpr ⟨_, List.mem_append_right _ (List.mem_append_right _ (List.mem_append_left _ (List.mem_of_getElem? (i := 1) rfl))), rfl⟩), ?_⟩
  refine List.forall_mem_cons.mpr ⟨List.mem_append_right _ (List.mem_append_right _ (List.mem_append_left _ (List.mem_of_getElem? (i := 199) rfl))), ?_⟩
  refine List.forall_mem_cons.mpr ⟨List.mem_append_right _ (List.mem_append_right _ (List.mem_append_left _ (List.mem_of_getElem? (i := 203) rfl))), ?_⟩
  refine List.forall_mem_cons.mpr ⟨List.mem_append_left _ (List.mem_map.mpr ⟨_, List.mem_append_right _ (List.mem_append_right _ (List.mem_append_left _ (List.mem_of_getElem? (i := 2) rfl))), rfl⟩), ?_⟩
  refine List.forall_mem_cons.mpr ⟨List.mem_append_right _ (List.mem_append_right _ (List.mem_append_left _ (List.mem_of_getElem? (i := 204) rfl))), ?_⟩
  refine List.forall_mem_cons.mpr ⟨List.mem_append_right _ (List.mem_append_right _ (List.mem_append_right _ (List.mem_append_left _ (List.mem_of_getElem? (i := 119) rfl)))), ?_⟩
  refine List.forall_mem_cons.mpr ⟨List.mem_append_right _ (List.mem_append_right _ (List.mem_append_right _ (List.mem_append_left _ (List.mem_of_getElem? (i := 120) rfl)))), ?_⟩
  refine List.forall_mem_cons.mpr ⟨List.mem_append_right _ (List.mem_append_right _ (List.mem_append_right _ (List.mem_append_left _ (List.mem_of_getElem? (i := 121) rfl)))), ?_⟩
  refine List.forall_mem_cons.mpr ⟨List.mem_append_right _ (List.mem_append_right _ (List.mem_append_right _ (List.mem_append_left _ (List.mem_of_getElem? (i := 122) rfl)))), ?_⟩
  refine List.forall_mem_cons.mpr ⟨List.mem_append_right _ (List.mem_append_right _ (List.mem_append_right _ (List.mem_append_left _ (List.mem_of_getElem? (i := 123) rfl)))), ?_⟩
  refine List.forall_mem_cons.mpr ⟨List.mem_append_right _ (List.mem_append_right _ (List.mem_append_right _ (List.mem_append_left _ (List.mem_of_getElem? (i := 125) rfl)))), ?_⟩
  refine List.forall_mem_cons.mpr ⟨List.mem_append_left _ (List.mem_map.mpr ⟨_, List.mem_append_right _ (List.mem_append_right _ (List.mem_append_left _ (List.mem_of_getElem? (i := 7) rfl))), rfl⟩), ?_⟩
  refine List.forall_mem_cons.mpr ⟨List.mem_append_right _ (List.mem_append_right _ (List.mem_append_right _ (List.mem_append_left _ (List.mem_of_getElem? (i := 126) rfl)))), ?_⟩
  refine List.forall_mem_cons.mpr ⟨List.mem_append_right _ (List.mem_append_right _ (List.mem_append_right _ (List.mem_append_left _ (List.mem_of_getElem? (i := 127) rfl)))), ?_⟩
  refine List.forall_mem_cons.mpr ⟨List.mem_append_right _ (List.mem_append_right _ (List.mem_append_right _ (List.mem_append_left _ (List.mem_of_getElem? (i := 128) rfl)))), ?_⟩
  refine List.forall_mem_cons.mpr ⟨List.mem_append_right _ (List.mem_append_right _ (List.mem_append_right _ (List.mem_append_left _ (List.mem_of_getElem? (i := 129) rfl)))), ?_⟩
  refine List.forall_mem_cons.mpr ⟨List.mem_append_right _ (List.mem_append_right _ (List.mem_append_left _ (List.mem_of_getElem? (i := 205) rfl))), ?_⟩
  refine List.forall_mem_cons.mpr ⟨List.mem_append_right _ (List.mem_append_right _ (List.mem_append_left _ (List.mem_of_getElem? (i := 206) rfl))), ?_⟩
  refine List.forall_mem_cons.mpr ⟨List.mem_append_right _ (List.mem_append_right _ (List.mem_append_left _ (List.mem_of_getElem? (i := 207) rfl))), ?_⟩
  refine List.forall_mem_cons.mpr ⟨List.mem_append_right _ (List.mem_append_right _ (List.mem_append_left _ (List.mem_of_getElem? (i := 208) rfl))), ?_⟩
  exact fun _ h => absurd h List.not_mem_nil
theorem wsL_law_r25_ok : wsL_law_r25.all goodWord = true := by decide +kernel
theorem wsL_law_r26_in : ∀ w ∈ wsL_law_r26, w ∈ lw_tbl := by
  unfold wsL_law_r26
  refine List.forall_mem_cons.mpr ⟨List.mem_append_right _ (List.mem_append_right _ (List.mem_append_left _ (List.mem_of_getElem? (i := 209) rfl))), ?_⟩
  refine List.forall_mem_cons.mpr ⟨List.mem_append_right _ (List.mem_append_right _ (List.mem_append_right _ (List.mem_append_left _ (List.mem_of_getElem? (i := 130) rfl)))), ?_⟩
  refine List.forall_mem_cons.mpr ⟨List.mem_append_right _ (List.mem_append_right _ (List.mem_append_right _ (List.mem_append_left _ (List.mem_of_getElem? (i := 131) rfl)))), ?_⟩
  refine List.forall_mem_cons.mpr ⟨List.mem_append_right _ (List.mem_append_right _ (List.mem_append_right _ (List.mem_append_left _ (List.mem_of_getElem? (i := 132) rfl)))), ?_⟩
  refine List.forall_mem_cons.mpr ⟨List.mem_append_right _ (List.mem_append_right _ (List.mem_append_right _ (List.mem_append_left _ (List.mem_of_getElem? (i := 133) rfl)))), ?_⟩
  refine List.forall_mem_cons.mpr ⟨List.mem_append_right _ (List.mem_append_right _ (List.mem_append_right _ (List.mem_append_left _ (List.mem_of_getElem? (i := 134) rfl)))), ?_⟩
  refine List.forall_mem_cons.mpr ⟨List.mem_append_right _ (List.mem_append_right _ (List.mem_append_left _ (List.mem_of_getElem? (i := 210) rfl))), ?_⟩
  refine List.forall_mem_cons.mpr ⟨List.mem_append_right _ (List.mem_append_right _ (List.mem_append_left _ (List.mem_of_getElem? (i := 211) rfl))), ?_⟩
  refine List.forall_mem_cons.mpr ⟨List.mem_append_right _ (List.mem_append_right _ (List.mem_append_left _ (List.mem_of_getElem? (i := 212) rfl))), ?_⟩
  refine List.forall_mem_cons.mpr ⟨List.mem_append_right _ (List.mem_append_right _ (List.mem_append_left _ (List.mem_of_getElem? (i := 213) rfl))), ?_⟩
  refine List.forall_mem_cons.mpr ⟨List.mem_append_right _ (List.mem_append_right _ (List.mem_append_left _ (List.mem_of_getElem? (i := 218) rfl))), ?_⟩
  refine List.forall_mem_cons.mpr ⟨List.mem_append_right _ (List.mem_append_right _ (List.mem_append_left _ (List.mem_of_getElem? (i := 220) rfl))), ?_⟩
  refine List.forall_mem_cons.mpr ⟨List.mem_append_right _ (List.mem_append_right _ (List.mem_append_left _ (List.mem_of_getElem? (i := 219) rfl))), ?_⟩
  refine List.forall_mem_cons.mpr ⟨List.mem_append_right _ (List.mem_append_left _ (List.mem_of_getElem? (i := 9) rfl)), ?_⟩
  refine List.forall_mem_cons.mpr ⟨List.mem_append_right _ (List.mem_append_right _ (List.mem_append_left _ (List.mem_of_getElem? (i := 216) rfl))), ?_⟩
  refine List.forall_mem_cons.mpr ⟨List.mem_append_left _ (List.mem_map.mpr ⟨_, List.mem_append_right _ (List.mem_append_right _ (List.mem_append_left _ (List.mem_of_getElem? (i := 3) rfl))), rfl⟩), ?_⟩
  refine List.forall_mem_cons.mpr ⟨List.mem_append_right _ (List.mem_append_right _ (List.mem_append_left _ (List.mem_of_getElem? (i := 217) rfl))), ?_⟩
  refine List.forall_mem_cons.mpr ⟨List.mem_append_right _ (List.mem_append_right _ (List.mem_append_right _ (List.mem_append_left _ (List.mem_of_getElem? (i := 135) rfl)))), ?_⟩
  refine List.forall_mem_cons.mpr ⟨List.mem_append_right _ (List.mem_append_right _ (List.mem_append_right _ (List.mem_append_left _ (List.mem_of_getElem? (i := 136) rfl)))), ?_⟩
  refine List.forall_mem_cons.mpr ⟨List.mem_append_right _ (List.mem_append_right _ (List.mem_append_right _ (List.mem_append_left _ (List.mem_of_getElem? (i := 137) rfl)))), ?_⟩
  refine List.forall_mem_cons.mpr ⟨List.mem_append_right _ (List.mem_append_right _ (List.mem_append_right _ (List.mem_append_left _ (List.mem_of_getElem? (i := 138) rfl)))), ?_⟩
  refine List.forall_mem_cons.mpr ⟨List.mem_append_right _ (List.mem_append_right _ (List.mem_append_left _ (List.mem_of_getElem? (i := 221) rfl))), ?_⟩
  refine List.forall_mem_cons.mpr ⟨List.mem_append_right _ (List.mem_append_right _ (List.mem_append_left _ (List.mem_of_getElem? (i := 222) rfl))), ?_⟩
  refine List.forall_mem_cons.mpr ⟨List.mem_append_right _ (List.mem_append_right _ (List.mem_append_left _ (List.mem_of_getElem? (i := 223) rfl))), ?_⟩
  exact fun _ h => absurd h List.not_mem_nil
theorem wsL_law_r26_ok : wsL_law_r26.all goodWord = true := by decide +kernel
theorem wsL_law_r27_in : ∀ w ∈ wsL_law_r27, w ∈ lw_tbl := by
  unfold wsL_law_r27
  refine List.forall_mem_cons.mpr ⟨List.mem_append_right _ (List.mem_append_right _ (List.mem_append_left _ (List.mem_of_getElem? (i := 224) rfl))), ?_⟩
  refine List.forall_mem_cons.mpr ⟨List.mem_append_right _ (List.mem_append_right _ (List.mem_append_left _ (List.mem_of_getElem? (i := 225) rfl))), ?_⟩
  refine List.forall_mem_cons.mpr ⟨List.mem_append_right _ (List.mem_append_right _ (List.mem_append_right _ (List.mem_append_right _ (List.mem_of_getElem? (i := 124) rfl)))), ?_⟩
  refine List.forall_mem_cons.mpr ⟨List.mem_append_right _ (List.mem_append_right _ (List.mem_append_right _ (List.mem_append_right _ (List.mem_of_getElem? (i := 125) rfl)))), ?_⟩
  refine List.forall_mem_cons.mpr ⟨List.mem_append_right _ (List.mem_append_right _ (List.mem_append_right _ (List.mem_append_right _ (List.mem_of_getElem? (i := 126) rfl)))), ?_⟩
  refine List.forall_mem_cons.mpr ⟨List.mem_append_right _ (List.mem_append_right _ (List.mem_append_right _ (List.mem_append_right _ (List.mem_of_getElem? (i := 127) rfl)))), ?_⟩
  refine List.forall_mem_cons.mpr ⟨List.mem_append_right _ (List.mem_append_right _ (List.mem_append_left _ (List.mem_of_getElem? (i := 226) rfl))), ?_⟩
  refine List.forall_mem_cons.mpr ⟨List.mem_append_right _ (List.mem_append_right _ (List.mem_append_left _ (List.mem_of_getElem? (i := 227) rfl))), ?_⟩
  refine List.forall_mem_cons.mpr ⟨List.mem_append_right _ (List.mem_append_right _ (List.mem_append_left _ (List.mem_of_getElem? (i := 228) rfl))), ?_⟩
  refine List.forall_mem_cons.mpr ⟨List.mem_append_right _ (List.mem_append_right _ (List.mem_append_left _ (List.mem_of_getElem? (i := 229) rfl))), ?_⟩
  refine List.forall_mem_cons.mpr ⟨List.mem_append_right _ (List.mem_append_right _ (List.mem_append_left _ (List.mem_of_getElem? (i := 230) rfl))), ?_⟩
  refine List.forall_mem_cons.mpr ⟨List.mem_append_right _ (List.mem_append_right _ (List.mem_append_right _ (List.mem_append_right _ (List.mem_of_getElem? (i := 128) rfl)))), ?_⟩
  refine List.forall_mem_cons.mpr ⟨List.mem_append_right _ (List.mem_append_right _ (List.mem_append_right _ (List.mem_append_right _ (List.mem_of_getElem? (i := 129) rfl)))), ?_⟩
  refine List.forall_mem_cons.mpr ⟨List.mem_append_right _ (List.mem_append_right _ (List.mem_append_right _ (List.mem_append_right _ (List.mem_of_getElem? (i := 130) rfl)))), ?_⟩
  refine List.forall_mem_cons.mpr ⟨List.mem_append_right _ (List.mem_append_right _ (List.mem_append_right _ (List.mem_append_right _ (List.mem_of_getElem? (i := 131) rfl)))), ?_⟩
  refine List.forall_mem_cons.mpr ⟨List.mem_append_right _ (List.mem_append_right _ (List.mem_append_left _ (List.mem_of_getElem? (i := 231) rfl))), ?_⟩
  refine List.forall_mem_cons.mpr ⟨List.mem_append_right _ (List.mem_append_right _ (List.mem_append_left _ (List.mem_of_getElem? (i := 232) rfl))), ?_⟩
  refine List.forall_mem_cons.mpr ⟨List.mem_append_right _ (List.mem_append_right _ (List.mem_append_left _ (List.mem_of_getElem? (i := 233) rfl))), ?_⟩
  refine List.forall_mem_cons.mpr ⟨List.mem_append_right _ (List.mem_append_right _ (List.mem_append_left _ (List.mem_of_getElem? (i := 234) rfl))), ?_⟩
  refine List.forall_mem_cons.mpr ⟨List.mem_append_right _ (List.mem_append_right _ (List.mem_append_left _ (List.mem_of_getElem? (i := 235) rfl))), ?_⟩
  refine List.forall_mem_cons.mpr ⟨List.mem_append_right _ (List.mem_append_right _ (List.mem_append_left _ (List.mem_of_getElem? (i := 236) rfl))), ?_⟩
  refine List.forall_mem_cons.mpr ⟨List.mem_append_right _ (List.mem_append_right _ (List.mem_append_left _ (List.mem_of_getElem? (i := 237) rfl))), ?_⟩
  refine List.forall_mem_cons.mpr ⟨List.mem_append_right _ (List.mem_append_right _ (List.mem_append_left _ (List.mem_of_getElem? (i := 238) rfl))), ?_⟩
  refine List.forall_mem_cons.mpr ⟨List.mem_append_right _ (List.mem_append_right _ (List.mem_append_left _ (List.mem_of_getElem? (i := 239) rfl))), ?_⟩
  exact fun _ h => absurd h List.not_mem_nil
theorem wsL_law_r27_ok : wsL_law_r27.all goodWord = true := by decide +kernel
theorem wsL_law_r28_in : ∀ w ∈ wsL_law_r28, w ∈ lw_tbl := by
  unfold wsL_law_r28
  refine List.forall_mem_cons.mpr ⟨List.mem_append_right _ (List.mem_append_right _ (List.mem_append_right _ (List.mem_append_left _ (List.mem_of_getElem? (i := 0) rfl)))), ?_⟩
  refine List.forall_mem_cons.mpr ⟨List.mem_append_right _ (List.mem_append_right _ (List.mem_append_right _ (List.mem_append_left _ (List.mem_of_getElem? (i := 1) rfl)))), ?_⟩
  refine List.forall_mem_cons.mpr ⟨List.mem_append_right _ (List.mem_append_right _ (List.mem_append_right _ (List.mem_append_left _ (List.mem_of_getElem? (i := 2) rfl)))), ?_⟩
  refine List.forall_mem_cons.mpr ⟨List.mem_append_right _ (List.mem_append_right _ (List.mem_append_right _ (List.mem_append_left _ (List.mem_of_getElem? (i := 3) rfl)))), ?_⟩
  refine List.forall_mem_cons.mpr ⟨List.mem_append_right _ (List.mem_append_right _ (List.mem_append_right _ (List.mem_append_left _ (List.mem_of_getElem? (i := 5) rfl)))), ?_⟩
  refine List.forall_mem_cons.mpr ⟨List.mem_append_left _ (List.mem_map.mpr ⟨_, List.mem_append_right _ (List.mem_append_right _ (List.mem_append_left _ (List.mem_of_getElem? (i := 4) rfl))), rfl⟩), ?_⟩
  refine List.forall_mem_cons.mpr ⟨List.mem_append_right _ (List.mem_append_right _ (List.mem_append_right _ (List.mem_append_left _ (List.mem_of_getElem? (i := 6) rfl)))), ?_⟩
  refine List.forall_mem_cons.mpr ⟨List.mem_append_right _ (List.mem_append_right _ (List.mem_append_right _ (List.mem_append_left _ (List.mem_of_getElem? (i := 7) rfl)))), ?_⟩
  refine List.forall_mem_cons.mpr ⟨List.mem_append_right _ (List.mem_append_right _ (List.mem_append_right _ (List.mem_append_left _ (List.mem_of_getElem? (i := 8) rfl)))), ?_⟩
  refine List.forall_mem_cons.mpr ⟨List.mem_append_right _ (List.mem_append_right _ (List.mem_append_right _ (List.mem_append_left _ (List.mem_of_getElem? (i := 9) rfl)))), ?_⟩
  refine List.forall_mem_cons.mpr ⟨List.mem_append_right _ (List.mem_append_right _ (List.mem_append_right _ (List.mem_append_left _ (List.mem_of_getElem? (i := 11) rfl)))), ?_⟩
  refine List.forall_mem_cons.mpr ⟨List.mem_append_left _ (List.mem_map.mpr ⟨_, List.mem_append_right _ (List.mem_append_right _ (List.mem_append_left _ (List.mem_of_getElem? (i := 5) rfl))), rfl⟩), ?_⟩
  refine List.forall_mem_cons.mpr ⟨List.mem_append_right _ (List.mem_append_right _ (List.mem_append_right _ (List.mem_append_left _ (List.mem_of_getElem? (i := 12) rfl)))), ?_⟩
  refine List.forall_mem_cons.mpr ⟨List.mem_append_right _ (List.mem_append_right _ (List.mem_append_right _ (List.mem_append_left _ (List.mem_of_getElem? (i := 13) rfl)))), ?_⟩
  refine List.forall_mem_cons.mpr ⟨List.mem_append_right _ (List.mem_append_right _ (List.mem_append_right _ (List.mem_append_left _ (List.mem_of_getElem? (i := 14) rfl)))), ?_⟩
  refine List.forall_mem_cons.mpr ⟨List.mem_append_right _ (List.mem_append_right _ (List.mem_append_right _ (List.mem_append_left _ (List.mem_of_getElem? (i := 15) rfl)))), ?_⟩
  refine List.forall_mem_cons.mpr ⟨List.mem_append_right _ (List.mem_append_right _ (List.mem_append_right _ (List.mem_append_left _ (List.mem_of_getElem? (i := 16) rfl)))), ?_⟩
  refine List.forall_mem_cons.mpr ⟨List.mem_append_right _ (List.mem_append_right _ (List.mem_append_right _ (List.mem_append_left _ (List.mem_of_getElem? (i := 17) rfl)))), ?_⟩
  refine List.forall_mem_cons.mpr ⟨List.mem_append_right _ (List.mem_append_right _ (List.mem_append_right _ (List.mem_append_left _ (List.mem_of_getElem? (i := 18) rfl)))), ?_⟩
  refine List.forall_mem_cons.mpr ⟨List.mem_append_right _ (List.mem_append_right _ (List.mem_append_right _ (List.mem_append_left _ (List.mem_of_getElem? (i := 19) rfl)))), ?_⟩
  refine List.forall_mem_cons.mpr ⟨List.mem_append_right _ (List.mem_append_right _ (List.mem_append_right _ (List.mem_append_left _ (List.mem_of_getElem? (i := 20) rfl)))), ?_⟩
  refine List.forall_mem_cons.mpr ⟨List.mem_append_right _ (List.mem_append_right _ (List.mem_append_right _ (List.mem_append_left _ (List.mem_of_getElem? (i := 21) rfl)))), ?_⟩
  refine List.forall_mem_cons.mpr ⟨List.mem_append_right _ (List.mem_append_right _ (List.mem_append_right _ (List.mem_append_right _ (List.mem_of_getElem? (i := 132) rfl)))), ?_⟩
  refine List.forall_mem_cons.mpr ⟨List.mem_append_right _ (List.mem_append_right _ (List.mem_append_right _ (List.mem_append_right _ (List.mem_of_getElem? (i := 133) rfl)))), ?_⟩
  exact fun _ h => absurd h List.not_mem_nil
theorem wsL_law_r28_ok : wsL_law_r28.all goodWord = true := by decide +kernel
theorem wsL_law_r29_in : ∀ w ∈ wsL_law_r29, w ∈ lw_tbl := by
  unfold wsL_law_r29
  refine List.forall_mem_cons.mpr ⟨List.mem_append_right _ (List.mem_append_right _ (List.mem_append_right _ (List.mem_append_right _ (List.mem_of_getElem? (i := 134) rfl)))), ?_⟩
  refine List.forall_mem_cons.mpr ⟨List.mem_append_right _ (List.mem_append_right _ (List.mem_append_right _ (List.mem_append_right _ (List.mem_of_getElem? (i := 135) rfl)))), ?_⟩
  refine List.forall_mem_cons.mpr ⟨List.mem_append_right _ (List.mem_append_right _ (List.mem_append_right _ (List.mem_append_right _ (List.mem_of_getElem? (i := 136) rfl)))), ?_⟩
  refine List.forall_mem_cons.mpr ⟨List.mem_append_right _ (List.mem_append_right _ (List.mem_append_right _ (List.mem_append_right _ (List.mem_of_getElem? (i := 137) rfl)))), ?_⟩
  refine List.forall_mem_cons.mpr ⟨List.mem_append_right _ (List.mem_append_right _ (List.mem_append_right _ (List.mem_append_right _ (List.mem_of_getElem? (i := 138) rfl)))), ?_⟩
  refine List.forall_mem_cons.mpr ⟨List.mem_append_right _ (List.mem_append_right _ (List.mem_append_right _ (List.mem_append_right _ (List.mem_of_getElem? (i := 139) rfl)))), ?_⟩
  refine List.forall_mem_cons.mpr ⟨List.mem_append_right _ (List.mem_append_right _ (List.mem_append_right _ (List.mem_append_right _ (List.mem_of_getElem? (i := 140) rfl)))), ?_⟩
  exact fun _ h => absurd h List.not_mem_nil
theorem wsL_law_r29_ok : wsL_law_r29.all goodWord = true := by decide +kernel
theorem wsX40_in : ∀ w ∈ wsX40, w ∈ lw_tbl := by decide +kernel
theorem wsX40_ok : wsX40.all goodWord = true := by decide +kernel
theorem wsX50_in : ∀ w ∈ wsX50, w ∈ lw_tbl := by decide +kernel
theorem wsX50_ok : wsX50.all goodWord = true := by decide +kernel
theorem wsX10_in : ∀ w ∈ wsX10, w ∈ lw_tbl := by decide +kernel
theorem wsX10_ok : wsX10.all goodWord = true := by decide +kernel
theorem wsX30_in : ∀ w ∈ wsX30, w ∈ lw_tbl := by decide +kernel
theorem wsX30_ok : wsX30.all goodWord = true := by decide +kernel
theorem wsX20_in : ∀ w ∈ wsX20, w ∈ lw_tbl := by decide +kernel
theorem wsX20_ok : wsX20.all goodWord = true := by decide +kernel
theorem wsX00_in : ∀ w ∈ wsX00, w ∈ lw_tbl := by decide +kernel
theorem wsX00_ok : wsX00.all goodWord = true := by decide +kernel
theorem eu_TB_in : ∀ w ∈ eu_TB, w ∈ lw_tbl := List.forall_mem_append.mpr ⟨List.forall_mem_append.mpr ⟨wsL_law_r1_in, List.forall_mem_append.mpr ⟨wsL_law_r2_in, List.forall_mem_append.mpr ⟨wsL_law_r3_in, List.forall_mem_append.mpr ⟨wsL_law_r4_in, List.forall_mem_append.mpr ⟨wsL_law_r5_in, List.forall_mem_append.mpr ⟨wsL_law_r6_in, List.forall_mem_append.mpr ⟨wsL_law_r7_in, List.forall_mem_append.mpr ⟨wsL_law_r8_in, List.forall_mem_append.mpr ⟨wsL_law_r9_in, List.forall_mem_append.mpr ⟨wsL_law_r10_in, List.forall_mem_append.mpr ⟨wsL_law_r11_in, List.forall_mem_append.mpr ⟨wsL_law_r12_in, List.forall_mem_append.mpr ⟨wsL_law_r13_in, List.forall_mem_append.mpr ⟨wsL_law_r14_in, List.forall_mem_append.mpr ⟨wsL_law_r15_in, List.forall_mem_append.mpr ⟨wsL_law_r16_in, List.forall_mem_append.mpr ⟨wsL_law_r17_in, List.forall_mem_append.mpr ⟨wsL_law_r18_in, List.forall_mem_append.mpr ⟨wsL_law_r19_in, List.forall_mem_append.mpr ⟨wsL_law_r20_in, List.forall_mem_append.mpr ⟨wsL_law_r21_in, List.forall_mem_append.mpr ⟨wsL_law_r22_in, List.forall_mem_append.mpr ⟨wsL_law_r23_in, List.forall_mem_append.mpr ⟨wsL_law_r24_in, List.forall_mem_append.mpr ⟨wsL_law_r25_in, List.forall_mem_append.mpr ⟨wsL_law_r26_in, List.forall_mem_append.mpr ⟨wsL_law_r27_in, List.forall_mem_append.mpr ⟨wsL_law_r28_in, wsL_law_r29_in⟩⟩⟩⟩⟩⟩⟩⟩⟩⟩⟩⟩⟩⟩⟩⟩⟩⟩⟩⟩⟩⟩⟩⟩⟩⟩⟩⟩, List.forall_mem_append.mpr ⟨wsX40_in, List.forall_mem_append.mpr ⟨wsX50_in, List.forall_mem_append.mpr ⟨wsX10_in, List.forall_mem_append.mpr ⟨wsX30_in, List.forall_mem_append.mpr ⟨wsX20_in, wsX00_in⟩⟩⟩⟩⟩⟩
theorem eu_TB_ok : ∀ w ∈ eu_TB, goodWord w = true := List.forall_mem_append.mpr ⟨List.forall_mem_append.mpr ⟨List.all_eq_true.mp wsL_law_r1_ok, List.forall_mem_append.mpr ⟨List.all_eq_true.mp wsL_law_r2_ok, List.forall_mem_append.mpr ⟨List.all_eq_true.mp wsL_law_r3_ok, List.forall_mem_append.mpr ⟨List.all_eq_true.mp wsL_law_r4_ok, List.forall_mem_append.mpr ⟨List.all_eq_true.mp wsL_law_r5_ok, List.forall_mem_append.mpr ⟨List.all_eq_true.mp wsL_law_r6_ok, List.forall_mem_append.mpr ⟨List.all_eq_true.mp wsL_law_r7_ok, List.forall_mem_append.mpr ⟨List.all_eq_true.mp wsL_law_r8_ok, List.forall_mem_append.mpr ⟨List.all_eq_true.mp wsL_law_r9_ok, List.forall_mem_append.mpr ⟨List.all_eq_true.mp wsL_law_r10_ok, List.forall_mem_append.mpr ⟨List.all_eq_true.mp wsL_law_r11_ok, List.forall_mem_append.mpr ⟨List.all_eq_true.mp wsL_law_r12_ok, List.forall_mem_append.mpr ⟨List.all_eq_true.mp wsL_law_r13_ok, List.forall_mem_append.mpr ⟨List.all_eq_true.mp wsL_law_r14_ok, List.forall_mem_append.mpr ⟨List.all_eq_true.mp wsL_law_r15_ok, List.forall_mem_append.mpr ⟨List.all_eq_true.mp wsL_law_r16_ok, List.forall_mem_append.mpr ⟨List.all_eq_true.mp wsL_law_r17_ok, List.forall_mem_append.mpr ⟨List.all_eq_true.mp wsL_law_r18_ok, List.forall_mem_append.mpr ⟨List.all_eq_true.mp wsL_law_r19_ok, List.forall_mem_append.mpr ⟨List.all_eq_true.mp wsL_law_r20_ok, List.forall_mem_append.mpr ⟨List.all_eq_true.mp wsL_law_r21_ok, List.forall_mem_append.mpr ⟨List.all_eq_true.mp wsL_law_r22_ok, List.forall_mem_append.mpr ⟨List.all_eq_true.mp wsL_law_r23_ok, List.forall_mem_append.mpr ⟨List.all_eq_true.mp wsL_law_r24_ok, List.forall_mem_append.mpr ⟨List.all_eq_true.mp wsL_law_r25_ok, List.forall_mem_append.mpr ⟨List.all_eq_true.mp wsL_law_r26_ok, List.forall_mem_append.mpr ⟨List.all_eq_true.mp wsL_law_r27_ok, List.forall_mem_append.mpr ⟨List.all_eq_true.mp wsL_law_r28_ok, List.all_eq_true.mp wsL_law_r29_ok⟩⟩⟩⟩⟩⟩⟩⟩⟩⟩⟩⟩⟩⟩⟩⟩⟩⟩⟩⟩⟩⟩⟩⟩⟩⟩⟩⟩, List.forall_mem_append.mpr ⟨List.all_eq_true.mp wsX40_ok, List.forall_mem_append.mpr ⟨List.all_eq_true.mp wsX50_ok, List.forall_mem_append.mpr ⟨List.all_eq_true.mp wsX10_ok, List.forall_mem_append.mpr ⟨List.all_eq_true.mp wsX30_ok, List.forall_mem_append.mpr ⟨List.all_eq_true.mp wsX20_ok, List.all_eq_true.mp wsX00_ok⟩⟩⟩⟩⟩⟩
theorem tb_r1 : ∀ w ∈ wsL_law_r1, w ∈ eu_TB := fun _ h => List.mem_append_left _ (List.mem_append_left _ (h))
theorem tb_r2 : ∀ w ∈ wsL_law_r2, w ∈ eu_TB := fun _ h => List.mem_append_left _ (List.mem_append_right _ (List.mem_append_left _ (h)))
theorem tb_r3 : ∀ w ∈ wsL_law_r3, w ∈ eu_TB := fun _ h => List.mem_append_left _ (List.mem_append_right _ (List.mem_append_right _ (List.mem_append_left _ (h))))
theorem tb_r4 : ∀ w ∈ wsL_law_r4, w ∈ eu_TB := fun _ h => List.mem_append_left _ (List.mem_append_right _ (List.mem_append_right _ (List.mem_append_right _ (List.mem_append_left _ (h)))))
theorem tb_r5 : ∀ w ∈ wsL_law_r5, w ∈ eu_TB := fun _ h => List.mem_append_left _ (List.mem_append_right _ (List.mem_append_right _ (List.mem_append_right _ (List.mem_append_right _ (List.mem_append_left _ (h))))))
theorem tb_r6 : ∀ w ∈ wsL_law_r6, w ∈ eu_TB := fun _ h => List.mem_append_left _ (List.mem_append_right _ (List.mem_append_right _ (List.mem_append_right _ (List.mem_append_right _ (List.mem_append_right _ (List.mem_append_left _ (h)))))))
theorem tb_r7 : ∀ w ∈ wsL_law_r7, w ∈ eu_TB := fun _ h => List.mem_append_left _ (List.mem_append_right _ (List.mem_append_right _ (List.mem_append_right _ (List.mem_append_right _ (List.mem_append_right _ (List.mem_append_right _ (List.mem_append_left _ (h))))))))
theorem tb_r8 : ∀ w ∈ wsL_law_r8, w ∈ eu_TB := fun _ h => List.mem_append_left _ (List.mem_append_right _ (List.mem_append_right _ (List.mem_append_right _ (List.mem_append_right _ (List.mem_append_right _ (List.mem_append_right _ (List.mem_append_right _ (List.mem_append_left _ (h)))))))))
theorem tb_r9 : ∀ w ∈ wsL_law_r9, w ∈ eu_TB := fun _ h => List.mem_append_left _ (List.mem_append_right _ (List.mem_append_right _ (List.mem_append_right _ (List.mem_append_right _ (List.mem_append_right _ (List.mem_append_right _ (List.mem_append_right _ (List.mem_append_right _ (List.mem_append_left _ (h))))))))))
theorem tb_r10 : ∀ w ∈ wsL_law_r10, w ∈ eu_TB := fun _ h => List.mem_append_left _ (List.mem_append_right _ (List.mem_append_right _ (List.mem_append_right _ (List.mem_append_right _ (List.mem_append_right _ (List.mem_append_right _ (List.mem_append_right _ (List.mem_append_right _ (List.mem_append_right _ (List.mem_append_left _ (h)))))))))))
theorem tb_r11 : ∀ w ∈ wsL_law_r11, w ∈ eu_TB := fun _ h => List.mem_append_left _ (List.mem_append_right _ (List.mem_append_right _ (List.mem_append_right _ (List.mem_append_right _ (List.mem_append_right _ (List.mem_append_right _ (List.mem_append_right _ (List.mem_append_right _ (List.mem_append_right _ (List.mem_append_right _ (List.mem_append_left _ (h))))))))))))
theorem tb_r12 : ∀ w ∈ wsL_law_r12, w ∈ eu_TB := fun _ h => List.mem_append_left _ (List.mem_append_right _ (List.mem_append_right _ (List.mem_append_right _ (List.mem_append_right _ (List.mem_append_right _ (List.mem_append_right _ (List.mem_append_right _ (List.mem_append_right _ (List.mem_append_right _ (List.mem_append_right _ (List.mem_append_right _ (List.mem_append_left _ (h)))))))))))))
theorem tb_r13 : ∀ w ∈ wsL_law_r13, w ∈ eu_TB := fun _ h => List.mem_append_left _ (List.mem_append_right _ (List.mem_append_right _ (List.mem_append_right _ (List.mem_append_right _ (List.mem_append_right _ (List.mem_append_right _ (List.mem_append_right _ (List.mem_append_right _ (List.mem_append_right _ (List.mem_append_right _ (List.mem_append_right _ (List.mem_append_right _ (List.mem_append_left _ (h))))))))))))))
theorem tb_r14 : ∀ w ∈ wsL_law_r14, w ∈ eu_TB := fun _ h => List.mem_append_left _ (List.mem_append_right _ (List.mem_append_right _ (List.mem_append_right _ (List.mem_append_right _ (List.mem_append_right _ (List.mem_append_right _ (List.mem_append_right _ (List.mem_append_right _ (List.mem_append_right _ (List.mem_append_right _ (List.mem_append_right _ (List.mem_append_right _ (List.mem_append_right _ (List.mem_append_left _ (h)))))))))))))))
theorem tb_r15 : ∀ w ∈ wsL_law_r15, w ∈ eu_TB := fun _ h => List.mem_append_left _ (List.mem_append_right _ (List.mem_append_right _ (List.mem_append_right _ (List.mem_append_right _ (List.mem_append_right _ (List.mem_append_right _ (List.mem_append_right _ (List.mem_append_right _ (List.mem_append_right _ (List.mem_append_right _ (List.mem_append_right _ (List.mem_append_right _ (List.mem_append_right _ (List.mem_append_right _ (List.mem_append_left _ (h))))))))))))))))
theorem tb_r16 : ∀ w ∈ wsL_law_r16, w ∈ eu_TB := fun _ h => List.mem_append_left _ (List.mem_append_right _ (List.mem_append_right _ (List.mem_append_right _ (List.mem_append_right _ (List.mem_append_right _ (List.mem_append_right _ (List.mem_append_right _ (List.mem_append_right _ (List.mem_append_right _ (List.mem_append_right _ (List.mem_append_right _ (List.mem_append_right _ (List.mem_append_right _ (List.mem_append_right _ (List.mem_append_right _ (List.mem_append_left _ (h)))))))))))))))))
theorem tb_r17 : ∀ w ∈ wsL_law_r17, w ∈ eu_TB := fun _ h => List.mem_append_left _ (List.mem_append_right _ (List.mem_append_right _ (List.mem_append_right _ (List.mem_append_right _ (List.mem_append_right _ (List.mem_append_right _ (List.mem_append_right _ (List.mem_append_right _ (List.mem_append_right _ (List.mem_append_right _ (List.mem_append_right _ (List.mem_append_right _ (List.mem_append_right _ (List.mem_append_right _ (List.mem_append_right _ (List.mem_append_right _ (List.mem_append_left _ (h))))))))))))))))))
theorem tb_r18 : ∀ w ∈ wsL_law_r18, w ∈ eu_TB := fun _ h => List.mem_append_left _ (List.mem_append_right _ (List.mem_append_right _ (List.mem_append_right _ (List.mem_append_right _ (List.mem_append_right _ (List.mem_append_right _ (List.mem_append_right _ (List.mem_append_right _ (List.mem_append_right _ (List.mem_append_right _ (List.mem_append_right _ (List.mem_append_right _ (List.mem_append_right _ (List.mem_append_right _ (List.mem_append_right _ (List.mem_append_right _ (List.mem_append_right _ (List.mem_append_left _ (h)))))))))))))))))))
theorem tb_r19 : ∀ w ∈ wsL_law_r19, w ∈ eu_TB := fun _ h => List.mem_append_left _ (List.mem_append_right _ (List.mem_append_right _ (List.mem_append_right _ (List.mem_append_right _ (List.mem_append_right _ (List.mem_append_right _ (List.mem_append_right _ (List.mem_append_right _ (List.mem_append_right _ (List.mem_append_right _ (List.mem_append_right _ (List.mem_append_right _ (List.mem_append_right _ (List.mem_append_right _ (List.mem_append_right _ (List.mem_append_right _ (List.mem_append_right _ (List.mem_append_right _ (List.mem_append_left _ (h))))))))))))))))))))
theorem tb_r20 : ∀ w ∈ wsL_law_r20, w ∈ eu_TB := fun _ h => List.mem_append_left _ (List.mem_append_right _ (List.mem_append_right _ (List.mem_append_right _ (List.mem_append_right _ (List.mem_append_right _ (List.mem_append_right _ (List.mem_append_right _ (List.mem_append_right _ (List.mem_append_right _ (List.mem_append_right _ (List.mem_append_right _ (List.mem_append_right _ (List.mem_append_right _ (List.mem_append_right _ (List.mem_append_right _ (List.mem_append_right _ (List.mem_append_right _ (List.mem_append_right _ (List.mem_append_right _ (List.mem_append_left _ (h)))))))))))))))))))))
theorem tb_r21 : ∀ w ∈ wsL_law_r21, w ∈ eu_TB := fun _ h => List.mem_append_left _ (List.mem_append_right _ (List.mem_append_right _ (List.mem_append_right _ (List.mem_append_right _ (List.mem_append_right _ (List.mem_append_right _ (List.mem_append_right _ (List.mem_append_right _ (List.mem_append_right _ (List.mem_append_right _ (List.mem_append_right _ (List.mem_append_right _ (List.mem_append_right _ (List.mem_append_right _ (List.mem_append_right _ (List.mem_append_right _ (List.mem_append_right _ (List.mem_append_right _ (List.mem_append_right _ (List.mem_append_right _ (List.mem_append_left _ (h))))))))))))))))))))))
theorem tb_r22 : ∀ w ∈ wsL_law_r22, w ∈ eu_TB := fun _ h => List.mem_append_left _ (List.mem_append_right _ (List.mem_append_right _ (List.mem_append_right _ (List.mem_append_right _ (List.mem_append_right _ (List.mem_append_right _ (List.mem_append_right _ (List.mem_append_right _ (List.mem_append_right _ (List.mem_append_right _ (List.mem_append_right _ (List.mem_append_right _ (List.mem_append_right _ (List.mem_append_right _ (List.mem_append_right _ (List.mem_append_right _ (List.mem_append_right _ (List.mem_append_right _ (List.mem_append_right _ (List.mem_append_right _ (List.mem_append_right _ (List.mem_append_left _ (h)))))))))))))))))))))))
theorem tb_r23 : ∀ w ∈ wsL_law_r23, w ∈ eu_TB := fun _ h => List.mem_append_left _ (List.mem_append_right _ (List.mem_append_right _ (List.mem_append_right _ (List.mem_append_right _ (List.mem_append_right _ (List.mem_append_right _ (List.mem_append_right _ (List.mem_append_right _ (List.mem_append_right _ (List.mem_append_right _ (List.mem_append_right _ (List.mem_append_right _ (List.mem_append_right _ (List.mem_append_right _ (List.mem_append_right _ (List.mem_append_right _ (List.mem_append_right _ (List.mem_append_right _ (List.mem_append_right _ (List.mem_append_right _ (List.mem_append_right _ (List.mem_append_right _ (List.mem_append_left _ (h))))))))))))))))))))))))
theorem tb_r24 : ∀ w ∈ wsL_law_r24, w ∈ eu_TB := fun _ h => List.mem_append_left _ (List.mem_append_right _ (List.mem_append_right _ (List.mem_append_right _ (List.mem_append_right _ (List.mem_append_right _ (List.mem_append_right _ (List.mem_append_right _ (List.mem_append_right _ (List.mem_append_right _ (List.mem_append_right _ (List.mem_append_right _ (List.mem_append_right _ (List.mem_append_right _ (List.mem_append_right _ (List.mem_append_right _ (List.mem_append_right _ (List.mem_append_right _ (List.mem_append_right _ (List.mem_append_right _ (List.mem_append_right _ (List.mem_append_right _ (List.mem_append_right _ (List.mem_append_right _ (List.mem_append_left _ (h)))))))))))))))))))))))))
theorem tb_r25 : ∀ w ∈ wsL_law_r25, w ∈ eu_TB := fun _ h => List.mem_append_left _ (List.mem_append_right _ (List.mem_append_right _ (List.mem_append_right _ (List.mem_append_right _ (List.mem_append_right _ (List.mem_append_right _ (List.mem_append_right _ (List.mem_append_right _ (List.mem_append_right _ (List.mem_append_right _ (List.mem_append_right _ (List.mem_append_right _ (List.mem_append_right _ (List.mem_append_right _ (List.mem_append_right _ (List.mem_append_right _ (List.mem_append_right _ (List.mem_append_right _ (List.mem_append_right _ (List.mem_append_right _ (List.mem_append_right _ (List.mem_append_right _ (List.mem_append_right _ (List.mem_append_right _ (List.mem_append_left _ (h))))))))))))))))))))))))))
theorem tb_r26 : ∀ w ∈ wsL_law_r26, w ∈ eu_TB := fun _ h => List.mem_append_left _ (List.mem_append_right _ (List.mem_append_right _ (List.mem_append_right _ (List.mem_append_right _ (List.mem_append_right _ (List.mem_append_right _ (List.mem_append_right _ (List.mem_append_right _ (List.mem_append_right _ (List.mem_append_right _ (List.mem_append_right _ (List.mem_append_right _ (List.mem_append_right _ (List.mem_append_right _ (List.mem_append_right _ (List.mem_append_right _ (List.mem_append_right _ (List.mem_append_right _ (List.mem_append_right _ (List.mem_append_right _ (List.mem_append_right _ (List.mem_append_right _ (List.mem_append_right _ (List.mem_append_right _ (List.mem_append_right _ (List.mem_append_left _ (h)))))))))))))))))))))))))))
theorem tb_r27 : ∀ w ∈ wsL_law_r27, w ∈ eu_TB := fun _ h => List.mem_append_left _ (List.mem_append_right _ (List.mem_append_right _ (List.mem_append_right _ (List.mem_append_right _ (List.mem_append_right _ (List.mem_append_right _ (List.mem_append_right _ (List.mem_append_right _ (List.mem_append_right _ (List.mem_append_right _ (List.mem_append_right _ (List.mem_append_right _ (List.mem_append_right _ (List.mem_append_right _ (List.mem_append_right _ (List.mem_append_right _ (List.mem_append_right _ (List.mem_append_right _ (List.mem_append_right _ (List.mem_append_right _ (List.mem_append_right _ (List.mem_append_right _ (List.mem_append_right _ (List.mem_append_right _ (List.mem_append_right _ (List.mem_append_right _ (List.mem_append_left _ (h))))))))))))))))))))))))))))
theorem tb_r28 : ∀ w ∈ wsL_law_r28, w ∈ eu_TB := fun _ h => List.mem_append_left _ (List.mem_append_right _ (List.mem_append_right _ (List.mem_append_right _ (List.mem_append_right _ (List.mem_append_right _ (List.mem_append_right _ (List.mem_append_right _ (List.mem_append_right _ (List.mem_append_right _ (List.mem_append_right _ (List.mem_append_right _ (List.mem_append_right _ (List.mem_append_right _ (List.mem_append_right _ (List.mem_append_right _ (List.mem_append_right _ (List.mem_append_right _ (List.mem_append_right _ (List.mem_append_right _ (List.mem_append_right _ (List.mem_append_right _ (List.mem_append_right _ (List.mem_append_right _ (List.mem_append_right _ (List.mem_append_right _ (List.mem_append_right _ (List.mem_append_right _ (List.mem_append_left _ (h)))))))))))))))))))))))))))))
theorem tb_r29 : ∀ w ∈ wsL_law_r29, w ∈ eu_TB := fun _ h => List.mem_append_left _ (List.mem_append_right _ (List.mem_append_right _ (List.mem_append_right _ (List.mem_append_right _ (List.mem_append_right _ (List.mem_append_right _ (List.mem_append_right _ (List.mem_append_right _ (List.mem_append_right _ (List.mem_append_right _ (List.mem_append_right _ (List.mem_append_right _ (List.mem_append_right _ (List.mem_append_right _ (List.mem_append_right _ (List.mem_append_right _ (List.mem_append_right _ (List.mem_append_right _ (List.mem_append_right _ (List.mem_append_right _ (List.mem_append_right _ (List.mem_append_right _ (List.mem_append_right _ (List.mem_append_right _ (List.mem_append_right _ (List.mem_append_right _ (List.mem_append_right _ (List.mem_append_right _ (h)))))))))))))))))))))))))))))
theorem tb_wsX40 : ∀ w ∈ wsX40, w ∈ eu_TB := fun _ h => List.mem_append_right _ (List.mem_append_left _ (h))
theorem tb_wsX50 : ∀ w ∈ wsX50, w ∈ eu_TB := fun _ h => List.mem_append_right _ (List.mem_append_right _ (List.mem_append_left _ (h)))
theorem tb_wsX10 : ∀ w ∈ wsX10, w ∈ eu_TB := fun _ h => List.mem_append_right _ (List.mem_append_right _ (List.mem_append_right _ (List.mem_append_left _ (h))))
theorem tb_wsX30 : ∀ w ∈ wsX30, w ∈ eu_TB := fun _ h => List.mem_append_right _ (List.mem_append_right _ (List.mem_append_right _ (List.mem_append_right _ (List.mem_append_left _ (h)))))
theorem tb_wsX20 : ∀ w ∈ wsX20, w ∈ eu_TB := fun _ h => List.mem_append_right _ (List.mem_append_right _ (List.mem_append_right _ (List.mem_append_right _ (List.mem_append_right _ (List.mem_append_left _ (h))))))
theorem tb_wsX00 : ∀ w ∈ wsX00, w ∈ eu_TB := fun _ h => List.mem_append_right _ (List.mem_append_right _ (List.mem_append_right _ (List.mem_append_right _ (List.mem_append_right _ (List.mem_append_right _ (h))))))
end
section
theorem dX0_init_0 : decode cX0_init 0 = .ok (.aload_n 0, 1) := by decide +kernel
theorem dX0_init_1 : decode cX0_init 1 = .ok (.invokespecial 3, 3) := by decide +kernel
theorem dX0_init_4 : decode cX0_init 4 = .ok (.aload_n 0, 1) := by decide +kernel
theorem dX0_init_5 : decode cX0_init 5 = .ok (.bipush 60, 2) := by decide +kernel
theorem dX0_init_7 : decode cX0_init 7 = .ok (.newarray .int, 2) := by decide +kernel
theorem dX0_init_9 : decode cX0_init 9 = .ok (.putfield 9, 3) := by decide +kernel
theorem dX0_init_12 : decode cX0_init 12 = .ok (.aload_n 0, 1) := by decide +kernel
theorem dX0_init_13 : decode cX0_init 13 = .ok (.bipush 12, 2) := by decide +kernel
theorem dX0_init_15 : decode cX0_init 15 = .ok (.newarray .int, 2) := by decide +kernel
theorem dX0_init_17 : decode cX0_init 17 = .ok (.putfield 15, 3) := by decide +kernel
theorem dX0_init_20 : decode cX0_init 20 = .ok (.aload_n 0, 1) := by decide +kernel
theorem dX0_init_21 : decode cX0_init 21 = .ok (.bipush 12, 2) := by decide +kernel
theorem dX0_init_23 : decode cX0_init 23 = .ok (.newarray .int, 2) := by decide +kernel
theorem dX0_init_25 : decode cX0_init 25 = .ok (.putfield 18, 3) := by decide +kernel
theorem dX0_init_28 : decode cX0_init 28 = .ok (.aload_n 0, 1) := by decide +kernel
theorem dX0_init_29 : decode cX0_init 29 = .ok (.iconst (-1), 1) := by decide +kernel
theorem dX0_init_30 : decode cX0_init 30 = .ok (.putfield 21, 3) := by decide +kernel
theorem dX0_init_33 : decode cX0_init 33 = .ok (.return_, 1) := by decide +kernel
theorem dX0_append_0 : decode cX0_append 0 = .ok (.aload_n 0, 1) := by decide +kernel
theorem dX0_append_1 : decode cX0_append 1 = .ok (.getfield 25, 3) := by decide +kernel
theorem dX0_append_4 : decode cX0_append 4 = .ok (.bipush 60, 2) := by decide +kernel
theorem dX0_append_6 : decode cX0_append 6 = .ok (.if_icmp .ge 23, 3) := by decide +kernel
theorem dX0_append_9 : decode cX0_append 9 = .ok (.aload_n 0, 1) := by decide +kernel
theorem dX0_append_10 : decode cX0_append 10 = .ok (.getfield 9, 3) := by decide +kernel
theorem dX0_append_13 : decode cX0_append 13 = .ok (.aload_n 0, 1) := by decide +kernel
theorem dX0_append_14 : decode cX0_append 14 = .ok (.getfield 25, 3) := by decide +kernel
theorem dX0_append_17 : decode cX0_append 17 = .ok (.iload_n 1, 1) := by decide +kernel
theorem dX0_append_18 : decode cX0_append 18 = .ok (.iastore, 1) := by decide +kernel
theorem dX0_append_19 : decode cX0_append 19 = .ok (.aload_n 0, 1) := by decide +kernel
theorem dX0_append_20 : decode cX0_append 20 = .ok (.dup, 1) := by decide +kernel
theorem dX0_append_21 : decode cX0_append 21 = .ok (.getfield 25, 3) := by decide +kernel
theorem dX0_append_24 : decode cX0_append 24 = .ok (.iconst 1, 1) := by decide +kernel
theorem dX0_append_25 : decode cX0_append 25 = .ok (.iadd, 1) := by decide +kernel
theorem dX0_append_26 : decode cX0_append 26 = .ok (.putfield 25, 3) := by decide +kernel
theorem dX0_append_29 : decode cX0_append 29 = .ok (.aload_n 0, 1) := by decide +kernel
theorem dX0_append_30 : decode cX0_append 30 = .ok (.invokevirtual 28, 3) := by decide +kernel
theorem dX0_append_33 : decode cX0_append 33 = .ok (.aload_n 0, 1) := by decide +kernel
theorem dX0_append_34 : decode cX0_append 34 = .ok (.getfield 25, 3) := by decide +kernel
theorem dX0_append_37 : decode cX0_append 37 = .ok (.ireturn, 1) := by decide +kernel
theorem dX0_clear_0 : decode cX0_clear 0 = .ok (.aload_n 0, 1) := by decide +kernel
theorem dX0_clear_1 : decode cX0_clear 1 = .ok (.getfield 25, 3) := by decide +kernel
theorem dX0_clear_4 : decode cX0_clear 4 = .ok (.istore_n 1, 1) := by decide +kernel
theorem dX0_clear_5 : decode cX0_clear 5 = .ok (.aload_n 0, 1) := by decide +kernel
theorem dX0_clear_6 : decode cX0_clear 6 = .ok (.iconst 0, 1) := by decide +kernel
theorem dX0_clear_7 : decode cX0_clear 7 = .ok (.putfield 25, 3) := by decide +kernel
theorem dX0_clear_10 : decode cX0_clear 10 = .ok (.aload_n 0, 1) := by decide +kernel
theorem dX0_clear_11 : decode cX0_clear 11 = .ok (.invokevirtual 28, 3) := by decide +kernel
theorem dX0_clear_14 : decode cX0_clear 14 = .ok (.iload_n 1, 1) := by decide +kernel
theorem dX0_clear_15 : decode cX0_clear 15 = .ok (.ireturn, 1) := by decide +kernel
theorem dX0_parse_0 : decode cX0_parse 0 = .ok (.aload_n 0, 1) := by decide +kernel
theorem dX0_parse_1 : decode cX0_parse 1 = .ok (.iconst 0, 1) := by decide +kernel
theorem dX0_parse_2 : decode cX0_parse 2 = .ok (.putfield 31, 3) := by decide +kernel
theorem dX0_parse_5 : decode cX0_parse 5 = .ok (.aload_n 0, 1) := by decide +kernel
theorem dX0_parse_6 : decode cX0_parse 6 = .ok (.iconst 0, 1) := by decide +kernel
theorem dX0_parse_7 : decode cX0_parse 7 = .ok (.putfield 34, 3) := by decide +kernel
theorem dX0_parse_10 : decode cX0_parse 10 = .ok (.aload_n 0, 1) := by decide +kernel
theorem dX0_parse_11 : decode cX0_parse 11 = .ok (.iconst (-1), 1) := by decide +kernel
theorem dX0_parse_12 : decode cX0_parse 12 = .ok (.putfield 21, 3) := by decide +kernel
theorem dX0_parse_15 : decode cX0_parse 15 = .ok (.iconst 0, 1) := by decide +kernel
theorem dX0_parse_16 : decode cX0_parse 16 = .ok (.istore_n 1, 1) := by decide +kernel
theorem dX0_parse_17 : decode cX0_parse 17 = .ok (.iconst 0, 1) := by decide +kernel
theorem dX0_parse_18 : decode cX0_parse 18 = .ok (.istore_n 2, 1) := by decide +kernel
theorem dX0_parse_19 : decode cX0_parse 19 = .ok (.iload_n 1, 1) := by decide +kernel
theorem dX0_parse_20 : decode cX0_parse 20 = .ok (.aload_n 0, 1) := by decide +kernel
theorem dX0_parse_21 : decode cX0_parse 21 = .ok (.getfield 25, 3) := by decide +kernel
theorem dX0_parse_24 : decode cX0_parse 24 = .ok (.if_icmp .ge 46, 3) := by decide +kernel
theorem dX0_parse_27 : decode cX0_parse 27 = .ok (.iload_n 2, 1) := by decide +kernel
theorem dX0_parse_28 : decode cX0_parse 28 = .ok (.ifCond .ne 16, 3) := by decide +kernel
theorem dX0_parse_31 : decode cX0_parse 31 = .ok (.aload_n 0, 1) := by decide +kernel
theorem dX0_parse_32 : decode cX0_parse 32 = .ok (.aload_n 0, 1) := by decide +kernel
theorem dX0_parse_33 : decode cX0_parse 33 = .ok (.getfield 9, 3) := by decide +kernel
theorem dX0_parse_36 : decode cX0_parse 36 = .ok (.iload_n 1, 1) := by decide +kernel
theorem dX0_parse_37 : decode cX0_parse 37 = .ok (.iaload, 1) := by decide +kernel
theorem dX0_parse_38 : decode cX0_parse 38 = .ok (.invokevirtual 37, 3) := by decide +kernel
theorem dX0_parse_41 : decode cX0_parse 41 = .ok (.goto 14, 3) := by decide +kernel
theorem dX0_parse_44 : decode cX0_parse 44 = .ok (.aload_n 0, 1) := by decide +kernel
theorem dX0_parse_45 : decode cX0_parse 45 = .ok (.aload_n 0, 1) := by decide +kernel
theorem dX0_parse_46 : decode cX0_parse 46 = .ok (.getfield 9, 3) := by decide +kernel
theorem dX0_parse_49 : decode cX0_parse 49 = .ok (.iload_n 1, 1) := by decide +kernel
theorem dX0_parse_50 : decode cX0_parse 50 = .ok (.iaload, 1) := by decide +kernel
theorem dX0_parse_51 : decode cX0_parse 51 = .ok (.iload_n 2, 1) := by decide +kernel
theorem dX0_parse_52 : decode cX0_parse 52 = .ok (.invokevirtual 41, 3) := by decide +kernel
theorem dX0_parse_55 : decode cX0_parse 55 = .ok (.istore_n 2, 1) := by decide +kernel
theorem dX0_parse_56 : decode cX0_parse 56 = .ok (.iload_n 2, 1) := by decide +kernel
theorem dX0_parse_57 : decode cX0_parse 57 = .ok (.iconst 3, 1) := by decide +kernel
theorem dX0_parse_58 : decode cX0_parse 58 = .ok (.if_icmp .ne 6, 3) := by decide +kernel
theorem dX0_parse_61 : decode cX0_parse 61 = .ok (.goto 9, 3) := by decide +kernel
theorem dX0_parse_64 : decode cX0_parse 64 = .ok (.iinc 1 1, 3) := by decide +kernel
theorem dX0_parse_67 : decode cX0_parse 67 = .ok (.goto (-48), 3) := by decide +kernel
theorem dX0_parse_70 : decode cX0_parse 70 = .ok (.iload_n 2, 1) := by decide +kernel
theorem dX0_parse_71 : decode cX0_parse 71 = .ok (.iconst 3, 1) := by decide +kernel
theorem dX0_parse_72 : decode cX0_parse 72 = .ok (.if_icmp .eq 14, 3) := by decide +kernel
theorem dX0_parse_75 : decode cX0_parse 75 = .ok (.iload_n 2, 1) := by decide +kernel
theorem dX0_parse_76 : decode cX0_parse 76 = .ok (.ifCond .ne 25, 3) := by decide +kernel
theorem dX0_parse_79 : decode cX0_parse 79 = .ok (.aload_n 0, 1) := by decide +kernel
theorem dX0_parse_80 : decode cX0_parse 80 = .ok (.getfield 25, 3) := by decide +kernel
theorem dX0_parse_83 : decode cX0_parse 83 = .ok (.ifCond .le 18, 3) := by decide +kernel
theorem dX0_parse_86 : decode cX0_parse 86 = .ok (.aload_n 0, 1) := by decide +kernel
theorem dX0_parse_87 : decode cX0_parse 87 = .ok (.iload_n 1, 1) := by decide +kernel
theorem dX0_parse_88 : decode cX0_parse 88 = .ok (.putfield 21, 3) := by decide +kernel
theorem dX0_parse_91 : decode cX0_parse 91 = .ok (.aload_n 0, 1) := by decide +kernel
theorem dX0_parse_92 : decode cX0_parse 92 = .ok (.iconst 0, 1) := by decide +kernel
theorem dX0_parse_93 : decode cX0_parse 93 = .ok (.putfield 31, 3) := by decide +kernel
theorem dX0_parse_96 : decode cX0_parse 96 = .ok (.aload_n 0, 1) := by decide +kernel
theorem dX0_parse_97 : decode cX0_parse 97 = .ok (.iconst 0, 1) := by decide +kernel
theorem dX0_parse_98 : decode cX0_parse 98 = .ok (.putfield 34, 3) := by decide +kernel
theorem dX0_parse_101 : decode cX0_parse 101 = .ok (.return_, 1) := by decide +kernel
theorem dX0_begin_0 : decode cX0_begin 0 = .ok (.iload_n 1, 1) := by decide +kernel
theorem dX0_begin_1 : decode cX0_begin 1 = .ok (.bipush 48, 2) := by decide +kernel
theorem dX0_begin_3 : decode cX0_begin 3 = .ok (.isub, 1) := by decide +kernel
theorem dX0_begin_4 : decode cX0_begin 4 = .ok (.istore_n 2, 1) := by decide +kernel
theorem dX0_begin_5 : decode cX0_begin 5 = .ok (.aload_n 0, 1) := by decide +kernel
theorem dX0_begin_6 : decode cX0_begin 6 = .ok (.getfield 31, 3) := by decide +kernel
theorem dX0_begin_9 : decode cX0_begin 9 = .ok (.bipush 12, 2) := by decide +kernel
theorem dX0_begin_11 : decode cX0_begin 11 = .ok (.if_icmp .ge 12, 3) := by decide +kernel
theorem dX0_begin_14 : decode cX0_begin 14 = .ok (.iload_n 2, 1) := by decide +kernel
theorem dX0_begin_15 : decode cX0_begin 15 = .ok (.bipush 6, 2) := by decide +kernel
theorem dX0_begin_17 : decode cX0_begin 17 = .ok (.invokestatic 45, 3) := by decide +kernel
theorem dX0_begin_20 : decode cX0_begin 20 = .ok (.ifCond .ne 5, 3) := by decide +kernel
theorem dX0_begin_23 : decode cX0_begin 23 = .ok (.iconst 3, 1) := by decide +kernel
theorem dX0_begin_24 : decode cX0_begin 24 = .ok (.ireturn, 1) := by decide +kernel
theorem dX0_begin_25 : decode cX0_begin 25 = .ok (.aload_n 0, 1) := by decide +kernel
theorem dX0_begin_26 : decode cX0_begin 26 = .ok (.getfield 15, 3) := by decide +kernel
theorem dX0_begin_29 : decode cX0_begin 29 = .ok (.aload_n 0, 1) := by decide +kernel
theorem dX0_begin_30 : decode cX0_begin 30 = .ok (.getfield 31, 3) := by decide +kernel
theorem dX0_begin_33 : decode cX0_begin 33 = .ok (.iload_n 2, 1) := by decide +kernel
theorem dX0_begin_34 : decode cX0_begin 34 = .ok (.iastore, 1) := by decide +kernel
theorem dX0_begin_35 : decode cX0_begin 35 = .ok (.aload_n 0, 1) := by decide +kernel
theorem dX0_begin_36 : decode cX0_begin 36 = .ok (.getfield 18, 3) := by decide +kernel
theorem dX0_begin_39 : decode cX0_begin 39 = .ok (.aload_n 0, 1) := by decide +kernel
theorem dX0_begin_40 : decode cX0_begin 40 = .ok (.getfield 31, 3) := by decide +kernel
theorem dX0_begin_43 : decode cX0_begin 43 = .ok (.iconst 0, 1) := by decide +kernel
theorem dX0_begin_44 : decode cX0_begin 44 = .ok (.iastore, 1) := by decide +kernel
theorem dX0_begin_45 : decode cX0_begin 45 = .ok (.aload_n 0, 1) := by decide +kernel
theorem dX0_begin_46 : decode cX0_begin 46 = .ok (.dup, 1) := by decide +kernel
theorem dX0_begin_47 : decode cX0_begin 47 = .ok (.getfield 31, 3) := by decide +kernel
theorem dX0_begin_50 : decode cX0_begin 50 = .ok (.iconst 1, 1) := by decide +kernel
theorem dX0_begin_51 : decode cX0_begin 51 = .ok (.iadd, 1) := by decide +kernel
theorem dX0_begin_52 : decode cX0_begin 52 = .ok (.putfield 31, 3) := by decide +kernel
theorem dX0_begin_55 : decode cX0_begin 55 = .ok (.iconst 1, 1) := by decide +kernel
theorem dX0_begin_56 : decode cX0_begin 56 = .ok (.ireturn, 1) := by decide +kernel
theorem dX0_goOn_0 : decode cX0_goOn 0 = .ok (.aload_n 0, 1) := by decide +kernel
theorem dX0_goOn_1 : decode cX0_goOn 1 = .ok (.getfield 31, 3) := by decide +kernel
theorem dX0_goOn_4 : decode cX0_goOn 4 = .ok (.iconst 1, 1) := by decide +kernel
theorem dX0_goOn_5 : decode cX0_goOn 5 = .ok (.isub, 1) := by decide +kernel
theorem dX0_goOn_6 : decode cX0_goOn 6 = .ok (.istore_n 3, 1) := by decide +kernel
theorem dX0_goOn_7 : decode cX0_goOn 7 = .ok (.iload_n 1, 1) := by decide +kernel
theorem dX0_goOn_8 : decode cX0_goOn 8 = .ok (.bipush 59, 2) := by decide +kernel
theorem dX0_goOn_10 : decode cX0_goOn 10 = .ok (.if_icmp .ne 5, 3) := by decide +kernel
theorem dX0_goOn_13 : decode cX0_goOn 13 = .ok (.iconst 0, 1) := by decide +kernel
theorem dX0_goOn_14 : decode cX0_goOn 14 = .ok (.ireturn, 1) := by decide +kernel
theorem dX0_goOn_15 : decode cX0_goOn 15 = .ok (.iload_n 2, 1) := by decide +kernel
theorem dX0_goOn_16 : decode cX0_goOn 16 = .ok (.iconst 2, 1) := by decide +kernel
theorem dX0_goOn_17 : decode cX0_goOn 17 = .ok (.if_icmp .eq 12, 3) := by decide +kernel
theorem dX0_goOn_20 : decode cX0_goOn 20 = .ok (.iload_n 3, 1) := by decide +kernel
theorem dX0_goOn_21 : decode cX0_goOn 21 = .ok (.bipush 12, 2) := by decide +kernel
theorem dX0_goOn_23 : decode cX0_goOn 23 = .ok (.invokestatic 45, 3) := by decide +kernel
theorem dX0_goOn_26 : decode cX0_goOn 26 = .ok (.ifCond .ne 5, 3) := by decide +kernel
theorem dX0_goOn_29 : decode cX0_goOn 29 = .ok (.iconst 3, 1) := by decide +kernel
theorem dX0_goOn_30 : decode cX0_goOn 30 = .ok (.ireturn, 1) := by decide +kernel
theorem dX0_goOn_31 : decode cX0_goOn 31 = .ok (.iload_n 1, 1) := by decide +kernel
theorem dX0_goOn_32 : decode cX0_goOn 32 = .ok (.bipush 33, 2) := by decide +kernel
theorem dX0_goOn_34 : decode cX0_goOn 34 = .ok (.if_icmp .ne 17, 3) := by decide +kernel
theorem dX0_goOn_37 : decode cX0_goOn 37 = .ok (.aload_n 0, 1) := by decide +kernel
theorem dX0_goOn_38 : decode cX0_goOn 38 = .ok (.dup, 1) := by decide +kernel
theorem dX0_goOn_39 : decode cX0_goOn 39 = .ok (.getfield 34, 3) := by decide +kernel
theorem dX0_goOn_42 : decode cX0_goOn 42 = .ok (.iconst 1, 1) := by decide +kernel
theorem dX0_goOn_43 : decode cX0_goOn 43 = .ok (.iload_n 3, 1) := by decide +kernel
theorem dX0_goOn_44 : decode cX0_goOn 44 = .ok (.ishl, 1) := by decide +kernel
theorem dX0_goOn_45 : decode cX0_goOn 45 = .ok (.ior, 1) := by decide +kernel
theorem dX0_goOn_46 : decode cX0_goOn 46 = .ok (.putfield 34, 3) := by decide +kernel
theorem dX0_goOn_49 : decode cX0_goOn 49 = .ok (.iconst 2, 1) := by decide +kernel
theorem dX0_goOn_50 : decode cX0_goOn 50 = .ok (.ireturn, 1) := by decide +kernel
theorem dX0_goOn_51 : decode cX0_goOn 51 = .ok (.iload_n 1, 1) := by decide +kernel
theorem dX0_goOn_52 : decode cX0_goOn 52 = .ok (.bipush 97, 2) := by decide +kernel
theorem dX0_goOn_54 : decode cX0_goOn 54 = .ok (.isub, 1) := by decide +kernel
theorem dX0_goOn_55 : decode cX0_goOn 55 = .ok (.istore 4, 2) := by decide +kernel
theorem dX0_goOn_57 : decode cX0_goOn 57 = .ok (.iload 4, 2) := by decide +kernel
theorem dX0_goOn_59 : decode cX0_goOn 59 = .ok (.iload_n 3, 1) := by decide +kernel
theorem dX0_goOn_60 : decode cX0_goOn 60 = .ok (.invokestatic 45, 3) := by decide +kernel
theorem dX0_goOn_63 : decode cX0_goOn 63 = .ok (.ifCond .eq 19, 3) := by decide +kernel
theorem dX0_goOn_66 : decode cX0_goOn 66 = .ok (.aload_n 0, 1) := by decide +kernel
theorem dX0_goOn_67 : decode cX0_goOn 67 = .ok (.getfield 18, 3) := by decide +kernel
theorem dX0_goOn_70 : decode cX0_goOn 70 = .ok (.iload_n 3, 1) := by decide +kernel
theorem dX0_goOn_71 : decode cX0_goOn 71 = .ok (.iaload, 1) := by decide +kernel
theorem dX0_goOn_72 : decode cX0_goOn 72 = .ok (.iload 4, 2) := by decide +kernel
theorem dX0_goOn_74 : decode cX0_goOn 74 = .ok (.ishr, 1) := by decide +kernel
theorem dX0_goOn_75 : decode cX0_goOn 75 = .ok (.ifCond .ne 7, 3) := by decide +kernel
theorem dX0_goOn_78 : decode cX0_goOn 78 = .ok (.iconst 1, 1) := by decide +kernel
theorem dX0_goOn_79 : decode cX0_goOn 79 = .ok (.goto 4, 3) := by decide +kernel
theorem dX0_goOn_82 : decode cX0_goOn 82 = .ok (.iconst 0, 1) := by decide +kernel
theorem dX0_goOn_83 : decode cX0_goOn 83 = .ok (.istore 5, 2) := by decide +kernel
theorem dX0_goOn_85 : decode cX0_goOn 85 = .ok (.iload 5, 2) := by decide +kernel
theorem dX0_goOn_87 : decode cX0_goOn 87 = .ok (.ifCond .eq 16, 3) := by decide +kernel
theorem dX0_goOn_90 : decode cX0_goOn 90 = .ok (.aload_n 0, 1) := by decide +kernel
theorem dX0_goOn_91 : decode cX0_goOn 91 = .ok (.getfield 18, 3) := by decide +kernel
theorem dX0_goOn_94 : decode cX0_goOn 94 = .ok (.iload_n 3, 1) := by decide +kernel
theorem dX0_goOn_95 : decode cX0_goOn 95 = .ok (.iaload, 1) := by decide +kernel
theorem dX0_goOn_96 : decode cX0_goOn 96 = .ok (.invokestatic 49, 3) := by decide +kernel
theorem dX0_goOn_99 : decode cX0_goOn 99 = .ok (.iconst 3, 1) := by decide +kernel
theorem dX0_goOn_100 : decode cX0_goOn 100 = .ok (.if_icmp .lt 5, 3) := by decide +kernel
theorem dX0_goOn_103 : decode cX0_goOn 103 = .ok (.iconst 3, 1) := by decide +kernel
theorem dX0_goOn_104 : decode cX0_goOn 104 = .ok (.ireturn, 1) := by decide +kernel
theorem dX0_goOn_105 : decode cX0_goOn 105 = .ok (.aload_n 0, 1) := by decide +kernel
theorem dX0_goOn_106 : decode cX0_goOn 106 = .ok (.getfield 18, 3) := by decide +kernel
theorem dX0_goOn_109 : decode cX0_goOn 109 = .ok (.iload_n 3, 1) := by decide +kernel
theorem dX0_goOn_110 : decode cX0_goOn 110 = .ok (.dup2, 1) := by decide +kernel
theorem dX0_goOn_111 : decode cX0_goOn 111 = .ok (.iaload, 1) := by decide +kernel
theorem dX0_goOn_112 : decode cX0_goOn 112 = .ok (.iconst 1, 1) := by decide +kernel
theorem dX0_goOn_113 : decode cX0_goOn 113 = .ok (.iload 4, 2) := by decide +kernel
theorem dX0_goOn_115 : decode cX0_goOn 115 = .ok (.ishl, 1) := by decide +kernel
theorem dX0_goOn_116 : decode cX0_goOn 116 = .ok (.ior, 1) := by decide +kernel
theorem dX0_goOn_117 : decode cX0_goOn 117 = .ok (.iastore, 1) := by decide +kernel
theorem dX0_goOn_118 : decode cX0_goOn 118 = .ok (.iconst 1, 1) := by decide +kernel
theorem dX0_goOn_119 : decode cX0_goOn 119 = .ok (.ireturn, 1) := by decide +kernel
theorem dX0_standing_0 : decode cX0_standing 0 = .ok (.aload_n 0, 1) := by decide +kernel
theorem dX0_standing_1 : decode cX0_standing 1 = .ok (.getfield 31, 3) := by decide +kernel
theorem dX0_standing_4 : decode cX0_standing 4 = .ok (.invokestatic 54, 3) := by decide +kernel
theorem dX0_standing_7 : decode cX0_standing 7 = .ok (.aload_n 0, 1) := by decide +kernel
theorem dX0_standing_8 : decode cX0_standing 8 = .ok (.iload_n 1, 1) := by decide +kernel
theorem dX0_standing_9 : decode cX0_standing 9 = .ok (.invokevirtual 57, 3) := by decide +kernel
theorem dX0_standing_12 : decode cX0_standing 12 = .ok (.iconst (-1), 1) := by decide +kernel
theorem dX0_standing_13 : decode cX0_standing 13 = .ok (.ixor, 1) := by decide +kernel
theorem dX0_standing_14 : decode cX0_standing 14 = .ok (.iand, 1) := by decide +kernel
theorem dX0_standing_15 : decode cX0_standing 15 = .ok (.ireturn, 1) := by decide +kernel
theorem dX0_fallen_0 : decode cX0_fallen 0 = .ok (.iload_n 1, 1) := by decide +kernel
theorem dX0_fallen_1 : decode cX0_fallen 1 = .ok (.istore_n 2, 1) := by decide +kernel
theorem dX0_fallen_2 : decode cX0_fallen 2 = .ok (.iconst 0, 1) := by decide +kernel
theorem dX0_fallen_3 : decode cX0_fallen 3 = .ok (.istore_n 3, 1) := by decide +kernel
theorem dX0_fallen_4 : decode cX0_fallen 4 = .ok (.iload_n 3, 1) := by decide +kernel
theorem dX0_fallen_5 : decode cX0_fallen 5 = .ok (.aload_n 0, 1) := by decide +kernel
theorem dX0_fallen_6 : decode cX0_fallen 6 = .ok (.getfield 31, 3) := by decide +kernel
theorem dX0_fallen_9 : decode cX0_fallen 9 = .ok (.if_icmp .ge 37, 3) := by decide +kernel
theorem dX0_fallen_12 : decode cX0_fallen 12 = .ok (.aload_n 0, 1) := by decide +kernel
theorem dX0_fallen_13 : decode cX0_fallen 13 = .ok (.getfield 34, 3) := by decide +kernel
theorem dX0_fallen_16 : decode cX0_fallen 16 = .ok (.iload_n 3, 1) := by decide +kernel
theorem dX0_fallen_17 : decode cX0_fallen 17 = .ok (.ishr, 1) := by decide +kernel
theorem dX0_fallen_18 : decode cX0_fallen 18 = .ok (.iconst 1, 1) := by decide +kernel
theorem dX0_fallen_19 : decode cX0_fallen 19 = .ok (.iand, 1) := by decide +kernel
theorem dX0_fallen_20 : decode cX0_fallen 20 = .ok (.ifCond .ne 20, 3) := by decide +kernel
theorem dX0_fallen_23 : decode cX0_fallen 23 = .ok (.aload_n 0, 1) := by decide +kernel
theorem dX0_fallen_24 : decode cX0_fallen 24 = .ok (.getfield 18, 3) := by decide +kernel
theorem dX0_fallen_27 : decode cX0_fallen 27 = .ok (.iload_n 3, 1) := by decide +kernel
theorem dX0_fallen_28 : decode cX0_fallen 28 = .ok (.iaload, 1) := by decide +kernel
theorem dX0_fallen_29 : decode cX0_fallen 29 = .ok (.iload_n 2, 1) := by decide +kernel
theorem dX0_fallen_30 : decode cX0_fallen 30 = .ok (.iand, 1) := by decide +kernel
theorem dX0_fallen_31 : decode cX0_fallen 31 = .ok (.ifCond .eq 9, 3) := by decide +kernel
theorem dX0_fallen_34 : decode cX0_fallen 34 = .ok (.iload_n 2, 1) := by decide +kernel
theorem dX0_fallen_35 : decode cX0_fallen 35 = .ok (.iconst 1, 1) := by decide +kernel
theorem dX0_fallen_36 : decode cX0_fallen 36 = .ok (.iload_n 3, 1) := by decide +kernel
theorem dX0_fallen_37 : decode cX0_fallen 37 = .ok (.ishl, 1) := by decide +kernel
theorem dX0_fallen_38 : decode cX0_fallen 38 = .ok (.ior, 1) := by decide +kernel
theorem dX0_fallen_39 : decode cX0_fallen 39 = .ok (.istore_n 2, 1) := by decide +kernel
theorem dX0_fallen_40 : decode cX0_fallen 40 = .ok (.iinc 3 1, 3) := by decide +kernel
theorem dX0_fallen_43 : decode cX0_fallen 43 = .ok (.goto (-39), 3) := by decide +kernel
theorem dX0_fallen_46 : decode cX0_fallen 46 = .ok (.iload_n 2, 1) := by decide +kernel
theorem dX0_fallen_47 : decode cX0_fallen 47 = .ok (.ireturn, 1) := by decide +kernel
theorem dX0_rootOf_0 : decode cX0_rootOf 0 = .ok (.iconst 0, 1) := by decide +kernel
theorem dX0_rootOf_1 : decode cX0_rootOf 1 = .ok (.istore_n 3, 1) := by decide +kernel
theorem dX0_rootOf_2 : decode cX0_rootOf 2 = .ok (.iload_n 3, 1) := by decide +kernel
theorem dX0_rootOf_3 : decode cX0_rootOf 3 = .ok (.iload_n 1, 1) := by decide +kernel
theorem dX0_rootOf_4 : decode cX0_rootOf 4 = .ok (.if_icmp .gt 43, 3) := by decide +kernel
theorem dX0_rootOf_7 : decode cX0_rootOf 7 = .ok (.iload_n 3, 1) := by decide +kernel
theorem dX0_rootOf_8 : decode cX0_rootOf 8 = .ok (.aload_n 0, 1) := by decide +kernel
theorem dX0_rootOf_9 : decode cX0_rootOf 9 = .ok (.getfield 31, 3) := by decide +kernel
theorem dX0_rootOf_12 : decode cX0_rootOf 12 = .ok (.if_icmp .ge 35, 3) := by decide +kernel
theorem dX0_rootOf_15 : decode cX0_rootOf 15 = .ok (.iload_n 2, 1) := by decide +kernel
theorem dX0_rootOf_16 : decode cX0_rootOf 16 = .ok (.iload_n 3, 1) := by decide +kernel
theorem dX0_rootOf_17 : decode cX0_rootOf 17 = .ok (.invokestatic 60, 3) := by decide +kernel
theorem dX0_rootOf_20 : decode cX0_rootOf 20 = .ok (.iconst 1, 1) := by decide +kernel
theorem dX0_rootOf_21 : decode cX0_rootOf 21 = .ok (.if_icmp .ne 20, 3) := by decide +kernel
theorem dX0_rootOf_24 : decode cX0_rootOf 24 = .ok (.aload_n 0, 1) := by decide +kernel
theorem dX0_rootOf_25 : decode cX0_rootOf 25 = .ok (.iconst 1, 1) := by decide +kernel
theorem dX0_rootOf_26 : decode cX0_rootOf 26 = .ok (.iload_n 3, 1) := by decide +kernel
theorem dX0_rootOf_27 : decode cX0_rootOf 27 = .ok (.ishl, 1) := by decide +kernel
theorem dX0_rootOf_28 : decode cX0_rootOf 28 = .ok (.invokevirtual 57, 3) := by decide +kernel
theorem dX0_rootOf_31 : decode cX0_rootOf 31 = .ok (.iload_n 1, 1) := by decide +kernel
theorem dX0_rootOf_32 : decode cX0_rootOf 32 = .ok (.invokestatic 60, 3) := by decide +kernel
theorem dX0_rootOf_35 : decode cX0_rootOf 35 = .ok (.iconst 1, 1) := by decide +kernel
theorem dX0_rootOf_36 : decode cX0_rootOf 36 = .ok (.if_icmp .ne 5, 3) := by decide +kernel
theorem dX0_rootOf_39 : decode cX0_rootOf 39 = .ok (.iload_n 3, 1) := by decide +kernel
theorem dX0_rootOf_40 : decode cX0_rootOf 40 = .ok (.ireturn, 1) := by decide +kernel
theorem dX0_rootOf_41 : decode cX0_rootOf 41 = .ok (.iinc 3 1, 3) := by decide +kernel
theorem dX0_rootOf_44 : decode cX0_rootOf 44 = .ok (.goto (-42), 3) := by decide +kernel
theorem dX0_rootOf_47 : decode cX0_rootOf 47 = .ok (.iconst (-1), 1) := by decide +kernel
theorem dX0_rootOf_48 : decode cX0_rootOf 48 = .ok (.ireturn, 1) := by decide +kernel
theorem dX0_doneBy_0 : decode cX0_doneBy 0 = .ok (.iconst 0, 1) := by decide +kernel
theorem dX0_doneBy_1 : decode cX0_doneBy 1 = .ok (.istore_n 2, 1) := by decide +kernel
theorem dX0_doneBy_2 : decode cX0_doneBy 2 = .ok (.iconst 0, 1) := by decide +kernel
theorem dX0_doneBy_3 : decode cX0_doneBy 3 = .ok (.istore_n 3, 1) := by decide +kernel
theorem dX0_doneBy_4 : decode cX0_doneBy 4 = .ok (.iload_n 3, 1) := by decide +kernel
theorem dX0_doneBy_5 : decode cX0_doneBy 5 = .ok (.aload_n 0, 1) := by decide +kernel
theorem dX0_doneBy_6 : decode cX0_doneBy 6 = .ok (.getfield 31, 3) := by decide +kernel
theorem dX0_doneBy_9 : decode cX0_doneBy 9 = .ok (.if_icmp .ge 24, 3) := by decide +kernel
theorem dX0_doneBy_12 : decode cX0_doneBy 12 = .ok (.iload_n 2, 1) := by decide +kernel
theorem dX0_doneBy_13 : decode cX0_doneBy 13 = .ok (.iload_n 1, 1) := by decide +kernel
theorem dX0_doneBy_14 : decode cX0_doneBy 14 = .ok (.aload_n 0, 1) := by decide +kernel
theorem dX0_doneBy_15 : decode cX0_doneBy 15 = .ok (.getfield 15, 3) := by decide +kernel
theorem dX0_doneBy_18 : decode cX0_doneBy 18 = .ok (.iload_n 3, 1) := by decide +kernel
theorem dX0_doneBy_19 : decode cX0_doneBy 19 = .ok (.iaload, 1) := by decide +kernel
theorem dX0_doneBy_20 : decode cX0_doneBy 20 = .ok (.invokestatic 60, 3) := by decide +kernel
theorem dX0_doneBy_23 : decode cX0_doneBy 23 = .ok (.iload_n 3, 1) := by decide +kernel
theorem dX0_doneBy_24 : decode cX0_doneBy 24 = .ok (.ishl, 1) := by decide +kernel
theorem dX0_doneBy_25 : decode cX0_doneBy 25 = .ok (.ior, 1) := by decide +kernel
theorem dX0_doneBy_26 : decode cX0_doneBy 26 = .ok (.istore_n 2, 1) := by decide +kernel
theorem dX0_doneBy_27 : decode cX0_doneBy 27 = .ok (.iinc 3 1, 3) := by decide +kernel
theorem dX0_doneBy_30 : decode cX0_doneBy 30 = .ok (.goto (-26), 3) := by decide +kernel
theorem dX0_doneBy_33 : decode cX0_doneBy 33 = .ok (.iload_n 2, 1) := by decide +kernel
theorem dX0_doneBy_34 : decode cX0_doneBy 34 = .ok (.ireturn, 1) := by decide +kernel
theorem dX1_init_0 : decode cX1_init 0 = .ok (.aload_n 0, 1) := by decide +kernel
theorem dX1_init_1 : decode cX1_init 1 = .ok (.invokespecial 3, 3) := by decide +kernel
theorem dX1_init_4 : decode cX1_init 4 = .ok (.aload_n 0, 1) := by decide +kernel
theorem dX1_init_5 : decode cX1_init 5 = .ok (.new 9, 3) := by decide +kernel
theorem dX1_init_8 : decode cX1_init 8 = .ok (.dup, 1) := by decide +kernel
theorem dX1_init_9 : decode cX1_init 9 = .ok (.invokespecial 11, 3) := by decide +kernel
theorem dX1_init_12 : decode cX1_init 12 = .ok (.putfield 12, 3) := by decide +kernel
theorem dX1_init_15 : decode cX1_init 15 = .ok (.aload_n 0, 1) := by decide +kernel
theorem dX1_init_16 : decode cX1_init 16 = .ok (.aload_n 0, 1) := by decide +kernel
theorem dX1_init_17 : decode cX1_init 17 = .ok (.getfield 12, 3) := by decide +kernel
theorem dX1_init_20 : decode cX1_init 20 = .ok (.getfield 18, 3) := by decide +kernel
theorem dX1_init_23 : decode cX1_init 23 = .ok (.putfield 22, 3) := by decide +kernel
theorem dX1_init_26 : decode cX1_init 26 = .ok (.aload_n 0, 1) := by decide +kernel
theorem dX1_init_27 : decode cX1_init 27 = .ok (.bipush 6, 2) := by decide +kernel
theorem dX1_init_29 : decode cX1_init 29 = .ok (.bipush 12, 2) := by decide +kernel
theorem dX1_init_31 : decode cX1_init 31 = .ok (.multianewarray 23 2, 4) := by decide +kernel
theorem dX1_init_35 : decode cX1_init 35 = .ok (.putfield 25, 3) := by decide +kernel
theorem dX1_init_38 : decode cX1_init 38 = .ok (.return_, 1) := by decide +kernel
theorem dX1_renew_0 : decode cX1_renew 0 = .ok (.aload_n 0, 1) := by decide +kernel
theorem dX1_renew_1 : decode cX1_renew 1 = .ok (.aload_n 0, 1) := by decide +kernel
theorem dX1_renew_2 : decode cX1_renew 2 = .ok (.getfield 12, 3) := by decide +kernel
theorem dX1_renew_5 : decode cX1_renew 5 = .ok (.iconst (-1), 1) := by decide +kernel
theorem dX1_renew_6 : decode cX1_renew 6 = .ok (.invokevirtual 28, 3) := by decide +kernel
theorem dX1_renew_9 : decode cX1_renew 9 = .ok (.putfield 32, 3) := by decide +kernel
theorem dX1_renew_12 : decode cX1_renew 12 = .ok (.aload_n 0, 1) := by decide +kernel
theorem dX1_renew_13 : decode cX1_renew 13 = .ok (.aload_n 0, 1) := by decide +kernel
theorem dX1_renew_14 : decode cX1_renew 14 = .ok (.getfield 12, 3) := by decide +kernel
theorem dX1_renew_17 : decode cX1_renew 17 = .ok (.aload_n 0, 1) := by decide +kernel
theorem dX1_renew_18 : decode cX1_renew 18 = .ok (.getfield 32, 3) := by decide +kernel
theorem dX1_renew_21 : decode cX1_renew 21 = .ok (.invokevirtual 36, 3) := by decide +kernel
theorem dX1_renew_24 : decode cX1_renew 24 = .ok (.putfield 39, 3) := by decide +kernel
theorem dX1_renew_27 : decode cX1_renew 27 = .ok (.return_, 1) := by decide +kernel
theorem dX1_standingWith_0 : decode cX1_standingWith 0 = .ok (.aload_n 0, 1) := by decide +kernel
theorem dX1_standingWith_1 : decode cX1_standingWith 1 = .ok (.getfield 32, 3) := by decide +kernel
theorem dX1_standingWith_4 : decode cX1_standingWith 4 = .ok (.istore_n 3, 1) := by decide +kernel
theorem dX1_standingWith_5 : decode cX1_standingWith 5 = .ok (.aload_n 0, 1) := by decide +kernel
theorem dX1_standingWith_6 : decode cX1_standingWith 6 = .ok (.getfield 12, 3) := by decide +kernel
theorem dX1_standingWith_9 : decode cX1_standingWith 9 = .ok (.getfield 41, 3) := by decide +kernel
theorem dX1_standingWith_12 : decode cX1_standingWith 12 = .ok (.istore 4, 2) := by decide +kernel
theorem dX1_standingWith_14 : decode cX1_standingWith 14 = .ok (.iload_n 1, 1) := by decide +kernel
theorem dX1_standingWith_15 : decode cX1_standingWith 15 = .ok (.iconst (-1), 1) := by decide +kernel
theorem dX1_standingWith_16 : decode cX1_standingWith 16 = .ok (.if_icmp .eq 31, 3) := by decide +kernel
theorem dX1_standingWith_19 : decode cX1_standingWith 19 = .ok (.iload 4, 2) := by decide +kernel
theorem dX1_standingWith_21 : decode cX1_standingWith 21 = .ok (.bipush 12, 2) := by decide +kernel
theorem dX1_standingWith_23 : decode cX1_standingWith 23 = .ok (.if_icmp .ge 24, 3) := by decide +kernel
theorem dX1_standingWith_26 : decode cX1_standingWith 26 = .ok (.aload_n 0, 1) := by decide +kernel
theorem dX1_standingWith_27 : decode cX1_standingWith 27 = .ok (.getfield 12, 3) := by decide +kernel
theorem dX1_standingWith_30 : decode cX1_standingWith 30 = .ok (.getfield 44, 3) := by decide +kernel
theorem dX1_standingWith_33 : decode cX1_standingWith 33 = .ok (.iload 4, 2) := by decide +kernel
theorem dX1_standingWith_35 : decode cX1_standingWith 35 = .ok (.iload_n 1, 1) := by decide +kernel
theorem dX1_standingWith_36 : decode cX1_standingWith 36 = .ok (.iastore, 1) := by decide +kernel
theorem dX1_standingWith_37 : decode cX1_standingWith 37 = .ok (.iload_n 3, 1) := by decide +kernel
theorem dX1_standingWith_38 : decode cX1_standingWith 38 = .ok (.iconst 1, 1) := by decide +kernel
theorem dX1_standingWith_39 : decode cX1_standingWith 39 = .ok (.iload 4, 2) := by decide +kernel
theorem dX1_standingWith_41 : decode cX1_standingWith 41 = .ok (.ishl, 1) := by decide +kernel
theorem dX1_standingWith_42 : decode cX1_standingWith 42 = .ok (.ior, 1) := by decide +kernel
theorem dX1_standingWith_43 : decode cX1_standingWith 43 = .ok (.istore_n 3, 1) := by decide +kernel
theorem dX1_standingWith_44 : decode cX1_standingWith 44 = .ok (.iinc 4 1, 3) := by decide +kernel
theorem dX1_standingWith_47 : decode cX1_standingWith 47 = .ok (.iload_n 2, 1) := by decide +kernel
theorem dX1_standingWith_48 : decode cX1_standingWith 48 = .ok (.iconst (-1), 1) := by decide +kernel
theorem dX1_standingWith_49 : decode cX1_standingWith 49 = .ok (.if_icmp .eq 28, 3) := by decide +kernel
theorem dX1_standingWith_52 : decode cX1_standingWith 52 = .ok (.iload 4, 2) := by decide +kernel
theorem dX1_standingWith_54 : decode cX1_standingWith 54 = .ok (.bipush 12, 2) := by decide +kernel
theorem dX1_standingWith_56 : decode cX1_standingWith 56 = .ok (.if_icmp .ge 21, 3) := by decide +kernel
theorem dX1_standingWith_59 : decode cX1_standingWith 59 = .ok (.aload_n 0, 1) := by decide +kernel
theorem dX1_standingWith_60 : decode cX1_standingWith 60 = .ok (.getfield 12, 3) := by decide +kernel
theorem dX1_standingWith_63 : decode cX1_standingWith 63 = .ok (.getfield 44, 3) := by decide +kernel
theorem dX1_standingWith_66 : decode cX1_standingWith 66 = .ok (.iload 4, 2) := by decide +kernel
theorem dX1_standingWith_68 : decode cX1_standingWith 68 = .ok (.iload_n 2, 1) := by decide +kernel
theorem dX1_standingWith_69 : decode cX1_standingWith 69 = .ok (.iastore, 1) := by decide +kernel
theorem dX1_standingWith_70 : decode cX1_standingWith 70 = .ok (.iload_n 3, 1) := by decide +kernel
theorem dX1_standingWith_71 : decode cX1_standingWith 71 = .ok (.iconst 1, 1) := by decide +kernel
theorem dX1_standingWith_72 : decode cX1_standingWith 72 = .ok (.iload 4, 2) := by decide +kernel
theorem dX1_standingWith_74 : decode cX1_standingWith 74 = .ok (.ishl, 1) := by decide +kernel
theorem dX1_standingWith_75 : decode cX1_standingWith 75 = .ok (.ior, 1) := by decide +kernel
theorem dX1_standingWith_76 : decode cX1_standingWith 76 = .ok (.istore_n 3, 1) := by decide +kernel
theorem dX1_standingWith_77 : decode cX1_standingWith 77 = .ok (.aload_n 0, 1) := by decide +kernel
theorem dX1_standingWith_78 : decode cX1_standingWith 78 = .ok (.getfield 22, 3) := by decide +kernel
theorem dX1_standingWith_81 : decode cX1_standingWith 81 = .ok (.aload_n 0, 1) := by decide +kernel
theorem dX1_standingWith_82 : decode cX1_standingWith 82 = .ok (.getfield 12, 3) := by decide +kernel
theorem dX1_standingWith_85 : decode cX1_standingWith 85 = .ok (.iload_n 3, 1) := by decide +kernel
theorem dX1_standingWith_86 : decode cX1_standingWith 86 = .ok (.invokevirtual 48, 3) := by decide +kernel
theorem dX1_standingWith_89 : decode cX1_standingWith 89 = .ok (.invokevirtual 51, 3) := by decide +kernel
theorem dX1_standingWith_92 : decode cX1_standingWith 92 = .ok (.ireturn, 1) := by decide +kernel
theorem dX1_isAsTold_0 : decode cX1_isAsTold 0 = .ok (.iload_n 2, 1) := by decide +kernel
theorem dX1_isAsTold_1 : decode cX1_isAsTold 1 = .ok (.aload_n 0, 1) := by decide +kernel
theorem dX1_isAsTold_2 : decode cX1_isAsTold 2 = .ok (.getfield 22, 3) := by decide +kernel
theorem dX1_isAsTold_5 : decode cX1_isAsTold 5 = .ok (.getfield 56, 3) := by decide +kernel
theorem dX1_isAsTold_8 : decode cX1_isAsTold 8 = .ok (.invokestatic 57, 3) := by decide +kernel
theorem dX1_isAsTold_11 : decode cX1_isAsTold 11 = .ok (.iand, 1) := by decide +kernel
theorem dX1_isAsTold_12 : decode cX1_isAsTold 12 = .ok (.istore 4, 2) := by decide +kernel
theorem dX1_isAsTold_14 : decode cX1_isAsTold 14 = .ok (.iload_n 1, 1) := by decide +kernel
theorem dX1_isAsTold_15 : decode cX1_isAsTold 15 = .ok (.iload 4, 2) := by decide +kernel
theorem dX1_isAsTold_17 : decode cX1_isAsTold 17 = .ok (.iand, 1) := by decide +kernel
theorem dX1_isAsTold_18 : decode cX1_isAsTold 18 = .ok (.iload 4, 2) := by decide +kernel
theorem dX1_isAsTold_20 : decode cX1_isAsTold 20 = .ok (.if_icmp .ne 13, 3) := by decide +kernel
theorem dX1_isAsTold_23 : decode cX1_isAsTold 23 = .ok (.iload_n 1, 1) := by decide +kernel
theorem dX1_isAsTold_24 : decode cX1_isAsTold 24 = .ok (.iload_n 3, 1) := by decide +kernel
theorem dX1_isAsTold_25 : decode cX1_isAsTold 25 = .ok (.iand, 1) := by decide +kernel
theorem dX1_isAsTold_26 : decode cX1_isAsTold 26 = .ok (.ifCond .ne 7, 3) := by decide +kernel
theorem dX1_isAsTold_29 : decode cX1_isAsTold 29 = .ok (.iconst 1, 1) := by decide +kernel
theorem dX1_isAsTold_30 : decode cX1_isAsTold 30 = .ok (.goto 4, 3) := by decide +kernel
theorem dX1_isAsTold_33 : decode cX1_isAsTold 33 = .ok (.iconst 0, 1) := by decide +kernel
theorem dX1_isAsTold_34 : decode cX1_isAsTold 34 = .ok (.ireturn, 1) := by decide +kernel
theorem dX1_takersOf_0 : decode cX1_takersOf 0 = .ok (.aload_n 0, 1) := by decide +kernel
theorem dX1_takersOf_1 : decode cX1_takersOf 1 = .ok (.getfield 12, 3) := by decide +kernel
theorem dX1_takersOf_4 : decode cX1_takersOf 4 = .ok (.iload_n 1, 1) := by decide +kernel
theorem dX1_takersOf_5 : decode cX1_takersOf 5 = .ok (.aload_n 0, 1) := by decide +kernel
theorem dX1_takersOf_6 : decode cX1_takersOf 6 = .ok (.getfield 32, 3) := by decide +kernel
theorem dX1_takersOf_9 : decode cX1_takersOf 9 = .ok (.invokevirtual 60, 3) := by decide +kernel
theorem dX1_takersOf_12 : decode cX1_takersOf 12 = .ok (.istore_n 2, 1) := by decide +kernel
theorem dX1_takersOf_13 : decode cX1_takersOf 13 = .ok (.iload_n 2, 1) := by decide +kernel
theorem dX1_takersOf_14 : decode cX1_takersOf 14 = .ok (.iconst (-1), 1) := by decide +kernel
theorem dX1_takersOf_15 : decode cX1_takersOf 15 = .ok (.if_icmp .ne 7, 3) := by decide +kernel
theorem dX1_takersOf_18 : decode cX1_takersOf 18 = .ok (.iconst 0, 1) := by decide +kernel
theorem dX1_takersOf_19 : decode cX1_takersOf 19 = .ok (.goto 13, 3) := by decide +kernel
theorem dX1_takersOf_22 : decode cX1_takersOf 22 = .ok (.aload_n 0, 1) := by decide +kernel
theorem dX1_takersOf_23 : decode cX1_takersOf 23 = .ok (.getfield 39, 3) := by decide +kernel
theorem dX1_takersOf_26 : decode cX1_takersOf 26 = .ok (.iconst 1, 1) := by decide +kernel
theorem dX1_takersOf_27 : decode cX1_takersOf 27 = .ok (.iload_n 2, 1) := by decide +kernel
theorem dX1_takersOf_28 : decode cX1_takersOf 28 = .ok (.ishl, 1) := by decide +kernel
theorem dX1_takersOf_29 : decode cX1_takersOf 29 = .ok (.iconst (-1), 1) := by decide +kernel
theorem dX1_takersOf_30 : decode cX1_takersOf 30 = .ok (.ixor, 1) := by decide +kernel
theorem dX1_takersOf_31 : decode cX1_takersOf 31 = .ok (.iand, 1) := by decide +kernel
theorem dX1_takersOf_32 : decode cX1_takersOf 32 = .ok (.ireturn, 1) := by decide +kernel
theorem dX1_leastTaker_0 : decode cX1_leastTaker 0 = .ok (.iload_n 2, 1) := by decide +kernel
theorem dX1_leastTaker_1 : decode cX1_leastTaker 1 = .ok (.iconst (-1), 1) := by decide +kernel
theorem dX1_leastTaker_2 : decode cX1_leastTaker 2 = .ok (.if_icmp .ne 7, 3) := by decide +kernel
theorem dX1_leastTaker_5 : decode cX1_leastTaker 5 = .ok (.iconst 1, 1) := by decide +kernel
theorem dX1_leastTaker_6 : decode cX1_leastTaker 6 = .ok (.goto 4, 3) := by decide +kernel
theorem dX1_leastTaker_9 : decode cX1_leastTaker 9 = .ok (.iconst 2, 1) := by decide +kernel
theorem dX1_leastTaker_10 : decode cX1_leastTaker 10 = .ok (.istore_n 3, 1) := by decide +kernel
theorem dX1_leastTaker_11 : decode cX1_leastTaker 11 = .ok (.aload_n 0, 1) := by decide +kernel
theorem dX1_leastTaker_12 : decode cX1_leastTaker 12 = .ok (.getfield 12, 3) := by decide +kernel
theorem dX1_leastTaker_15 : decode cX1_leastTaker 15 = .ok (.getfield 41, 3) := by decide +kernel
theorem dX1_leastTaker_18 : decode cX1_leastTaker 18 = .ok (.iload_n 3, 1) := by decide +kernel
theorem dX1_leastTaker_19 : decode cX1_leastTaker 19 = .ok (.iadd, 1) := by decide +kernel
theorem dX1_leastTaker_20 : decode cX1_leastTaker 20 = .ok (.bipush 12, 2) := by decide +kernel
theorem dX1_leastTaker_22 : decode cX1_leastTaker 22 = .ok (.if_icmp .le 5, 3) := by decide +kernel
theorem dX1_leastTaker_25 : decode cX1_leastTaker 25 = .ok (.iconst (-1), 1) := by decide +kernel
theorem dX1_leastTaker_26 : decode cX1_leastTaker 26 = .ok (.ireturn, 1) := by decide +kernel
theorem dX1_leastTaker_27 : decode cX1_leastTaker 27 = .ok (.aload_n 0, 1) := by decide +kernel
theorem dX1_leastTaker_28 : decode cX1_leastTaker 28 = .ok (.iload_n 1, 1) := by decide +kernel
theorem dX1_leastTaker_29 : decode cX1_leastTaker 29 = .ok (.invokevirtual 64, 3) := by decide +kernel
theorem dX1_leastTaker_32 : decode cX1_leastTaker 32 = .ok (.istore 4, 2) := by decide +kernel
theorem dX1_leastTaker_34 : decode cX1_leastTaker 34 = .ok (.iload_n 2, 1) := by decide +kernel
theorem dX1_leastTaker_35 : decode cX1_leastTaker 35 = .ok (.iconst (-1), 1) := by decide +kernel
theorem dX1_leastTaker_36 : decode cX1_leastTaker 36 = .ok (.if_icmp .ne 8, 3) := by decide +kernel
theorem dX1_leastTaker_39 : decode cX1_leastTaker 39 = .ok (.bipush 63, 2) := by decide +kernel
theorem dX1_leastTaker_41 : decode cX1_leastTaker 41 = .ok (.goto 8, 3) := by decide +kernel
theorem dX1_leastTaker_44 : decode cX1_leastTaker 44 = .ok (.aload_n 0, 1) := by decide +kernel
theorem dX1_leastTaker_45 : decode cX1_leastTaker 45 = .ok (.iload_n 2, 1) := by decide +kernel
theorem dX1_leastTaker_46 : decode cX1_leastTaker 46 = .ok (.invokevirtual 64, 3) := by decide +kernel
theorem dX1_leastTaker_49 : decode cX1_leastTaker 49 = .ok (.istore 5, 2) := by decide +kernel
theorem dX1_leastTaker_51 : decode cX1_leastTaker 51 = .ok (.iconst 0, 1) := by decide +kernel
theorem dX1_leastTaker_52 : decode cX1_leastTaker 52 = .ok (.istore 6, 2) := by decide +kernel
theorem dX1_leastTaker_54 : decode cX1_leastTaker 54 = .ok (.iload 6, 2) := by decide +kernel
theorem dX1_leastTaker_56 : decode cX1_leastTaker 56 = .ok (.bipush 6, 2) := by decide +kernel
theorem dX1_leastTaker_58 : decode cX1_leastTaker 58 = .ok (.if_icmp .ge 35, 3) := by decide +kernel
theorem dX1_leastTaker_61 : decode cX1_leastTaker 61 = .ok (.iload 4, 2) := by decide +kernel
theorem dX1_leastTaker_63 : decode cX1_leastTaker 63 = .ok (.iload 6, 2) := by decide +kernel
theorem dX1_leastTaker_65 : decode cX1_leastTaker 65 = .ok (.invokestatic 67, 3) := by decide +kernel
theorem dX1_leastTaker_68 : decode cX1_leastTaker 68 = .ok (.iconst 1, 1) := by decide +kernel
theorem dX1_leastTaker_69 : decode cX1_leastTaker 69 = .ok (.if_icmp .ne 18, 3) := by decide +kernel
theorem dX1_leastTaker_72 : decode cX1_leastTaker 72 = .ok (.iload 5, 2) := by decide +kernel
theorem dX1_leastTaker_74 : decode cX1_leastTaker 74 = .ok (.iconst 1, 1) := by decide +kernel
theorem dX1_leastTaker_75 : decode cX1_leastTaker 75 = .ok (.iload 6, 2) := by decide +kernel
theorem dX1_leastTaker_77 : decode cX1_leastTaker 77 = .ok (.ishl, 1) := by decide +kernel
theorem dX1_leastTaker_78 : decode cX1_leastTaker 78 = .ok (.iconst (-1), 1) := by decide +kernel
theorem dX1_leastTaker_79 : decode cX1_leastTaker 79 = .ok (.ixor, 1) := by decide +kernel
theorem dX1_leastTaker_80 : decode cX1_leastTaker 80 = .ok (.iand, 1) := by decide +kernel
theorem dX1_leastTaker_81 : decode cX1_leastTaker 81 = .ok (.ifCond .eq 6, 3) := by decide +kernel
theorem dX1_leastTaker_84 : decode cX1_leastTaker 84 = .ok (.iload 6, 2) := by decide +kernel
theorem dX1_leastTaker_86 : decode cX1_leastTaker 86 = .ok (.ireturn, 1) := by decide +kernel
theorem dX1_leastTaker_87 : decode cX1_leastTaker 87 = .ok (.iinc 6 1, 3) := by decide +kernel
theorem dX1_leastTaker_90 : decode cX1_leastTaker 90 = .ok (.goto (-36), 3) := by decide +kernel
theorem dX1_leastTaker_93 : decode cX1_leastTaker 93 = .ok (.iconst (-1), 1) := by decide +kernel
theorem dX1_leastTaker_94 : decode cX1_leastTaker 94 = .ok (.ireturn, 1) := by decide +kernel
theorem dX1_leastFirst_0 : decode cX1_leastFirst 0 = .ok (.iload_n 3, 1) := by decide +kernel
theorem dX1_leastFirst_1 : decode cX1_leastFirst 1 = .ok (.iconst 1, 1) := by decide +kernel
theorem dX1_leastFirst_2 : decode cX1_leastFirst 2 = .ok (.if_icmp .ne 7, 3) := by decide +kernel
theorem dX1_leastFirst_5 : decode cX1_leastFirst 5 = .ok (.iconst (-1), 1) := by decide +kernel
theorem dX1_leastFirst_6 : decode cX1_leastFirst 6 = .ok (.goto 4, 3) := by decide +kernel
theorem dX1_leastFirst_9 : decode cX1_leastFirst 9 = .ok (.iconst 0, 1) := by decide +kernel
theorem dX1_leastFirst_10 : decode cX1_leastFirst 10 = .ok (.istore 4, 2) := by decide +kernel
theorem dX1_leastFirst_12 : decode cX1_leastFirst 12 = .ok (.iload_n 3, 1) := by decide +kernel
theorem dX1_leastFirst_13 : decode cX1_leastFirst 13 = .ok (.iconst 1, 1) := by decide +kernel
theorem dX1_leastFirst_14 : decode cX1_leastFirst 14 = .ok (.if_icmp .ne 7, 3) := by decide +kernel
theorem dX1_leastFirst_17 : decode cX1_leastFirst 17 = .ok (.iconst 0, 1) := by decide +kernel
theorem dX1_leastFirst_18 : decode cX1_leastFirst 18 = .ok (.goto 5, 3) := by decide +kernel
theorem dX1_leastFirst_21 : decode cX1_leastFirst 21 = .ok (.bipush 24, 2) := by decide +kernel
theorem dX1_leastFirst_23 : decode cX1_leastFirst 23 = .ok (.istore 5, 2) := by decide +kernel
theorem dX1_leastFirst_25 : decode cX1_leastFirst 25 = .ok (.iconst (-1), 1) := by decide +kernel
theorem dX1_leastFirst_26 : decode cX1_leastFirst 26 = .ok (.istore 6, 2) := by decide +kernel
theorem dX1_leastFirst_28 : decode cX1_leastFirst 28 = .ok (.iconst 0, 1) := by decide +kernel
theorem dX1_leastFirst_29 : decode cX1_leastFirst 29 = .ok (.istore 7, 2) := by decide +kernel
theorem dX1_leastFirst_31 : decode cX1_leastFirst 31 = .ok (.iload 7, 2) := by decide +kernel
theorem dX1_leastFirst_33 : decode cX1_leastFirst 33 = .ok (.bipush 24, 2) := by decide +kernel
theorem dX1_leastFirst_35 : decode cX1_leastFirst 35 = .ok (.if_icmp .ge 101, 3) := by decide +kernel
theorem dX1_leastFirst_38 : decode cX1_leastFirst 38 = .ok (.iload 4, 2) := by decide +kernel
theorem dX1_leastFirst_40 : decode cX1_leastFirst 40 = .ok (.istore 8, 2) := by decide +kernel
theorem dX1_leastFirst_42 : decode cX1_leastFirst 42 = .ok (.iload 8, 2) := by decide +kernel
theorem dX1_leastFirst_44 : decode cX1_leastFirst 44 = .ok (.iload 5, 2) := by decide +kernel
theorem dX1_leastFirst_46 : decode cX1_leastFirst 46 = .ok (.if_icmp .ge 84, 3) := by decide +kernel
theorem dX1_leastFirst_49 : decode cX1_leastFirst 49 = .ok (.aload_n 0, 1) := by decide +kernel
theorem dX1_leastFirst_50 : decode cX1_leastFirst 50 = .ok (.iload 7, 2) := by decide +kernel
theorem dX1_leastFirst_52 : decode cX1_leastFirst 52 = .ok (.iload 8, 2) := by decide +kernel
theorem dX1_leastFirst_54 : decode cX1_leastFirst 54 = .ok (.invokevirtual 70, 3) := by decide +kernel
theorem dX1_leastFirst_57 : decode cX1_leastFirst 57 = .ok (.istore 9, 2) := by decide +kernel
theorem dX1_leastFirst_59 : decode cX1_leastFirst 59 = .ok (.iload 9, 2) := by decide +kernel
theorem dX1_leastFirst_61 : decode cX1_leastFirst 61 = .ok (.iconst (-1), 1) := by decide +kernel
theorem dX1_leastFirst_62 : decode cX1_leastFirst 62 = .ok (.if_icmp .ne 6, 3) := by decide +kernel
theorem dX1_leastFirst_65 : decode cX1_leastFirst 65 = .ok (.goto 59, 3) := by decide +kernel
theorem dX1_leastFirst_68 : decode cX1_leastFirst 68 = .ok (.bipush 24, 2) := by decide +kernel
theorem dX1_leastFirst_70 : decode cX1_leastFirst 70 = .ok (.iload 9, 2) := by decide +kernel
theorem dX1_leastFirst_72 : decode cX1_leastFirst 72 = .ok (.imul, 1) := by decide +kernel
theorem dX1_leastFirst_73 : decode cX1_leastFirst 73 = .ok (.iload 7, 2) := by decide +kernel
theorem dX1_leastFirst_75 : decode cX1_leastFirst 75 = .ok (.iadd, 1) := by decide +kernel
theorem dX1_leastFirst_76 : decode cX1_leastFirst 76 = .ok (.istore 10, 2) := by decide +kernel
theorem dX1_leastFirst_78 : decode cX1_leastFirst 78 = .ok (.iload 6, 2) := by decide +kernel
theorem dX1_leastFirst_80 : decode cX1_leastFirst 80 = .ok (.iconst (-1), 1) := by decide +kernel
theorem dX1_leastFirst_81 : decode cX1_leastFirst 81 = .ok (.if_icmp .eq 10, 3) := by decide +kernel
theorem dX1_leastFirst_84 : decode cX1_leastFirst 84 = .ok (.iload 10, 2) := by decide +kernel
theorem dX1_leastFirst_86 : decode cX1_leastFirst 86 = .ok (.iload 6, 2) := by decide +kernel
theorem dX1_leastFirst_88 : decode cX1_leastFirst 88 = .ok (.if_icmp .ge 7, 3) := by decide +kernel
theorem dX1_leastFirst_91 : decode cX1_leastFirst 91 = .ok (.iconst 1, 1) := by decide +kernel
theorem dX1_leastFirst_92 : decode cX1_leastFirst 92 = .ok (.goto 4, 3) := by decide +kernel
theorem dX1_leastFirst_95 : decode cX1_leastFirst 95 = .ok (.iconst 0, 1) := by decide +kernel
theorem dX1_leastFirst_96 : decode cX1_leastFirst 96 = .ok (.istore 11, 2) := by decide +kernel
theorem dX1_leastFirst_98 : decode cX1_leastFirst 98 = .ok (.iload 11, 2) := by decide +kernel
theorem dX1_leastFirst_100 : decode cX1_leastFirst 100 = .ok (.ifCond .eq 24, 3) := by decide +kernel
theorem dX1_leastFirst_103 : decode cX1_leastFirst 103 = .ok (.aload_n 0, 1) := by decide +kernel
theorem dX1_leastFirst_104 : decode cX1_leastFirst 104 = .ok (.aload_n 0, 1) := by decide +kernel
theorem dX1_leastFirst_105 : decode cX1_leastFirst 105 = .ok (.iload 7, 2) := by decide +kernel
theorem dX1_leastFirst_107 : decode cX1_leastFirst 107 = .ok (.iload 8, 2) := by decide +kernel
theorem dX1_leastFirst_109 : decode cX1_leastFirst 109 = .ok (.invokevirtual 73, 3) := by decide +kernel
theorem dX1_leastFirst_112 : decode cX1_leastFirst 112 = .ok (.iload_n 1, 1) := by decide +kernel
theorem dX1_leastFirst_113 : decode cX1_leastFirst 113 = .ok (.iload_n 2, 1) := by decide +kernel
theorem dX1_leastFirst_114 : decode cX1_leastFirst 114 = .ok (.invokevirtual 76, 3) := by decide +kernel
theorem dX1_leastFirst_117 : decode cX1_leastFirst 117 = .ok (.ifCond .eq 7, 3) := by decide +kernel
theorem dX1_leastFirst_120 : decode cX1_leastFirst 120 = .ok (.iload 10, 2) := by decide +kernel
theorem dX1_leastFirst_122 : decode cX1_leastFirst 122 = .ok (.istore 6, 2) := by decide +kernel
theorem dX1_leastFirst_124 : decode cX1_leastFirst 124 = .ok (.iinc 8 1, 3) := by decide +kernel
theorem dX1_leastFirst_127 : decode cX1_leastFirst 127 = .ok (.goto (-85), 3) := by decide +kernel
theorem dX1_leastFirst_130 : decode cX1_leastFirst 130 = .ok (.iinc 7 1, 3) := by decide +kernel
theorem dX1_leastFirst_133 : decode cX1_leastFirst 133 = .ok (.goto (-102), 3) := by decide +kernel
theorem dX1_leastFirst_136 : decode cX1_leastFirst 136 = .ok (.iload 6, 2) := by decide +kernel
theorem dX1_leastFirst_138 : decode cX1_leastFirst 138 = .ok (.ireturn, 1) := by decide +kernel
theorem dX1_lasting_0 : decode cX1_lasting 0 = .ok (.iload_n 1, 1) := by decide +kernel
theorem dX1_lasting_1 : decode cX1_lasting 1 = .ok (.ifCond .ne 7, 3) := by decide +kernel
theorem dX1_lasting_4 : decode cX1_lasting 4 = .ok (.iconst 0, 1) := by decide +kernel
theorem dX1_lasting_5 : decode cX1_lasting 5 = .ok (.goto 5, 3) := by decide +kernel
theorem dX1_lasting_8 : decode cX1_lasting 8 = .ok (.bipush 24, 2) := by decide +kernel
theorem dX1_lasting_10 : decode cX1_lasting 10 = .ok (.istore_n 2, 1) := by decide +kernel
theorem dX1_lasting_11 : decode cX1_lasting 11 = .ok (.iload_n 1, 1) := by decide +kernel
theorem dX1_lasting_12 : decode cX1_lasting 12 = .ok (.iconst 2, 1) := by decide +kernel
theorem dX1_lasting_13 : decode cX1_lasting 13 = .ok (.if_icmp .ne 8, 3) := by decide +kernel
theorem dX1_lasting_16 : decode cX1_lasting 16 = .ok (.bipush 24, 2) := by decide +kernel
theorem dX1_lasting_18 : decode cX1_lasting 18 = .ok (.goto 4, 3) := by decide +kernel
theorem dX1_lasting_21 : decode cX1_lasting 21 = .ok (.iconst 0, 1) := by decide +kernel
theorem dX1_lasting_22 : decode cX1_lasting 22 = .ok (.istore_n 3, 1) := by decide +kernel
theorem dX1_lasting_23 : decode cX1_lasting 23 = .ok (.aload_n 0, 1) := by decide +kernel
theorem dX1_lasting_24 : decode cX1_lasting 24 = .ok (.iconst (-1), 1) := by decide +kernel
theorem dX1_lasting_25 : decode cX1_lasting 25 = .ok (.iconst (-1), 1) := by decide +kernel
theorem dX1_lasting_26 : decode cX1_lasting 26 = .ok (.invokevirtual 73, 3) := by decide +kernel
theorem dX1_lasting_29 : decode cX1_lasting 29 = .ok (.istore 4, 2) := by decide +kernel
theorem dX1_lasting_31 : decode cX1_lasting 31 = .ok (.iconst 0, 1) := by decide +kernel
theorem dX1_lasting_32 : decode cX1_lasting 32 = .ok (.istore 5, 2) := by decide +kernel
theorem dX1_lasting_34 : decode cX1_lasting 34 = .ok (.iload 5, 2) := by decide +kernel
theorem dX1_lasting_36 : decode cX1_lasting 36 = .ok (.iload_n 2, 1) := by decide +kernel
theorem dX1_lasting_37 : decode cX1_lasting 37 = .ok (.if_icmp .ge 49, 3) := by decide +kernel
theorem dX1_lasting_40 : decode cX1_lasting 40 = .ok (.iconst (-1), 1) := by decide +kernel
theorem dX1_lasting_41 : decode cX1_lasting 41 = .ok (.istore 6, 2) := by decide +kernel
theorem dX1_lasting_43 : decode cX1_lasting 43 = .ok (.iload 6, 2) := by decide +kernel
theorem dX1_lasting_45 : decode cX1_lasting 45 = .ok (.iload_n 3, 1) := by decide +kernel
theorem dX1_lasting_46 : decode cX1_lasting 46 = .ok (.if_icmp .ge 34, 3) := by decide +kernel
theorem dX1_lasting_49 : decode cX1_lasting 49 = .ok (.aload_n 0, 1) := by decide +kernel
theorem dX1_lasting_50 : decode cX1_lasting 50 = .ok (.iload 5, 2) := by decide +kernel
theorem dX1_lasting_52 : decode cX1_lasting 52 = .ok (.iload 6, 2) := by decide +kernel
theorem dX1_lasting_54 : decode cX1_lasting 54 = .ok (.invokevirtual 70, 3) := by decide +kernel
theorem dX1_lasting_57 : decode cX1_lasting 57 = .ok (.iconst (-1), 1) := by decide +kernel
theorem dX1_lasting_58 : decode cX1_lasting 58 = .ok (.if_icmp .eq 16, 3) := by decide +kernel
theorem dX1_lasting_61 : decode cX1_lasting 61 = .ok (.iload 4, 2) := by decide +kernel
theorem dX1_lasting_63 : decode cX1_lasting 63 = .ok (.aload_n 0, 1) := by decide +kernel
theorem dX1_lasting_64 : decode cX1_lasting 64 = .ok (.iload 5, 2) := by decide +kernel
theorem dX1_lasting_66 : decode cX1_lasting 66 = .ok (.iload 6, 2) := by decide +kernel
theorem dX1_lasting_68 : decode cX1_lasting 68 = .ok (.invokevirtual 73, 3) := by decide +kernel
theorem dX1_lasting_71 : decode cX1_lasting 71 = .ok (.iand, 1) := by decide +kernel
theorem dX1_lasting_72 : decode cX1_lasting 72 = .ok (.istore 4, 2) := by decide +kernel
theorem dX1_lasting_74 : decode cX1_lasting 74 = .ok (.iinc 6 1, 3) := by decide +kernel
theorem dX1_lasting_77 : decode cX1_lasting 77 = .ok (.goto (-34), 3) := by decide +kernel
theorem dX1_lasting_80 : decode cX1_lasting 80 = .ok (.iinc 5 1, 3) := by decide +kernel
theorem dX1_lasting_83 : decode cX1_lasting 83 = .ok (.goto (-49), 3) := by decide +kernel
theorem dX1_lasting_86 : decode cX1_lasting 86 = .ok (.iload 4, 2) := by decide +kernel
theorem dX1_lasting_88 : decode cX1_lasting 88 = .ok (.ireturn, 1) := by decide +kernel
theorem dX1_bestMove_0 : decode cX1_bestMove 0 = .ok (.iconst (-1), 1) := by decide +kernel
theorem dX1_bestMove_1 : decode cX1_bestMove 1 = .ok (.istore_n 3, 1) := by decide +kernel
theorem dX1_bestMove_2 : decode cX1_bestMove 2 = .ok (.aload_n 0, 1) := by decide +kernel
theorem dX1_bestMove_3 : decode cX1_bestMove 3 = .ok (.aload_n 0, 1) := by decide +kernel
theorem dX1_bestMove_4 : decode cX1_bestMove 4 = .ok (.iconst (-1), 1) := by decide +kernel
theorem dX1_bestMove_5 : decode cX1_bestMove 5 = .ok (.aload_n 0, 1) := by decide +kernel
theorem dX1_bestMove_6 : decode cX1_bestMove 6 = .ok (.iload_n 2, 1) := by decide +kernel
theorem dX1_bestMove_7 : decode cX1_bestMove 7 = .ok (.iconst (-1), 1) := by decide +kernel
theorem dX1_bestMove_8 : decode cX1_bestMove 8 = .ok (.invokevirtual 80, 3) := by decide +kernel
theorem dX1_bestMove_11 : decode cX1_bestMove 11 = .ok (.invokevirtual 73, 3) := by decide +kernel
theorem dX1_bestMove_14 : decode cX1_bestMove 14 = .ok (.iload_n 1, 1) := by decide +kernel
theorem dX1_bestMove_15 : decode cX1_bestMove 15 = .ok (.invokevirtual 83, 3) := by decide +kernel
theorem dX1_bestMove_18 : decode cX1_bestMove 18 = .ok (.istore 4, 2) := by decide +kernel
theorem dX1_bestMove_20 : decode cX1_bestMove 20 = .ok (.iconst 0, 1) := by decide +kernel
theorem dX1_bestMove_21 : decode cX1_bestMove 21 = .ok (.istore 5, 2) := by decide +kernel
theorem dX1_bestMove_23 : decode cX1_bestMove 23 = .ok (.iload 5, 2) := by decide +kernel
theorem dX1_bestMove_25 : decode cX1_bestMove 25 = .ok (.bipush 24, 2) := by decide +kernel
theorem dX1_bestMove_27 : decode cX1_bestMove 27 = .ok (.if_icmp .ge 54, 3) := by decide +kernel
theorem dX1_bestMove_30 : decode cX1_bestMove 30 = .ok (.aload_n 0, 1) := by decide +kernel
theorem dX1_bestMove_31 : decode cX1_bestMove 31 = .ok (.iload_n 1, 1) := by decide +kernel
theorem dX1_bestMove_32 : decode cX1_bestMove 32 = .ok (.iload 5, 2) := by decide +kernel
theorem dX1_bestMove_34 : decode cX1_bestMove 34 = .ok (.iconst (-1), 1) := by decide +kernel
theorem dX1_bestMove_35 : decode cX1_bestMove 35 = .ok (.invokevirtual 86, 3) := by decide +kernel
theorem dX1_bestMove_38 : decode cX1_bestMove 38 = .ok (.ifCond .eq 37, 3) := by decide +kernel
theorem dX1_bestMove_41 : decode cX1_bestMove 41 = .ok (.aload_n 0, 1) := by decide +kernel
theorem dX1_bestMove_42 : decode cX1_bestMove 42 = .ok (.aload_n 0, 1) := by decide +kernel
theorem dX1_bestMove_43 : decode cX1_bestMove 43 = .ok (.iload 5, 2) := by decide +kernel
theorem dX1_bestMove_45 : decode cX1_bestMove 45 = .ok (.aload_n 0, 1) := by decide +kernel
theorem dX1_bestMove_46 : decode cX1_bestMove 46 = .ok (.iload_n 2, 1) := by decide +kernel
theorem dX1_bestMove_47 : decode cX1_bestMove 47 = .ok (.iload 5, 2) := by decide +kernel
theorem dX1_bestMove_49 : decode cX1_bestMove 49 = .ok (.invokevirtual 80, 3) := by decide +kernel
theorem dX1_bestMove_52 : decode cX1_bestMove 52 = .ok (.invokevirtual 73, 3) := by decide +kernel
theorem dX1_bestMove_55 : decode cX1_bestMove 55 = .ok (.iload_n 1, 1) := by decide +kernel
theorem dX1_bestMove_56 : decode cX1_bestMove 56 = .ok (.invokevirtual 83, 3) := by decide +kernel
theorem dX1_bestMove_59 : decode cX1_bestMove 59 = .ok (.istore 6, 2) := by decide +kernel
theorem dX1_bestMove_61 : decode cX1_bestMove 61 = .ok (.iload 6, 2) := by decide +kernel
theorem dX1_bestMove_63 : decode cX1_bestMove 63 = .ok (.iload 4, 2) := by decide +kernel
theorem dX1_bestMove_65 : decode cX1_bestMove 65 = .ok (.if_icmp .le 10, 3) := by decide +kernel
theorem dX1_bestMove_68 : decode cX1_bestMove 68 = .ok (.iload 6, 2) := by decide +kernel
theorem dX1_bestMove_70 : decode cX1_bestMove 70 = .ok (.istore 4, 2) := by decide +kernel
theorem dX1_bestMove_72 : decode cX1_bestMove 72 = .ok (.iload 5, 2) := by decide +kernel
theorem dX1_bestMove_74 : decode cX1_bestMove 74 = .ok (.istore_n 3, 1) := by decide +kernel
theorem dX1_bestMove_75 : decode cX1_bestMove 75 = .ok (.iinc 5 1, 3) := by decide +kernel
theorem dX1_bestMove_78 : decode cX1_bestMove 78 = .ok (.goto (-55), 3) := by decide +kernel
theorem dX1_bestMove_81 : decode cX1_bestMove 81 = .ok (.iload_n 3, 1) := by decide +kernel
theorem dX1_bestMove_82 : decode cX1_bestMove 82 = .ok (.ireturn, 1) := by decide +kernel
theorem dX1_bestReply_0 : decode cX1_bestReply 0 = .ok (.iconst (-1), 1) := by decide +kernel
theorem dX1_bestReply_1 : decode cX1_bestReply 1 = .ok (.istore_n 3, 1) := by decide +kernel
theorem dX1_bestReply_2 : decode cX1_bestReply 2 = .ok (.aload_n 0, 1) := by decide +kernel
theorem dX1_bestReply_3 : decode cX1_bestReply 3 = .ok (.aload_n 0, 1) := by decide +kernel
theorem dX1_bestReply_4 : decode cX1_bestReply 4 = .ok (.iload_n 2, 1) := by decide +kernel
theorem dX1_bestReply_5 : decode cX1_bestReply 5 = .ok (.iconst (-1), 1) := by decide +kernel
theorem dX1_bestReply_6 : decode cX1_bestReply 6 = .ok (.invokevirtual 73, 3) := by decide +kernel
theorem dX1_bestReply_9 : decode cX1_bestReply 9 = .ok (.iload_n 1, 1) := by decide +kernel
theorem dX1_bestReply_10 : decode cX1_bestReply 10 = .ok (.invokevirtual 83, 3) := by decide +kernel
theorem dX1_bestReply_13 : decode cX1_bestReply 13 = .ok (.istore 4, 2) := by decide +kernel
theorem dX1_bestReply_15 : decode cX1_bestReply 15 = .ok (.iconst 0, 1) := by decide +kernel
theorem dX1_bestReply_16 : decode cX1_bestReply 16 = .ok (.istore 5, 2) := by decide +kernel
theorem dX1_bestReply_18 : decode cX1_bestReply 18 = .ok (.iload 5, 2) := by decide +kernel
theorem dX1_bestReply_20 : decode cX1_bestReply 20 = .ok (.bipush 24, 2) := by decide +kernel
theorem dX1_bestReply_22 : decode cX1_bestReply 22 = .ok (.if_icmp .ge 48, 3) := by decide +kernel
theorem dX1_bestReply_25 : decode cX1_bestReply 25 = .ok (.aload_n 0, 1) := by decide +kernel
theorem dX1_bestReply_26 : decode cX1_bestReply 26 = .ok (.iload_n 1, 1) := by decide +kernel
theorem dX1_bestReply_27 : decode cX1_bestReply 27 = .ok (.iload 5, 2) := by decide +kernel
theorem dX1_bestReply_29 : decode cX1_bestReply 29 = .ok (.iload_n 2, 1) := by decide +kernel
theorem dX1_bestReply_30 : decode cX1_bestReply 30 = .ok (.invokevirtual 86, 3) := by decide +kernel
theorem dX1_bestReply_33 : decode cX1_bestReply 33 = .ok (.ifCond .eq 31, 3) := by decide +kernel
theorem dX1_bestReply_36 : decode cX1_bestReply 36 = .ok (.aload_n 0, 1) := by decide +kernel
theorem dX1_bestReply_37 : decode cX1_bestReply 37 = .ok (.aload_n 0, 1) := by decide +kernel
theorem dX1_bestReply_38 : decode cX1_bestReply 38 = .ok (.iload_n 2, 1) := by decide +kernel
theorem dX1_bestReply_39 : decode cX1_bestReply 39 = .ok (.iload 5, 2) := by decide +kernel
theorem dX1_bestReply_41 : decode cX1_bestReply 41 = .ok (.invokevirtual 73, 3) := by decide +kernel
theorem dX1_bestReply_44 : decode cX1_bestReply 44 = .ok (.iload_n 1, 1) := by decide +kernel
theorem dX1_bestReply_45 : decode cX1_bestReply 45 = .ok (.invokevirtual 83, 3) := by decide +kernel
theorem dX1_bestReply_48 : decode cX1_bestReply 48 = .ok (.istore 6, 2) := by decide +kernel
theorem dX1_bestReply_50 : decode cX1_bestReply 50 = .ok (.iload 6, 2) := by decide +kernel
theorem dX1_bestReply_52 : decode cX1_bestReply 52 = .ok (.iload 4, 2) := by decide +kernel
theorem dX1_bestReply_54 : decode cX1_bestReply 54 = .ok (.if_icmp .le 10, 3) := by decide +kernel
theorem dX1_bestReply_57 : decode cX1_bestReply 57 = .ok (.iload 6, 2) := by decide +kernel
theorem dX1_bestReply_59 : decode cX1_bestReply 59 = .ok (.istore 4, 2) := by decide +kernel
theorem dX1_bestReply_61 : decode cX1_bestReply 61 = .ok (.iload 5, 2) := by decide +kernel
theorem dX1_bestReply_63 : decode cX1_bestReply 63 = .ok (.istore_n 3, 1) := by decide +kernel
theorem dX1_bestReply_64 : decode cX1_bestReply 64 = .ok (.iinc 5 1, 3) := by decide +kernel
theorem dX1_bestReply_67 : decode cX1_bestReply 67 = .ok (.goto (-49), 3) := by decide +kernel
theorem dX1_bestReply_70 : decode cX1_bestReply 70 = .ok (.iload_n 3, 1) := by decide +kernel
theorem dX1_bestReply_71 : decode cX1_bestReply 71 = .ok (.ireturn, 1) := by decide +kernel
theorem dX1_canTake_0 : decode cX1_canTake 0 = .ok (.iload_n 3, 1) := by decide +kernel
theorem dX1_canTake_1 : decode cX1_canTake 1 = .ok (.iconst (-1), 1) := by decide +kernel
theorem dX1_canTake_2 : decode cX1_canTake 2 = .ok (.if_icmp .ne 13, 3) := by decide +kernel
theorem dX1_canTake_5 : decode cX1_canTake 5 = .ok (.aload_n 0, 1) := by decide +kernel
theorem dX1_canTake_6 : decode cX1_canTake 6 = .ok (.getfield 12, 3) := by decide +kernel
theorem dX1_canTake_9 : decode cX1_canTake 9 = .ok (.getfield 41, 3) := by decide +kernel
theorem dX1_canTake_12 : decode cX1_canTake 12 = .ok (.goto 12, 3) := by decide +kernel
theorem dX1_canTake_15 : decode cX1_canTake 15 = .ok (.aload_n 0, 1) := by decide +kernel
theorem dX1_canTake_16 : decode cX1_canTake 16 = .ok (.getfield 12, 3) := by decide +kernel
theorem dX1_canTake_19 : decode cX1_canTake 19 = .ok (.getfield 41, 3) := by decide +kernel
theorem dX1_canTake_22 : decode cX1_canTake 22 = .ok (.iconst 1, 1) := by decide +kernel
theorem dX1_canTake_23 : decode cX1_canTake 23 = .ok (.iadd, 1) := by decide +kernel
theorem dX1_canTake_24 : decode cX1_canTake 24 = .ok (.istore 4, 2) := by decide +kernel
theorem dX1_canTake_26 : decode cX1_canTake 26 = .ok (.iload 4, 2) := by decide +kernel
theorem dX1_canTake_28 : decode cX1_canTake 28 = .ok (.bipush 12, 2) := by decide +kernel
theorem dX1_canTake_30 : decode cX1_canTake 30 = .ok (.if_icmp .lt 5, 3) := by decide +kernel
theorem dX1_canTake_33 : decode cX1_canTake 33 = .ok (.iconst 0, 1) := by decide +kernel
theorem dX1_canTake_34 : decode cX1_canTake 34 = .ok (.ireturn, 1) := by decide +kernel
theorem dX1_canTake_35 : decode cX1_canTake 35 = .ok (.iload_n 3, 1) := by decide +kernel
theorem dX1_canTake_36 : decode cX1_canTake 36 = .ok (.iconst (-1), 1) := by decide +kernel
theorem dX1_canTake_37 : decode cX1_canTake 37 = .ok (.if_icmp .eq 21, 3) := by decide +kernel
theorem dX1_canTake_40 : decode cX1_canTake 40 = .ok (.iload_n 2, 1) := by decide +kernel
theorem dX1_canTake_41 : decode cX1_canTake 41 = .ok (.bipush 12, 2) := by decide +kernel
theorem dX1_canTake_43 : decode cX1_canTake 43 = .ok (.aload_n 0, 1) := by decide +kernel
theorem dX1_canTake_44 : decode cX1_canTake 44 = .ok (.getfield 12, 3) := by decide +kernel
theorem dX1_canTake_47 : decode cX1_canTake 47 = .ok (.getfield 41, 3) := by decide +kernel
theorem dX1_canTake_50 : decode cX1_canTake 50 = .ok (.iadd, 1) := by decide +kernel
theorem dX1_canTake_51 : decode cX1_canTake 51 = .ok (.if_icmp .ne 7, 3) := by decide +kernel
theorem dX1_canTake_54 : decode cX1_canTake 54 = .ok (.iconst 1, 1) := by decide +kernel
theorem dX1_canTake_55 : decode cX1_canTake 55 = .ok (.goto 4, 3) := by decide +kernel
theorem dX1_canTake_58 : decode cX1_canTake 58 = .ok (.iconst 0, 1) := by decide +kernel
theorem dX1_canTake_59 : decode cX1_canTake 59 = .ok (.istore 5, 2) := by decide +kernel
theorem dX1_canTake_61 : decode cX1_canTake 61 = .ok (.iload 5, 2) := by decide +kernel
theorem dX1_canTake_63 : decode cX1_canTake 63 = .ok (.ifCond .eq 10, 3) := by decide +kernel
theorem dX1_canTake_66 : decode cX1_canTake 66 = .ok (.aload_n 0, 1) := by decide +kernel
theorem dX1_canTake_67 : decode cX1_canTake 67 = .ok (.getfield 39, 3) := by decide +kernel
theorem dX1_canTake_70 : decode cX1_canTake 70 = .ok (.goto 8, 3) := by decide +kernel
theorem dX1_canTake_73 : decode cX1_canTake 73 = .ok (.aload_n 0, 1) := by decide +kernel
theorem dX1_canTake_74 : decode cX1_canTake 74 = .ok (.iload_n 2, 1) := by decide +kernel
theorem dX1_canTake_75 : decode cX1_canTake 75 = .ok (.invokevirtual 64, 3) := by decide +kernel
theorem dX1_canTake_78 : decode cX1_canTake 78 = .ok (.iload_n 1, 1) := by decide +kernel
theorem dX1_canTake_79 : decode cX1_canTake 79 = .ok (.invokestatic 67, 3) := by decide +kernel
theorem dX1_canTake_82 : decode cX1_canTake 82 = .ok (.iconst 1, 1) := by decide +kernel
theorem dX1_canTake_83 : decode cX1_canTake 83 = .ok (.if_icmp .ne 7, 3) := by decide +kernel
theorem dX1_canTake_86 : decode cX1_canTake 86 = .ok (.iconst 1, 1) := by decide +kernel
theorem dX1_canTake_87 : decode cX1_canTake 87 = .ok (.goto 4, 3) := by decide +kernel
theorem dX1_canTake_90 : decode cX1_canTake 90 = .ok (.iconst 0, 1) := by decide +kernel
theorem dX1_canTake_91 : decode cX1_canTake 91 = .ok (.ireturn, 1) := by decide +kernel
theorem dX1_worthOf_0 : decode cX1_worthOf 0 = .ok (.iconst 0, 1) := by decide +kernel
theorem dX1_worthOf_1 : decode cX1_worthOf 1 = .ok (.istore_n 3, 1) := by decide +kernel
theorem dX1_worthOf_2 : decode cX1_worthOf 2 = .ok (.iconst 0, 1) := by decide +kernel
theorem dX1_worthOf_3 : decode cX1_worthOf 3 = .ok (.istore 4, 2) := by decide +kernel
theorem dX1_worthOf_5 : decode cX1_worthOf 5 = .ok (.iload 4, 2) := by decide +kernel
theorem dX1_worthOf_7 : decode cX1_worthOf 7 = .ok (.aload_n 0, 1) := by decide +kernel
theorem dX1_worthOf_8 : decode cX1_worthOf 8 = .ok (.getfield 22, 3) := by decide +kernel
theorem dX1_worthOf_11 : decode cX1_worthOf 11 = .ok (.getfield 56, 3) := by decide +kernel
theorem dX1_worthOf_14 : decode cX1_worthOf 14 = .ok (.if_icmp .ge 31, 3) := by decide +kernel
theorem dX1_worthOf_17 : decode cX1_worthOf 17 = .ok (.iload_n 1, 1) := by decide +kernel
theorem dX1_worthOf_18 : decode cX1_worthOf 18 = .ok (.iload 4, 2) := by decide +kernel
theorem dX1_worthOf_20 : decode cX1_worthOf 20 = .ok (.invokestatic 67, 3) := by decide +kernel
theorem dX1_worthOf_23 : decode cX1_worthOf 23 = .ok (.iconst 1, 1) := by decide +kernel
theorem dX1_worthOf_24 : decode cX1_worthOf 24 = .ok (.if_icmp .ne 15, 3) := by decide +kernel
theorem dX1_worthOf_27 : decode cX1_worthOf 27 = .ok (.iload_n 3, 1) := by decide +kernel
theorem dX1_worthOf_28 : decode cX1_worthOf 28 = .ok (.aload_n 0, 1) := by decide +kernel
theorem dX1_worthOf_29 : decode cX1_worthOf 29 = .ok (.getfield 25, 3) := by decide +kernel
theorem dX1_worthOf_32 : decode cX1_worthOf 32 = .ok (.iload_n 2, 1) := by decide +kernel
theorem dX1_worthOf_33 : decode cX1_worthOf 33 = .ok (.aaload, 1) := by decide +kernel
theorem dX1_worthOf_34 : decode cX1_worthOf 34 = .ok (.iload 4, 2) := by decide +kernel
theorem dX1_worthOf_36 : decode cX1_worthOf 36 = .ok (.iaload, 1) := by decide +kernel
theorem dX1_worthOf_37 : decode cX1_worthOf 37 = .ok (.iadd, 1) := by decide +kernel
theorem dX1_worthOf_38 : decode cX1_worthOf 38 = .ok (.istore_n 3, 1) := by decide +kernel
theorem dX1_worthOf_39 : decode cX1_worthOf 39 = .ok (.iinc 4 1, 3) := by decide +kernel
theorem dX1_worthOf_42 : decode cX1_worthOf 42 = .ok (.goto (-37), 3) := by decide +kernel
theorem dX1_worthOf_45 : decode cX1_worthOf 45 = .ok (.iload_n 3, 1) := by decide +kernel
theorem dX1_worthOf_46 : decode cX1_worthOf 46 = .ok (.ireturn, 1) := by decide +kernel
theorem dX1_draw_0 : decode cX1_draw 0 = .ok (.aload_n 0, 1) := by decide +kernel
theorem dX1_draw_1 : decode cX1_draw 1 = .ok (.iload_n 1, 1) := by decide +kernel
theorem dX1_draw_2 : decode cX1_draw 2 = .ok (.putfield 89, 3) := by decide +kernel
theorem dX1_draw_5 : decode cX1_draw 5 = .ok (.aload_n 0, 1) := by decide +kernel
theorem dX1_draw_6 : decode cX1_draw 6 = .ok (.aload_n 0, 1) := by decide +kernel
theorem dX1_draw_7 : decode cX1_draw 7 = .ok (.getfield 12, 3) := by decide +kernel
theorem dX1_draw_10 : decode cX1_draw 10 = .ok (.aload_n 0, 1) := by decide +kernel
theorem dX1_draw_11 : decode cX1_draw 11 = .ok (.getfield 32, 3) := by decide +kernel
theorem dX1_draw_14 : decode cX1_draw 14 = .ok (.invokevirtual 48, 3) := by decide +kernel
theorem dX1_draw_17 : decode cX1_draw 17 = .ok (.putfield 92, 3) := by decide +kernel
theorem dX1_draw_20 : decode cX1_draw 20 = .ok (.aload_n 0, 1) := by decide +kernel
theorem dX1_draw_21 : decode cX1_draw 21 = .ok (.iconst 0, 1) := by decide +kernel
theorem dX1_draw_22 : decode cX1_draw 22 = .ok (.putfield 95, 3) := by decide +kernel
theorem dX1_draw_25 : decode cX1_draw 25 = .ok (.aload_n 0, 1) := by decide +kernel
theorem dX1_draw_26 : decode cX1_draw 26 = .ok (.getfield 39, 3) := by decide +kernel
theorem dX1_draw_29 : decode cX1_draw 29 = .ok (.istore_n 3, 1) := by decide +kernel
theorem dX1_draw_30 : decode cX1_draw 30 = .ok (.iload_n 2, 1) := by decide +kernel
theorem dX1_draw_31 : decode cX1_draw 31 = .ok (.bipush 12, 2) := by decide +kernel
theorem dX1_draw_33 : decode cX1_draw 33 = .ok (.aload_n 0, 1) := by decide +kernel
theorem dX1_draw_34 : decode cX1_draw 34 = .ok (.getfield 12, 3) := by decide +kernel
theorem dX1_draw_37 : decode cX1_draw 37 = .ok (.getfield 41, 3) := by decide +kernel
theorem dX1_draw_40 : decode cX1_draw 40 = .ok (.isub, 1) := by decide +kernel
theorem dX1_draw_41 : decode cX1_draw 41 = .ok (.invokestatic 98, 3) := by decide +kernel
theorem dX1_draw_44 : decode cX1_draw 44 = .ok (.istore 4, 2) := by decide +kernel
theorem dX1_draw_46 : decode cX1_draw 46 = .ok (.aload_n 0, 1) := by decide +kernel
theorem dX1_draw_47 : decode cX1_draw 47 = .ok (.getfield 95, 3) := by decide +kernel
theorem dX1_draw_50 : decode cX1_draw 50 = .ok (.iload 4, 2) := by decide +kernel
theorem dX1_draw_52 : decode cX1_draw 52 = .ok (.if_icmp .ge 82, 3) := by decide +kernel
theorem dX1_draw_55 : decode cX1_draw 55 = .ok (.iload_n 3, 1) := by decide +kernel
theorem dX1_draw_56 : decode cX1_draw 56 = .ok (.ifCond .eq 78, 3) := by decide +kernel
theorem dX1_draw_59 : decode cX1_draw 59 = .ok (.aload_n 0, 1) := by decide +kernel
theorem dX1_draw_60 : decode cX1_draw 60 = .ok (.iload_n 3, 1) := by decide +kernel
theorem dX1_draw_61 : decode cX1_draw 61 = .ok (.invokevirtual 103, 3) := by decide +kernel
theorem dX1_draw_64 : decode cX1_draw 64 = .ok (.istore 5, 2) := by decide +kernel
theorem dX1_draw_66 : decode cX1_draw 66 = .ok (.aload_n 0, 1) := by decide +kernel
theorem dX1_draw_67 : decode cX1_draw 67 = .ok (.getfield 22, 3) := by decide +kernel
theorem dX1_draw_70 : decode cX1_draw 70 = .ok (.aload_n 0, 1) := by decide +kernel
theorem dX1_draw_71 : decode cX1_draw 71 = .ok (.getfield 92, 3) := by decide +kernel
theorem dX1_draw_74 : decode cX1_draw 74 = .ok (.invokevirtual 51, 3) := by decide +kernel
theorem dX1_draw_77 : decode cX1_draw 77 = .ok (.aload_n 0, 1) := by decide +kernel
theorem dX1_draw_78 : decode cX1_draw 78 = .ok (.getfield 22, 3) := by decide +kernel
theorem dX1_draw_81 : decode cX1_draw 81 = .ok (.iload 5, 2) := by decide +kernel
theorem dX1_draw_83 : decode cX1_draw 83 = .ok (.invokevirtual 106, 3) := by decide +kernel
theorem dX1_draw_86 : decode cX1_draw 86 = .ok (.iconst (-1), 1) := by decide +kernel
theorem dX1_draw_87 : decode cX1_draw 87 = .ok (.ixor, 1) := by decide +kernel
theorem dX1_draw_88 : decode cX1_draw 88 = .ok (.iand, 1) := by decide +kernel
theorem dX1_draw_89 : decode cX1_draw 89 = .ok (.istore 6, 2) := by decide +kernel
theorem dX1_draw_91 : decode cX1_draw 91 = .ok (.iload 6, 2) := by decide +kernel
theorem dX1_draw_93 : decode cX1_draw 93 = .ok (.ifCond .ne 6, 3) := by decide +kernel
theorem dX1_draw_96 : decode cX1_draw 96 = .ok (.goto 38, 3) := by decide +kernel
theorem dX1_draw_99 : decode cX1_draw 99 = .ok (.aload_n 0, 1) := by decide +kernel
theorem dX1_draw_100 : decode cX1_draw 100 = .ok (.dup, 1) := by decide +kernel
theorem dX1_draw_101 : decode cX1_draw 101 = .ok (.getfield 92, 3) := by decide +kernel
theorem dX1_draw_104 : decode cX1_draw 104 = .ok (.aload_n 0, 1) := by decide +kernel
theorem dX1_draw_105 : decode cX1_draw 105 = .ok (.iload 6, 2) := by decide +kernel
theorem dX1_draw_107 : decode cX1_draw 107 = .ok (.invokevirtual 103, 3) := by decide +kernel
theorem dX1_draw_110 : decode cX1_draw 110 = .ok (.ior, 1) := by decide +kernel
theorem dX1_draw_111 : decode cX1_draw 111 = .ok (.putfield 92, 3) := by decide +kernel
theorem dX1_draw_114 : decode cX1_draw 114 = .ok (.iload_n 3, 1) := by decide +kernel
theorem dX1_draw_115 : decode cX1_draw 115 = .ok (.iload 5, 2) := by decide +kernel
theorem dX1_draw_117 : decode cX1_draw 117 = .ok (.iconst (-1), 1) := by decide +kernel
theorem dX1_draw_118 : decode cX1_draw 118 = .ok (.ixor, 1) := by decide +kernel
theorem dX1_draw_119 : decode cX1_draw 119 = .ok (.iand, 1) := by decide +kernel
theorem dX1_draw_120 : decode cX1_draw 120 = .ok (.istore_n 3, 1) := by decide +kernel
theorem dX1_draw_121 : decode cX1_draw 121 = .ok (.aload_n 0, 1) := by decide +kernel
theorem dX1_draw_122 : decode cX1_draw 122 = .ok (.dup, 1) := by decide +kernel
theorem dX1_draw_123 : decode cX1_draw 123 = .ok (.getfield 95, 3) := by decide +kernel
theorem dX1_draw_126 : decode cX1_draw 126 = .ok (.iconst 1, 1) := by decide +kernel
theorem dX1_draw_127 : decode cX1_draw 127 = .ok (.iadd, 1) := by decide +kernel
theorem dX1_draw_128 : decode cX1_draw 128 = .ok (.putfield 95, 3) := by decide +kernel
theorem dX1_draw_131 : decode cX1_draw 131 = .ok (.goto (-85), 3) := by decide +kernel
theorem dX1_draw_134 : decode cX1_draw 134 = .ok (.return_, 1) := by decide +kernel
theorem dX1_lotOf_0 : decode cX1_lotOf 0 = .ok (.iload_n 1, 1) := by decide +kernel
theorem dX1_lotOf_1 : decode cX1_lotOf 1 = .ok (.invokestatic 109, 3) := by decide +kernel
theorem dX1_lotOf_4 : decode cX1_lotOf 4 = .ok (.istore_n 2, 1) := by decide +kernel
theorem dX1_lotOf_5 : decode cX1_lotOf 5 = .ok (.iload_n 2, 1) := by decide +kernel
theorem dX1_lotOf_6 : decode cX1_lotOf 6 = .ok (.ifCond .ne 5, 3) := by decide +kernel
theorem dX1_lotOf_9 : decode cX1_lotOf 9 = .ok (.iconst 0, 1) := by decide +kernel
theorem dX1_lotOf_10 : decode cX1_lotOf 10 = .ok (.ireturn, 1) := by decide +kernel
theorem dX1_lotOf_11 : decode cX1_lotOf 11 = .ok (.aload_n 0, 1) := by decide +kernel
theorem dX1_lotOf_12 : decode cX1_lotOf 12 = .ok (.ldc 114, 2) := by decide +kernel
theorem dX1_lotOf_14 : decode cX1_lotOf 14 = .ok (.aload_n 0, 1) := by decide +kernel
theorem dX1_lotOf_15 : decode cX1_lotOf 15 = .ok (.getfield 89, 3) := by decide +kernel
theorem dX1_lotOf_18 : decode cX1_lotOf 18 = .ok (.imul, 1) := by decide +kernel
theorem dX1_lotOf_19 : decode cX1_lotOf 19 = .ok (.sipush 12345, 3) := by decide +kernel
theorem dX1_lotOf_22 : decode cX1_lotOf 22 = .ok (.iadd, 1) := by decide +kernel
theorem dX1_lotOf_23 : decode cX1_lotOf 23 = .ok (.putfield 89, 3) := by decide +kernel
theorem dX1_lotOf_26 : decode cX1_lotOf 26 = .ok (.aload_n 0, 1) := by decide +kernel
theorem dX1_lotOf_27 : decode cX1_lotOf 27 = .ok (.getfield 89, 3) := by decide +kernel
theorem dX1_lotOf_30 : decode cX1_lotOf 30 = .ok (.bipush 16, 2) := by decide +kernel
theorem dX1_lotOf_32 : decode cX1_lotOf 32 = .ok (.iushr, 1) := by decide +kernel
theorem dX1_lotOf_33 : decode cX1_lotOf 33 = .ok (.iload_n 2, 1) := by decide +kernel
theorem dX1_lotOf_34 : decode cX1_lotOf 34 = .ok (.irem, 1) := by decide +kernel
theorem dX1_lotOf_35 : decode cX1_lotOf 35 = .ok (.istore_n 3, 1) := by decide +kernel
theorem dX1_lotOf_36 : decode cX1_lotOf 36 = .ok (.iload_n 1, 1) := by decide +kernel
theorem dX1_lotOf_37 : decode cX1_lotOf 37 = .ok (.istore 4, 2) := by decide +kernel
theorem dX1_lotOf_39 : decode cX1_lotOf 39 = .ok (.iconst 0, 1) := by decide +kernel
theorem dX1_lotOf_40 : decode cX1_lotOf 40 = .ok (.istore 5, 2) := by decide +kernel
theorem dX1_lotOf_42 : decode cX1_lotOf 42 = .ok (.iload 5, 2) := by decide +kernel
theorem dX1_lotOf_44 : decode cX1_lotOf 44 = .ok (.iload_n 3, 1) := by decide +kernel
theorem dX1_lotOf_45 : decode cX1_lotOf 45 = .ok (.if_icmp .ge 18, 3) := by decide +kernel
theorem dX1_lotOf_48 : decode cX1_lotOf 48 = .ok (.iload 4, 2) := by decide +kernel
theorem dX1_lotOf_50 : decode cX1_lotOf 50 = .ok (.iload 4, 2) := by decide +kernel
theorem dX1_lotOf_52 : decode cX1_lotOf 52 = .ok (.iconst 1, 1) := by decide +kernel
theorem dX1_lotOf_53 : decode cX1_lotOf 53 = .ok (.isub, 1) := by decide +kernel
theorem dX1_lotOf_54 : decode cX1_lotOf 54 = .ok (.iand, 1) := by decide +kernel
theorem dX1_lotOf_55 : decode cX1_lotOf 55 = .ok (.istore 4, 2) := by decide +kernel
theorem dX1_lotOf_57 : decode cX1_lotOf 57 = .ok (.iinc 5 1, 3) := by decide +kernel
theorem dX1_lotOf_60 : decode cX1_lotOf 60 = .ok (.goto (-18), 3) := by decide +kernel
theorem dX1_lotOf_63 : decode cX1_lotOf 63 = .ok (.iload 4, 2) := by decide +kernel
theorem dX1_lotOf_65 : decode cX1_lotOf 65 = .ok (.iload 4, 2) := by decide +kernel
theorem dX1_lotOf_67 : decode cX1_lotOf 67 = .ok (.ineg, 1) := by decide +kernel
theorem dX1_lotOf_68 : decode cX1_lotOf 68 = .ok (.iand, 1) := by decide +kernel
theorem dX1_lotOf_69 : decode cX1_lotOf 69 = .ok (.ireturn, 1) := by decide +kernel
theorem dX2_init_0 : decode cX2_init 0 = .ok (.aload_n 0, 1) := by decide +kernel
theorem dX2_init_1 : decode cX2_init 1 = .ok (.invokespecial 3, 3) := by decide +kernel
theorem dX2_init_4 : decode cX2_init 4 = .ok (.aload_n 0, 1) := by decide +kernel
theorem dX2_init_5 : decode cX2_init 5 = .ok (.bipush 60, 2) := by decide +kernel
theorem dX2_init_7 : decode cX2_init 7 = .ok (.newarray .int, 2) := by decide +kernel
theorem dX2_init_9 : decode cX2_init 9 = .ok (.putfield 9, 3) := by decide +kernel
theorem dX2_init_12 : decode cX2_init 12 = .ok (.aload_n 0, 1) := by decide +kernel
theorem dX2_init_13 : decode cX2_init 13 = .ok (.iconst 1, 1) := by decide +kernel
theorem dX2_init_14 : decode cX2_init 14 = .ok (.putfield 15, 3) := by decide +kernel
theorem dX2_init_17 : decode cX2_init 17 = .ok (.return_, 1) := by decide +kernel
theorem dX2_begin_0 : decode cX2_begin 0 = .ok (.aload_n 0, 1) := by decide +kernel
theorem dX2_begin_1 : decode cX2_begin 1 = .ok (.iconst 0, 1) := by decide +kernel
theorem dX2_begin_2 : decode cX2_begin 2 = .ok (.putfield 15, 3) := by decide +kernel
theorem dX2_begin_5 : decode cX2_begin 5 = .ok (.aload_n 0, 1) := by decide +kernel
theorem dX2_begin_6 : decode cX2_begin 6 = .ok (.iload_n 1, 1) := by decide +kernel
theorem dX2_begin_7 : decode cX2_begin 7 = .ok (.putfield 19, 3) := by decide +kernel
theorem dX2_begin_10 : decode cX2_begin 10 = .ok (.aload_n 0, 1) := by decide +kernel
theorem dX2_begin_11 : decode cX2_begin 11 = .ok (.iload_n 2, 1) := by decide +kernel
theorem dX2_begin_12 : decode cX2_begin 12 = .ok (.putfield 23, 3) := by decide +kernel
theorem dX2_begin_15 : decode cX2_begin 15 = .ok (.iconst 0, 1) := by decide +kernel
theorem dX2_begin_16 : decode cX2_begin 16 = .ok (.istore_n 3, 1) := by decide +kernel
theorem dX2_begin_17 : decode cX2_begin 17 = .ok (.iload_n 3, 1) := by decide +kernel
theorem dX2_begin_18 : decode cX2_begin 18 = .ok (.bipush 60, 2) := by decide +kernel
theorem dX2_begin_20 : decode cX2_begin 20 = .ok (.if_icmp .ge 16, 3) := by decide +kernel
theorem dX2_begin_23 : decode cX2_begin 23 = .ok (.aload_n 0, 1) := by decide +kernel
theorem dX2_begin_24 : decode cX2_begin 24 = .ok (.getfield 9, 3) := by decide +kernel
theorem dX2_begin_27 : decode cX2_begin 27 = .ok (.iload_n 3, 1) := by decide +kernel
theorem dX2_begin_28 : decode cX2_begin 28 = .ok (.iconst 0, 1) := by decide +kernel
theorem dX2_begin_29 : decode cX2_begin 29 = .ok (.iastore, 1) := by decide +kernel
theorem dX2_begin_30 : decode cX2_begin 30 = .ok (.iinc 3 1, 3) := by decide +kernel
theorem dX2_begin_33 : decode cX2_begin 33 = .ok (.goto (-16), 3) := by decide +kernel
theorem dX2_begin_36 : decode cX2_begin 36 = .ok (.return_, 1) := by decide +kernel
theorem dX2_findingAt_0 : decode cX2_findingAt 0 = .ok (.aload_n 0, 1) := by decide +kernel
theorem dX2_findingAt_1 : decode cX2_findingAt 1 = .ok (.getfield 15, 3) := by decide +kernel
theorem dX2_findingAt_4 : decode cX2_findingAt 4 = .ok (.ifCond .eq 5, 3) := by decide +kernel
theorem dX2_findingAt_7 : decode cX2_findingAt 7 = .ok (.iconst 1, 1) := by decide +kernel
theorem dX2_findingAt_8 : decode cX2_findingAt 8 = .ok (.ireturn, 1) := by decide +kernel
theorem dX2_findingAt_9 : decode cX2_findingAt 9 = .ok (.iload_n 1, 1) := by decide +kernel
theorem dX2_findingAt_10 : decode cX2_findingAt 10 = .ok (.aload_n 0, 1) := by decide +kernel
theorem dX2_findingAt_11 : decode cX2_findingAt 11 = .ok (.getfield 19, 3) := by decide +kernel
theorem dX2_findingAt_14 : decode cX2_findingAt 14 = .ok (.if_icmp .eq 5, 3) := by decide +kernel
theorem dX2_findingAt_17 : decode cX2_findingAt 17 = .ok (.iconst 3, 1) := by decide +kernel
theorem dX2_findingAt_18 : decode cX2_findingAt 18 = .ok (.ireturn, 1) := by decide +kernel
theorem dX2_findingAt_19 : decode cX2_findingAt 19 = .ok (.iload_n 2, 1) := by decide +kernel
theorem dX2_findingAt_20 : decode cX2_findingAt 20 = .ok (.aload_n 0, 1) := by decide +kernel
theorem dX2_findingAt_21 : decode cX2_findingAt 21 = .ok (.getfield 23, 3) := by decide +kernel
theorem dX2_findingAt_24 : decode cX2_findingAt 24 = .ok (.invokestatic 26, 3) := by decide +kernel
theorem dX2_findingAt_27 : decode cX2_findingAt 27 = .ok (.ifCond .eq 7, 3) := by decide +kernel
theorem dX2_findingAt_30 : decode cX2_findingAt 30 = .ok (.iconst 0, 1) := by decide +kernel
theorem dX2_findingAt_31 : decode cX2_findingAt 31 = .ok (.goto 4, 3) := by decide +kernel
theorem dX2_findingAt_34 : decode cX2_findingAt 34 = .ok (.iconst 2, 1) := by decide +kernel
theorem dX2_findingAt_35 : decode cX2_findingAt 35 = .ok (.ireturn, 1) := by decide +kernel
theorem dX2_hasItems_0 : decode cX2_hasItems 0 = .ok (.iload_n 1, 1) := by decide +kernel
theorem dX2_hasItems_1 : decode cX2_hasItems 1 = .ok (.ifCond .lt 29, 3) := by decide +kernel
theorem dX2_hasItems_4 : decode cX2_hasItems 4 = .ok (.iload_n 2, 1) := by decide +kernel
theorem dX2_hasItems_5 : decode cX2_hasItems 5 = .ok (.ifCond .lt 25, 3) := by decide +kernel
theorem dX2_hasItems_8 : decode cX2_hasItems 8 = .ok (.iload_n 1, 1) := by decide +kernel
theorem dX2_hasItems_9 : decode cX2_hasItems 9 = .ok (.aload_n 0, 1) := by decide +kernel
theorem dX2_hasItems_10 : decode cX2_hasItems 10 = .ok (.getfield 23, 3) := by decide +kernel
theorem dX2_hasItems_13 : decode cX2_hasItems 13 = .ok (.if_icmp .gt 17, 3) := by decide +kernel
theorem dX2_hasItems_16 : decode cX2_hasItems 16 = .ok (.iload_n 2, 1) := by decide +kernel
theorem dX2_hasItems_17 : decode cX2_hasItems 17 = .ok (.aload_n 0, 1) := by decide +kernel
theorem dX2_hasItems_18 : decode cX2_hasItems 18 = .ok (.getfield 23, 3) := by decide +kernel
theorem dX2_hasItems_21 : decode cX2_hasItems 21 = .ok (.iload_n 1, 1) := by decide +kernel
theorem dX2_hasItems_22 : decode cX2_hasItems 22 = .ok (.isub, 1) := by decide +kernel
theorem dX2_hasItems_23 : decode cX2_hasItems 23 = .ok (.if_icmp .gt 7, 3) := by decide +kernel
theorem dX2_hasItems_26 : decode cX2_hasItems 26 = .ok (.iconst 1, 1) := by decide +kernel
theorem dX2_hasItems_27 : decode cX2_hasItems 27 = .ok (.goto 4, 3) := by decide +kernel
theorem dX2_hasItems_30 : decode cX2_hasItems 30 = .ok (.iconst 0, 1) := by decide +kernel
theorem dX2_hasItems_31 : decode cX2_hasItems 31 = .ok (.ireturn, 1) := by decide +kernel
theorem dX2_put_0 : decode cX2_put 0 = .ok (.iload_n 1, 1) := by decide +kernel
theorem dX2_put_1 : decode cX2_put 1 = .ok (.aload_n 0, 1) := by decide +kernel
theorem dX2_put_2 : decode cX2_put 2 = .ok (.getfield 23, 3) := by decide +kernel
theorem dX2_put_5 : decode cX2_put 5 = .ok (.invokestatic 26, 3) := by decide +kernel
theorem dX2_put_8 : decode cX2_put 8 = .ok (.ifCond .ne 4, 3) := by decide +kernel
theorem dX2_put_11 : decode cX2_put 11 = .ok (.return_, 1) := by decide +kernel
theorem dX2_put_12 : decode cX2_put 12 = .ok (.aload_n 0, 1) := by decide +kernel
theorem dX2_put_13 : decode cX2_put 13 = .ok (.getfield 19, 3) := by decide +kernel
theorem dX2_put_16 : decode cX2_put 16 = .ok (.ifCond .ne 14, 3) := by decide +kernel
theorem dX2_put_19 : decode cX2_put 19 = .ok (.aload_n 0, 1) := by decide +kernel
theorem dX2_put_20 : decode cX2_put 20 = .ok (.getfield 9, 3) := by decide +kernel
theorem dX2_put_23 : decode cX2_put 23 = .ok (.iload_n 1, 1) := by decide +kernel
theorem dX2_put_24 : decode cX2_put 24 = .ok (.iload_n 2, 1) := by decide +kernel
theorem dX2_put_25 : decode cX2_put 25 = .ok (.i2b, 1) := by decide +kernel
theorem dX2_put_26 : decode cX2_put 26 = .ok (.iastore, 1) := by decide +kernel
theorem dX2_put_27 : decode cX2_put 27 = .ok (.goto 29, 3) := by decide +kernel
theorem dX2_put_30 : decode cX2_put 30 = .ok (.aload_n 0, 1) := by decide +kernel
theorem dX2_put_31 : decode cX2_put 31 = .ok (.getfield 19, 3) := by decide +kernel
theorem dX2_put_34 : decode cX2_put 34 = .ok (.iconst 1, 1) := by decide +kernel
theorem dX2_put_35 : decode cX2_put 35 = .ok (.if_icmp .ne 14, 3) := by decide +kernel
theorem dX2_put_38 : decode cX2_put 38 = .ok (.aload_n 0, 1) := by decide +kernel
theorem dX2_put_39 : decode cX2_put 39 = .ok (.getfield 9, 3) := by decide +kernel
theorem dX2_put_42 : decode cX2_put 42 = .ok (.iload_n 1, 1) := by decide +kernel
theorem dX2_put_43 : decode cX2_put 43 = .ok (.iload_n 2, 1) := by decide +kernel
theorem dX2_put_44 : decode cX2_put 44 = .ok (.i2s, 1) := by decide +kernel
theorem dX2_put_45 : decode cX2_put 45 = .ok (.iastore, 1) := by decide +kernel
theorem dX2_put_46 : decode cX2_put 46 = .ok (.goto 10, 3) := by decide +kernel
theorem dX2_put_49 : decode cX2_put 49 = .ok (.aload_n 0, 1) := by decide +kernel
theorem dX2_put_50 : decode cX2_put 50 = .ok (.getfield 9, 3) := by decide +kernel
theorem dX2_put_53 : decode cX2_put 53 = .ok (.iload_n 1, 1) := by decide +kernel
theorem dX2_put_54 : decode cX2_put 54 = .ok (.iload_n 2, 1) := by decide +kernel
theorem dX2_put_55 : decode cX2_put 55 = .ok (.iastore, 1) := by decide +kernel
theorem dX2_put_56 : decode cX2_put 56 = .ok (.return_, 1) := by decide +kernel
theorem dX3_init_0 : decode cX3_init 0 = .ok (.aload_n 0, 1) := by decide +kernel
theorem dX3_init_1 : decode cX3_init 1 = .ok (.invokespecial 3, 3) := by decide +kernel
theorem dX3_init_4 : decode cX3_init 4 = .ok (.aload_n 0, 1) := by decide +kernel
theorem dX3_init_5 : decode cX3_init 5 = .ok (.new 9, 3) := by decide +kernel
theorem dX3_init_8 : decode cX3_init 8 = .ok (.dup, 1) := by decide +kernel
theorem dX3_init_9 : decode cX3_init 9 = .ok (.invokespecial 11, 3) := by decide +kernel
theorem dX3_init_12 : decode cX3_init 12 = .ok (.putfield 12, 3) := by decide +kernel
theorem dX3_init_15 : decode cX3_init 15 = .ok (.aload_n 0, 1) := by decide +kernel
theorem dX3_init_16 : decode cX3_init 16 = .ok (.bipush 12, 2) := by decide +kernel
theorem dX3_init_18 : decode cX3_init 18 = .ok (.newarray .int, 2) := by decide +kernel
theorem dX3_init_20 : decode cX3_init 20 = .ok (.putfield 18, 3) := by decide +kernel
theorem dX3_init_23 : decode cX3_init 23 = .ok (.aload_n 0, 1) := by decide +kernel
theorem dX3_init_24 : decode cX3_init 24 = .ok (.bipush 12, 2) := by decide +kernel
theorem dX3_init_26 : decode cX3_init 26 = .ok (.newarray .int, 2) := by decide +kernel
theorem dX3_init_28 : decode cX3_init 28 = .ok (.putfield 22, 3) := by decide +kernel
theorem dX3_init_31 : decode cX3_init 31 = .ok (.return_, 1) := by decide +kernel
theorem dX3_tell_0 : decode cX3_tell 0 = .ok (.aload_n 0, 1) := by decide +kernel
theorem dX3_tell_1 : decode cX3_tell 1 = .ok (.getfield 25, 3) := by decide +kernel
theorem dX3_tell_4 : decode cX3_tell 4 = .ok (.bipush 12, 2) := by decide +kernel
theorem dX3_tell_6 : decode cX3_tell 6 = .ok (.if_icmp .lt 5, 3) := by decide +kernel
theorem dX3_tell_9 : decode cX3_tell 9 = .ok (.iconst 0, 1) := by decide +kernel
theorem dX3_tell_10 : decode cX3_tell 10 = .ok (.ireturn, 1) := by decide +kernel
theorem dX3_tell_11 : decode cX3_tell 11 = .ok (.aload_n 0, 1) := by decide +kernel
theorem dX3_tell_12 : decode cX3_tell 12 = .ok (.getfield 18, 3) := by decide +kernel
theorem dX3_tell_15 : decode cX3_tell 15 = .ok (.aload_n 0, 1) := by decide +kernel
theorem dX3_tell_16 : decode cX3_tell 16 = .ok (.getfield 25, 3) := by decide +kernel
theorem dX3_tell_19 : decode cX3_tell 19 = .ok (.iload_n 1, 1) := by decide +kernel
theorem dX3_tell_20 : decode cX3_tell 20 = .ok (.iastore, 1) := by decide +kernel
theorem dX3_tell_21 : decode cX3_tell 21 = .ok (.aload_n 0, 1) := by decide +kernel
theorem dX3_tell_22 : decode cX3_tell 22 = .ok (.getfield 22, 3) := by decide +kernel
theorem dX3_tell_25 : decode cX3_tell 25 = .ok (.aload_n 0, 1) := by decide +kernel
theorem dX3_tell_26 : decode cX3_tell 26 = .ok (.getfield 25, 3) := by decide +kernel
theorem dX3_tell_29 : decode cX3_tell 29 = .ok (.iload_n 2, 1) := by decide +kernel
theorem dX3_tell_30 : decode cX3_tell 30 = .ok (.iastore, 1) := by decide +kernel
theorem dX3_tell_31 : decode cX3_tell 31 = .ok (.aload_n 0, 1) := by decide +kernel
theorem dX3_tell_32 : decode cX3_tell 32 = .ok (.dup, 1) := by decide +kernel
theorem dX3_tell_33 : decode cX3_tell 33 = .ok (.getfield 25, 3) := by decide +kernel
theorem dX3_tell_36 : decode cX3_tell 36 = .ok (.iconst 1, 1) := by decide +kernel
theorem dX3_tell_37 : decode cX3_tell 37 = .ok (.iadd, 1) := by decide +kernel
theorem dX3_tell_38 : decode cX3_tell 38 = .ok (.putfield 25, 3) := by decide +kernel
theorem dX3_tell_41 : decode cX3_tell 41 = .ok (.iconst 1, 1) := by decide +kernel
theorem dX3_tell_42 : decode cX3_tell 42 = .ok (.ireturn, 1) := by decide +kernel
theorem dX3_lawful_0 : decode cX3_lawful 0 = .ok (.iconst 0, 1) := by decide +kernel
theorem dX3_lawful_1 : decode cX3_lawful 1 = .ok (.istore_n 2, 1) := by decide +kernel
theorem dX3_lawful_2 : decode cX3_lawful 2 = .ok (.iconst 0, 1) := by decide +kernel
theorem dX3_lawful_3 : decode cX3_lawful 3 = .ok (.istore_n 3, 1) := by decide +kernel
theorem dX3_lawful_4 : decode cX3_lawful 4 = .ok (.iconst 0, 1) := by decide +kernel
theorem dX3_lawful_5 : decode cX3_lawful 5 = .ok (.istore 4, 2) := by decide +kernel
theorem dX3_lawful_7 : decode cX3_lawful 7 = .ok (.iload 4, 2) := by decide +kernel
theorem dX3_lawful_9 : decode cX3_lawful 9 = .ok (.aload_n 0, 1) := by decide +kernel
theorem dX3_lawful_10 : decode cX3_lawful 10 = .ok (.getfield 25, 3) := by decide +kernel
theorem dX3_lawful_13 : decode cX3_lawful 13 = .ok (.if_icmp .ge 92, 3) := by decide +kernel
theorem dX3_lawful_16 : decode cX3_lawful 16 = .ok (.aload_n 0, 1) := by decide +kernel
theorem dX3_lawful_17 : decode cX3_lawful 17 = .ok (.aload_n 0, 1) := by decide +kernel
theorem dX3_lawful_18 : decode cX3_lawful 18 = .ok (.getfield 22, 3) := by decide +kernel
theorem dX3_lawful_21 : decode cX3_lawful 21 = .ok (.iload 4, 2) := by decide +kernel
theorem dX3_lawful_23 : decode cX3_lawful 23 = .ok (.iaload, 1) := by decide +kernel
theorem dX3_lawful_24 : decode cX3_lawful 24 = .ok (.iload_n 2, 1) := by decide +kernel
theorem dX3_lawful_25 : decode cX3_lawful 25 = .ok (.invokevirtual 29, 3) := by decide +kernel
theorem dX3_lawful_28 : decode cX3_lawful 28 = .ok (.istore 5, 2) := by decide +kernel
theorem dX3_lawful_30 : decode cX3_lawful 30 = .ok (.iload 5, 2) := by decide +kernel
theorem dX3_lawful_32 : decode cX3_lawful 32 = .ok (.iconst (-1), 1) := by decide +kernel
theorem dX3_lawful_33 : decode cX3_lawful 33 = .ok (.if_icmp .eq 19, 3) := by decide +kernel
theorem dX3_lawful_36 : decode cX3_lawful 36 = .ok (.iload 5, 2) := by decide +kernel
theorem dX3_lawful_38 : decode cX3_lawful 38 = .ok (.aload_n 0, 1) := by decide +kernel
theorem dX3_lawful_39 : decode cX3_lawful 39 = .ok (.getfield 18, 3) := by decide +kernel
theorem dX3_lawful_42 : decode cX3_lawful 42 = .ok (.iload 4, 2) := by decide +kernel
theorem dX3_lawful_44 : decode cX3_lawful 44 = .ok (.iaload, 1) := by decide +kernel
theorem dX3_lawful_45 : decode cX3_lawful 45 = .ok (.if_icmp .eq 7, 3) := by decide +kernel
theorem dX3_lawful_48 : decode cX3_lawful 48 = .ok (.iconst 1, 1) := by decide +kernel
theorem dX3_lawful_49 : decode cX3_lawful 49 = .ok (.goto 4, 3) := by decide +kernel
theorem dX3_lawful_52 : decode cX3_lawful 52 = .ok (.iconst 0, 1) := by decide +kernel
theorem dX3_lawful_53 : decode cX3_lawful 53 = .ok (.istore 6, 2) := by decide +kernel
theorem dX3_lawful_55 : decode cX3_lawful 55 = .ok (.iload 4, 2) := by decide +kernel
theorem dX3_lawful_57 : decode cX3_lawful 57 = .ok (.iload_n 1, 1) := by decide +kernel
theorem dX3_lawful_58 : decode cX3_lawful 58 = .ok (.if_icmp .eq 41, 3) := by decide +kernel
theorem dX3_lawful_61 : decode cX3_lawful 61 = .ok (.iload 6, 2) := by decide +kernel
theorem dX3_lawful_63 : decode cX3_lawful 63 = .ok (.ifCond .eq 36, 3) := by decide +kernel
theorem dX3_lawful_66 : decode cX3_lawful 66 = .ok (.iload_n 3, 1) := by decide +kernel
theorem dX3_lawful_67 : decode cX3_lawful 67 = .ok (.aload_n 0, 1) := by decide +kernel
theorem dX3_lawful_68 : decode cX3_lawful 68 = .ok (.getfield 18, 3) := by decide +kernel
theorem dX3_lawful_71 : decode cX3_lawful 71 = .ok (.iload 4, 2) := by decide +kernel
theorem dX3_lawful_73 : decode cX3_lawful 73 = .ok (.iaload, 1) := by decide +kernel
theorem dX3_lawful_74 : decode cX3_lawful 74 = .ok (.invokestatic 33, 3) := by decide +kernel
theorem dX3_lawful_77 : decode cX3_lawful 77 = .ok (.ifCond .ne 22, 3) := by decide +kernel
theorem dX3_lawful_80 : decode cX3_lawful 80 = .ok (.iload_n 2, 1) := by decide +kernel
theorem dX3_lawful_81 : decode cX3_lawful 81 = .ok (.iconst 1, 1) := by decide +kernel
theorem dX3_lawful_82 : decode cX3_lawful 82 = .ok (.iload 4, 2) := by decide +kernel
theorem dX3_lawful_84 : decode cX3_lawful 84 = .ok (.ishl, 1) := by decide +kernel
theorem dX3_lawful_85 : decode cX3_lawful 85 = .ok (.ior, 1) := by decide +kernel
theorem dX3_lawful_86 : decode cX3_lawful 86 = .ok (.istore_n 2, 1) := by decide +kernel
theorem dX3_lawful_87 : decode cX3_lawful 87 = .ok (.iload_n 3, 1) := by decide +kernel
theorem dX3_lawful_88 : decode cX3_lawful 88 = .ok (.iconst 1, 1) := by decide +kernel
theorem dX3_lawful_89 : decode cX3_lawful 89 = .ok (.aload_n 0, 1) := by decide +kernel
theorem dX3_lawful_90 : decode cX3_lawful 90 = .ok (.getfield 18, 3) := by decide +kernel
theorem dX3_lawful_93 : decode cX3_lawful 93 = .ok (.iload 4, 2) := by decide +kernel
theorem dX3_lawful_95 : decode cX3_lawful 95 = .ok (.iaload, 1) := by decide +kernel
theorem dX3_lawful_96 : decode cX3_lawful 96 = .ok (.ishl, 1) := by decide +kernel
theorem dX3_lawful_97 : decode cX3_lawful 97 = .ok (.ior, 1) := by decide +kernel
theorem dX3_lawful_98 : decode cX3_lawful 98 = .ok (.istore_n 3, 1) := by decide +kernel
theorem dX3_lawful_99 : decode cX3_lawful 99 = .ok (.iinc 4 1, 3) := by decide +kernel
theorem dX3_lawful_102 : decode cX3_lawful 102 = .ok (.goto (-95), 3) := by decide +kernel
theorem dX3_lawful_105 : decode cX3_lawful 105 = .ok (.iload_n 2, 1) := by decide +kernel
theorem dX3_lawful_106 : decode cX3_lawful 106 = .ok (.ireturn, 1) := by decide +kernel
theorem dX3_lawfulOfFirst_0 : decode cX3_lawfulOfFirst 0 = .ok (.aload_n 0, 1) := by decide +kernel
theorem dX3_lawfulOfFirst_1 : decode cX3_lawfulOfFirst 1 = .ok (.iconst (-1), 1) := by decide +kernel
theorem dX3_lawfulOfFirst_2 : decode cX3_lawfulOfFirst 2 = .ok (.invokevirtual 36, 3) := by decide +kernel
theorem dX3_lawfulOfFirst_5 : decode cX3_lawfulOfFirst 5 = .ok (.iload_n 1, 1) := by decide +kernel
theorem dX3_lawfulOfFirst_6 : decode cX3_lawfulOfFirst 6 = .ok (.invokestatic 40, 3) := by decide +kernel
theorem dX3_lawfulOfFirst_9 : decode cX3_lawfulOfFirst 9 = .ok (.iand, 1) := by decide +kernel
theorem dX3_lawfulOfFirst_10 : decode cX3_lawfulOfFirst 10 = .ok (.ireturn, 1) := by decide +kernel
theorem dX3_ownerOf_0 : decode cX3_ownerOf 0 = .ok (.iload_n 1, 1) := by decide +kernel
theorem dX3_ownerOf_1 : decode cX3_ownerOf 1 = .ok (.bipush 12, 2) := by decide +kernel
theorem dX3_ownerOf_3 : decode cX3_ownerOf 3 = .ok (.if_icmp .ge 32, 3) := by decide +kernel
theorem dX3_ownerOf_6 : decode cX3_ownerOf 6 = .ok (.iload_n 1, 1) := by decide +kernel
theorem dX3_ownerOf_7 : decode cX3_ownerOf 7 = .ok (.ifCond .lt 26, 3) := by decide +kernel
theorem dX3_ownerOf_10 : decode cX3_ownerOf 10 = .ok (.iload_n 1, 1) := by decide +kernel
theorem dX3_ownerOf_11 : decode cX3_ownerOf 11 = .ok (.aload_n 0, 1) := by decide +kernel
theorem dX3_ownerOf_12 : decode cX3_ownerOf 12 = .ok (.getfield 12, 3) := by decide +kernel
theorem dX3_ownerOf_15 : decode cX3_ownerOf 15 = .ok (.getfield 43, 3) := by decide +kernel
theorem dX3_ownerOf_18 : decode cX3_ownerOf 18 = .ok (.if_icmp .ge 15, 3) := by decide +kernel
theorem dX3_ownerOf_21 : decode cX3_ownerOf 21 = .ok (.aload_n 0, 1) := by decide +kernel
theorem dX3_ownerOf_22 : decode cX3_ownerOf 22 = .ok (.getfield 12, 3) := by decide +kernel
theorem dX3_ownerOf_25 : decode cX3_ownerOf 25 = .ok (.getfield 44, 3) := by decide +kernel
theorem dX3_ownerOf_28 : decode cX3_ownerOf 28 = .ok (.iload_n 1, 1) := by decide +kernel
theorem dX3_ownerOf_29 : decode cX3_ownerOf 29 = .ok (.iaload, 1) := by decide +kernel
theorem dX3_ownerOf_30 : decode cX3_ownerOf 30 = .ok (.goto 4, 3) := by decide +kernel
theorem dX3_ownerOf_33 : decode cX3_ownerOf 33 = .ok (.iconst (-1), 1) := by decide +kernel
theorem dX3_ownerOf_34 : decode cX3_ownerOf 34 = .ok (.ireturn, 1) := by decide +kernel
theorem dX3_ownerOf_35 : decode cX3_ownerOf 35 = .ok (.iload_n 1, 1) := by decide +kernel
theorem dX3_ownerOf_36 : decode cX3_ownerOf 36 = .ok (.bipush 12, 2) := by decide +kernel
theorem dX3_ownerOf_38 : decode cX3_ownerOf 38 = .ok (.isub, 1) := by decide +kernel
theorem dX3_ownerOf_39 : decode cX3_ownerOf 39 = .ok (.istore_n 3, 1) := by decide +kernel
theorem dX3_ownerOf_40 : decode cX3_ownerOf 40 = .ok (.iload_n 3, 1) := by decide +kernel
theorem dX3_ownerOf_41 : decode cX3_ownerOf 41 = .ok (.aload_n 0, 1) := by decide +kernel
theorem dX3_ownerOf_42 : decode cX3_ownerOf 42 = .ok (.getfield 25, 3) := by decide +kernel
theorem dX3_ownerOf_45 : decode cX3_ownerOf 45 = .ok (.if_icmp .ge 16, 3) := by decide +kernel
theorem dX3_ownerOf_48 : decode cX3_ownerOf 48 = .ok (.iload_n 2, 1) := by decide +kernel
theorem dX3_ownerOf_49 : decode cX3_ownerOf 49 = .ok (.iload_n 3, 1) := by decide +kernel
theorem dX3_ownerOf_50 : decode cX3_ownerOf 50 = .ok (.ishr, 1) := by decide +kernel
theorem dX3_ownerOf_51 : decode cX3_ownerOf 51 = .ok (.iconst 1, 1) := by decide +kernel
theorem dX3_ownerOf_52 : decode cX3_ownerOf 52 = .ok (.iand, 1) := by decide +kernel
theorem dX3_ownerOf_53 : decode cX3_ownerOf 53 = .ok (.iconst 1, 1) := by decide +kernel
theorem dX3_ownerOf_54 : decode cX3_ownerOf 54 = .ok (.if_icmp .ne 7, 3) := by decide +kernel
theorem dX3_ownerOf_57 : decode cX3_ownerOf 57 = .ok (.iconst 1, 1) := by decide +kernel
theorem dX3_ownerOf_58 : decode cX3_ownerOf 58 = .ok (.goto 4, 3) := by decide +kernel
theorem dX3_ownerOf_61 : decode cX3_ownerOf 61 = .ok (.iconst 0, 1) := by decide +kernel
theorem dX3_ownerOf_62 : decode cX3_ownerOf 62 = .ok (.istore 4, 2) := by decide +kernel
theorem dX3_ownerOf_64 : decode cX3_ownerOf 64 = .ok (.iload 4, 2) := by decide +kernel
theorem dX3_ownerOf_66 : decode cX3_ownerOf 66 = .ok (.ifCond .eq 12, 3) := by decide +kernel
theorem dX3_ownerOf_69 : decode cX3_ownerOf 69 = .ok (.aload_n 0, 1) := by decide +kernel
theorem dX3_ownerOf_70 : decode cX3_ownerOf 70 = .ok (.getfield 18, 3) := by decide +kernel
theorem dX3_ownerOf_73 : decode cX3_ownerOf 73 = .ok (.iload_n 3, 1) := by decide +kernel
theorem dX3_ownerOf_74 : decode cX3_ownerOf 74 = .ok (.iaload, 1) := by decide +kernel
theorem dX3_ownerOf_75 : decode cX3_ownerOf 75 = .ok (.goto 4, 3) := by decide +kernel
theorem dX3_ownerOf_78 : decode cX3_ownerOf 78 = .ok (.iconst (-1), 1) := by decide +kernel
theorem dX3_ownerOf_79 : decode cX3_ownerOf 79 = .ok (.ireturn, 1) := by decide +kernel
theorem dX3_unspent_0 : decode cX3_unspent 0 = .ok (.bipush 63, 2) := by decide +kernel
theorem dX3_unspent_2 : decode cX3_unspent 2 = .ok (.istore_n 2, 1) := by decide +kernel
theorem dX3_unspent_3 : decode cX3_unspent 3 = .ok (.iconst 0, 1) := by decide +kernel
theorem dX3_unspent_4 : decode cX3_unspent 4 = .ok (.istore_n 3, 1) := by decide +kernel
theorem dX3_unspent_5 : decode cX3_unspent 5 = .ok (.iload_n 3, 1) := by decide +kernel
theorem dX3_unspent_6 : decode cX3_unspent 6 = .ok (.aload_n 0, 1) := by decide +kernel
theorem dX3_unspent_7 : decode cX3_unspent 7 = .ok (.getfield 25, 3) := by decide +kernel
theorem dX3_unspent_10 : decode cX3_unspent 10 = .ok (.if_icmp .ge 31, 3) := by decide +kernel
theorem dX3_unspent_13 : decode cX3_unspent 13 = .ok (.iload_n 1, 1) := by decide +kernel
theorem dX3_unspent_14 : decode cX3_unspent 14 = .ok (.iload_n 3, 1) := by decide +kernel
theorem dX3_unspent_15 : decode cX3_unspent 15 = .ok (.invokestatic 33, 3) := by decide +kernel
theorem dX3_unspent_18 : decode cX3_unspent 18 = .ok (.iconst 1, 1) := by decide +kernel
theorem dX3_unspent_19 : decode cX3_unspent 19 = .ok (.if_icmp .ne 16, 3) := by decide +kernel
theorem dX3_unspent_22 : decode cX3_unspent 22 = .ok (.iload_n 2, 1) := by decide +kernel
theorem dX3_unspent_23 : decode cX3_unspent 23 = .ok (.iconst 1, 1) := by decide +kernel
theorem dX3_unspent_24 : decode cX3_unspent 24 = .ok (.aload_n 0, 1) := by decide +kernel
theorem dX3_unspent_25 : decode cX3_unspent 25 = .ok (.getfield 18, 3) := by decide +kernel
theorem dX3_unspent_28 : decode cX3_unspent 28 = .ok (.iload_n 3, 1) := by decide +kernel
theorem dX3_unspent_29 : decode cX3_unspent 29 = .ok (.iaload, 1) := by decide +kernel
theorem dX3_unspent_30 : decode cX3_unspent 30 = .ok (.ishl, 1) := by decide +kernel
theorem dX3_unspent_31 : decode cX3_unspent 31 = .ok (.iconst (-1), 1) := by decide +kernel
theorem dX3_unspent_32 : decode cX3_unspent 32 = .ok (.ixor, 1) := by decide +kernel
theorem dX3_unspent_33 : decode cX3_unspent 33 = .ok (.iand, 1) := by decide +kernel
theorem dX3_unspent_34 : decode cX3_unspent 34 = .ok (.istore_n 2, 1) := by decide +kernel
theorem dX3_unspent_35 : decode cX3_unspent 35 = .ok (.iinc 3 1, 3) := by decide +kernel
theorem dX3_unspent_38 : decode cX3_unspent 38 = .ok (.goto (-33), 3) := by decide +kernel
theorem dX3_unspent_41 : decode cX3_unspent 41 = .ok (.iload_n 2, 1) := by decide +kernel
theorem dX3_unspent_42 : decode cX3_unspent 42 = .ok (.ireturn, 1) := by decide +kernel
theorem dX3_holding_0 : decode cX3_holding 0 = .ok (.iconst 0, 1) := by decide +kernel
theorem dX3_holding_1 : decode cX3_holding 1 = .ok (.istore_n 2, 1) := by decide +kernel
theorem dX3_holding_2 : decode cX3_holding 2 = .ok (.iconst 0, 1) := by decide +kernel
theorem dX3_holding_3 : decode cX3_holding 3 = .ok (.istore_n 3, 1) := by decide +kernel
theorem dX3_holding_4 : decode cX3_holding 4 = .ok (.bipush 11, 2) := by decide +kernel
theorem dX3_holding_6 : decode cX3_holding 6 = .ok (.istore 4, 2) := by decide +kernel
theorem dX3_holding_8 : decode cX3_holding 8 = .ok (.iload 4, 2) := by decide +kernel
theorem dX3_holding_10 : decode cX3_holding 10 = .ok (.ifCond .lt 57, 3) := by decide +kernel
theorem dX3_holding_13 : decode cX3_holding 13 = .ok (.iload_n 1, 1) := by decide +kernel
theorem dX3_holding_14 : decode cX3_holding 14 = .ok (.iload_n 3, 1) := by decide +kernel
theorem dX3_holding_15 : decode cX3_holding 15 = .ok (.iconst (-1), 1) := by decide +kernel
theorem dX3_holding_16 : decode cX3_holding 16 = .ok (.ixor, 1) := by decide +kernel
theorem dX3_holding_17 : decode cX3_holding 17 = .ok (.iand, 1) := by decide +kernel
theorem dX3_holding_18 : decode cX3_holding 18 = .ok (.iload 4, 2) := by decide +kernel
theorem dX3_holding_20 : decode cX3_holding 20 = .ok (.ishr, 1) := by decide +kernel
theorem dX3_holding_21 : decode cX3_holding 21 = .ok (.iconst 1, 1) := by decide +kernel
theorem dX3_holding_22 : decode cX3_holding 22 = .ok (.iand, 1) := by decide +kernel
theorem dX3_holding_23 : decode cX3_holding 23 = .ok (.iconst 1, 1) := by decide +kernel
theorem dX3_holding_24 : decode cX3_holding 24 = .ok (.if_icmp .ne 37, 3) := by decide +kernel
theorem dX3_holding_27 : decode cX3_holding 27 = .ok (.iload_n 2, 1) := by decide +kernel
theorem dX3_holding_28 : decode cX3_holding 28 = .ok (.iconst 1, 1) := by decide +kernel
theorem dX3_holding_29 : decode cX3_holding 29 = .ok (.iload 4, 2) := by decide +kernel
theorem dX3_holding_31 : decode cX3_holding 31 = .ok (.ishl, 1) := by decide +kernel
theorem dX3_holding_32 : decode cX3_holding 32 = .ok (.ior, 1) := by decide +kernel
theorem dX3_holding_33 : decode cX3_holding 33 = .ok (.istore_n 2, 1) := by decide +kernel
theorem dX3_holding_34 : decode cX3_holding 34 = .ok (.aload_n 0, 1) := by decide +kernel
theorem dX3_holding_35 : decode cX3_holding 35 = .ok (.getfield 22, 3) := by decide +kernel
theorem dX3_holding_38 : decode cX3_holding 38 = .ok (.iload 4, 2) := by decide +kernel
theorem dX3_holding_40 : decode cX3_holding 40 = .ok (.iaload, 1) := by decide +kernel
theorem dX3_holding_41 : decode cX3_holding 41 = .ok (.bipush 12, 2) := by decide +kernel
theorem dX3_holding_43 : decode cX3_holding 43 = .ok (.if_icmp .lt 18, 3) := by decide +kernel
theorem dX3_holding_46 : decode cX3_holding 46 = .ok (.iload_n 3, 1) := by decide +kernel
theorem dX3_holding_47 : decode cX3_holding 47 = .ok (.iconst 1, 1) := by decide +kernel
theorem dX3_holding_48 : decode cX3_holding 48 = .ok (.aload_n 0, 1) := by decide +kernel
theorem dX3_holding_49 : decode cX3_holding 49 = .ok (.getfield 22, 3) := by decide +kernel
theorem dX3_holding_52 : decode cX3_holding 52 = .ok (.iload 4, 2) := by decide +kernel
theorem dX3_holding_54 : decode cX3_holding 54 = .ok (.iaload, 1) := by decide +kernel
theorem dX3_holding_55 : decode cX3_holding 55 = .ok (.bipush 12, 2) := by decide +kernel
theorem dX3_holding_57 : decode cX3_holding 57 = .ok (.isub, 1) := by decide +kernel
theorem dX3_holding_58 : decode cX3_holding 58 = .ok (.ishl, 1) := by decide +kernel
theorem dX3_holding_59 : decode cX3_holding 59 = .ok (.ior, 1) := by decide +kernel
theorem dX3_holding_60 : decode cX3_holding 60 = .ok (.istore_n 3, 1) := by decide +kernel
theorem dX3_holding_61 : decode cX3_holding 61 = .ok (.iinc 4 (-1), 3) := by decide +kernel
theorem dX3_holding_64 : decode cX3_holding 64 = .ok (.goto (-56), 3) := by decide +kernel
theorem dX3_holding_67 : decode cX3_holding 67 = .ok (.iload_n 2, 1) := by decide +kernel
theorem dX3_holding_68 : decode cX3_holding 68 = .ok (.ireturn, 1) := by decide +kernel
theorem dX3_undone_0 : decode cX3_undone 0 = .ok (.aload_n 0, 1) := by decide +kernel
theorem dX3_undone_1 : decode cX3_undone 1 = .ok (.iload_n 1, 1) := by decide +kernel
theorem dX3_undone_2 : decode cX3_undone 2 = .ok (.invokevirtual 47, 3) := by decide +kernel
theorem dX3_undone_5 : decode cX3_undone 5 = .ok (.istore_n 2, 1) := by decide +kernel
theorem dX3_undone_6 : decode cX3_undone 6 = .ok (.iconst 0, 1) := by decide +kernel
theorem dX3_undone_7 : decode cX3_undone 7 = .ok (.istore_n 3, 1) := by decide +kernel
theorem dX3_undone_8 : decode cX3_undone 8 = .ok (.iconst 0, 1) := by decide +kernel
theorem dX3_undone_9 : decode cX3_undone 9 = .ok (.istore 4, 2) := by decide +kernel
theorem dX3_undone_11 : decode cX3_undone 11 = .ok (.iload 4, 2) := by decide +kernel
theorem dX3_undone_13 : decode cX3_undone 13 = .ok (.bipush 12, 2) := by decide +kernel
theorem dX3_undone_15 : decode cX3_undone 15 = .ok (.if_icmp .ge 43, 3) := by decide +kernel
theorem dX3_undone_18 : decode cX3_undone 18 = .ok (.iload_n 2, 1) := by decide +kernel
theorem dX3_undone_19 : decode cX3_undone 19 = .ok (.iload 4, 2) := by decide +kernel
theorem dX3_undone_21 : decode cX3_undone 21 = .ok (.invokestatic 33, 3) := by decide +kernel
theorem dX3_undone_24 : decode cX3_undone 24 = .ok (.iconst 1, 1) := by decide +kernel
theorem dX3_undone_25 : decode cX3_undone 25 = .ok (.if_icmp .ne 27, 3) := by decide +kernel
theorem dX3_undone_28 : decode cX3_undone 28 = .ok (.aload_n 0, 1) := by decide +kernel
theorem dX3_undone_29 : decode cX3_undone 29 = .ok (.getfield 22, 3) := by decide +kernel
theorem dX3_undone_32 : decode cX3_undone 32 = .ok (.iload 4, 2) := by decide +kernel
theorem dX3_undone_34 : decode cX3_undone 34 = .ok (.iaload, 1) := by decide +kernel
theorem dX3_undone_35 : decode cX3_undone 35 = .ok (.bipush 12, 2) := by decide +kernel
theorem dX3_undone_37 : decode cX3_undone 37 = .ok (.if_icmp .ge 15, 3) := by decide +kernel
theorem dX3_undone_40 : decode cX3_undone 40 = .ok (.iload_n 3, 1) := by decide +kernel
theorem dX3_undone_41 : decode cX3_undone 41 = .ok (.iconst 1, 1) := by decide +kernel
theorem dX3_undone_42 : decode cX3_undone 42 = .ok (.aload_n 0, 1) := by decide +kernel
theorem dX3_undone_43 : decode cX3_undone 43 = .ok (.getfield 22, 3) := by decide +kernel
theorem dX3_undone_46 : decode cX3_undone 46 = .ok (.iload 4, 2) := by decide +kernel
theorem dX3_undone_48 : decode cX3_undone 48 = .ok (.iaload, 1) := by decide +kernel
theorem dX3_undone_49 : decode cX3_undone 49 = .ok (.ishl, 1) := by decide +kernel
theorem dX3_undone_50 : decode cX3_undone 50 = .ok (.ior, 1) := by decide +kernel
theorem dX3_undone_51 : decode cX3_undone 51 = .ok (.istore_n 3, 1) := by decide +kernel
theorem dX3_undone_52 : decode cX3_undone 52 = .ok (.iinc 4 1, 3) := by decide +kernel
theorem dX3_undone_55 : decode cX3_undone 55 = .ok (.goto (-44), 3) := by decide +kernel
theorem dX3_undone_58 : decode cX3_undone 58 = .ok (.iload_n 3, 1) := by decide +kernel
theorem dX3_undone_59 : decode cX3_undone 59 = .ok (.ireturn, 1) := by decide +kernel
theorem dX3_standing_0 : decode cX3_standing 0 = .ok (.aload_n 0, 1) := by decide +kernel
theorem dX3_standing_1 : decode cX3_standing 1 = .ok (.getfield 12, 3) := by decide +kernel
theorem dX3_standing_4 : decode cX3_standing 4 = .ok (.aload_n 0, 1) := by decide +kernel
theorem dX3_standing_5 : decode cX3_standing 5 = .ok (.iload_n 1, 1) := by decide +kernel
theorem dX3_standing_6 : decode cX3_standing 6 = .ok (.invokevirtual 50, 3) := by decide +kernel
theorem dX3_standing_9 : decode cX3_standing 9 = .ok (.invokevirtual 53, 3) := by decide +kernel
theorem dX3_standing_12 : decode cX3_standing 12 = .ok (.ireturn, 1) := by decide +kernel
theorem dX4_init_0 : decode cX4_init 0 = .ok (.aload_n 0, 1) := by decide +kernel
theorem dX4_init_1 : decode cX4_init 1 = .ok (.invokespecial 3, 3) := by decide +kernel
theorem dX4_init_4 : decode cX4_init 4 = .ok (.aload_n 0, 1) := by decide +kernel
theorem dX4_init_5 : decode cX4_init 5 = .ok (.new 9, 3) := by decide +kernel
theorem dX4_init_8 : decode cX4_init 8 = .ok (.dup, 1) := by decide +kernel
theorem dX4_init_9 : decode cX4_init 9 = .ok (.invokespecial 11, 3) := by decide +kernel
theorem dX4_init_12 : decode cX4_init 12 = .ok (.putfield 12, 3) := by decide +kernel
theorem dX4_init_15 : decode cX4_init 15 = .ok (.aload_n 0, 1) := by decide +kernel
theorem dX4_init_16 : decode cX4_init 16 = .ok (.aload_n 0, 1) := by decide +kernel
theorem dX4_init_17 : decode cX4_init 17 = .ok (.getfield 12, 3) := by decide +kernel
theorem dX4_init_20 : decode cX4_init 20 = .ok (.getfield 16, 3) := by decide +kernel
theorem dX4_init_23 : decode cX4_init 23 = .ok (.putfield 20, 3) := by decide +kernel
theorem dX4_init_26 : decode cX4_init 26 = .ok (.aload_n 0, 1) := by decide +kernel
theorem dX4_init_27 : decode cX4_init 27 = .ok (.aload_n 0, 1) := by decide +kernel
theorem dX4_init_28 : decode cX4_init 28 = .ok (.getfield 20, 3) := by decide +kernel
theorem dX4_init_31 : decode cX4_init 31 = .ok (.getfield 21, 3) := by decide +kernel
theorem dX4_init_34 : decode cX4_init 34 = .ok (.putfield 27, 3) := by decide +kernel
theorem dX4_init_37 : decode cX4_init 37 = .ok (.aload_n 0, 1) := by decide +kernel
theorem dX4_init_38 : decode cX4_init 38 = .ok (.iconst 4, 1) := by decide +kernel
theorem dX4_init_39 : decode cX4_init 39 = .ok (.anewarray 28, 3) := by decide +kernel
theorem dX4_init_42 : decode cX4_init 42 = .ok (.putfield 30, 3) := by decide +kernel
theorem dX4_init_45 : decode cX4_init 45 = .ok (.aload_n 0, 1) := by decide +kernel
theorem dX4_init_46 : decode cX4_init 46 = .ok (.iconst 0, 1) := by decide +kernel
theorem dX4_init_47 : decode cX4_init 47 = .ok (.putfield 34, 3) := by decide +kernel
theorem dX4_init_50 : decode cX4_init 50 = .ok (.iconst 0, 1) := by decide +kernel
theorem dX4_init_51 : decode cX4_init 51 = .ok (.istore_n 1, 1) := by decide +kernel
theorem dX4_init_52 : decode cX4_init 52 = .ok (.iload_n 1, 1) := by decide +kernel
theorem dX4_init_53 : decode cX4_init 53 = .ok (.iconst 4, 1) := by decide +kernel
theorem dX4_init_54 : decode cX4_init 54 = .ok (.if_icmp .ge 22, 3) := by decide +kernel
theorem dX4_init_57 : decode cX4_init 57 = .ok (.aload_n 0, 1) := by decide +kernel
theorem dX4_init_58 : decode cX4_init 58 = .ok (.getfield 30, 3) := by decide +kernel
theorem dX4_init_61 : decode cX4_init 61 = .ok (.iload_n 1, 1) := by decide +kernel
theorem dX4_init_62 : decode cX4_init 62 = .ok (.new 28, 3) := by decide +kernel
theorem dX4_init_65 : decode cX4_init 65 = .ok (.dup, 1) := by decide +kernel
theorem dX4_init_66 : decode cX4_init 66 = .ok (.invokespecial 38, 3) := by decide +kernel
theorem dX4_init_69 : decode cX4_init 69 = .ok (.aastore, 1) := by decide +kernel
theorem dX4_init_70 : decode cX4_init 70 = .ok (.iinc 1 1, 3) := by decide +kernel
theorem dX4_init_73 : decode cX4_init 73 = .ok (.goto (-21), 3) := by decide +kernel
theorem dX4_init_76 : decode cX4_init 76 = .ok (.return_, 1) := by decide +kernel
theorem dX4_type_0 : decode cX4_type 0 = .ok (.iload_n 1, 1) := by decide +kernel
theorem dX4_type_1 : decode cX4_type 1 = .ok (.sipush 256, 3) := by decide +kernel
theorem dX4_type_4 : decode cX4_type 4 = .ok (.invokestatic 39, 3) := by decide +kernel
theorem dX4_type_7 : decode cX4_type 7 = .ok (.ifCond .ne 6, 3) := by decide +kernel
theorem dX4_type_10 : decode cX4_type 10 = .ok (.bipush (-2), 2) := by decide +kernel
theorem dX4_type_12 : decode cX4_type 12 = .ok (.ireturn, 1) := by decide +kernel
theorem dX4_type_13 : decode cX4_type 13 = .ok (.aload_n 0, 1) := by decide +kernel
theorem dX4_type_14 : decode cX4_type 14 = .ok (.getfield 27, 3) := by decide +kernel
theorem dX4_type_17 : decode cX4_type 17 = .ok (.getfield 43, 3) := by decide +kernel
theorem dX4_type_20 : decode cX4_type 20 = .ok (.bipush 60, 2) := by decide +kernel
theorem dX4_type_22 : decode cX4_type 22 = .ok (.if_icmp .lt 6, 3) := by decide +kernel
theorem dX4_type_25 : decode cX4_type 25 = .ok (.bipush (-4), 2) := by decide +kernel
theorem dX4_type_27 : decode cX4_type 27 = .ok (.ireturn, 1) := by decide +kernel
theorem dX4_type_28 : decode cX4_type 28 = .ok (.aload_n 0, 1) := by decide +kernel
theorem dX4_type_29 : decode cX4_type 29 = .ok (.getfield 27, 3) := by decide +kernel
theorem dX4_type_32 : decode cX4_type 32 = .ok (.iload_n 1, 1) := by decide +kernel
theorem dX4_type_33 : decode cX4_type 33 = .ok (.invokevirtual 48, 3) := by decide +kernel
theorem dX4_type_36 : decode cX4_type 36 = .ok (.ireturn, 1) := by decide +kernel
theorem dX4_wipe_0 : decode cX4_wipe 0 = .ok (.aload_n 0, 1) := by decide +kernel
theorem dX4_wipe_1 : decode cX4_wipe 1 = .ok (.getfield 27, 3) := by decide +kernel
theorem dX4_wipe_4 : decode cX4_wipe 4 = .ok (.invokevirtual 52, 3) := by decide +kernel
theorem dX4_wipe_7 : decode cX4_wipe 7 = .ok (.ireturn, 1) := by decide +kernel
theorem dX4_fault_0 : decode cX4_fault 0 = .ok (.aload_n 0, 1) := by decide +kernel
theorem dX4_fault_1 : decode cX4_fault 1 = .ok (.getfield 27, 3) := by decide +kernel
theorem dX4_fault_4 : decode cX4_fault 4 = .ok (.getfield 56, 3) := by decide +kernel
theorem dX4_fault_7 : decode cX4_fault 7 = .ok (.ireturn, 1) := by decide +kernel
theorem dX4_deed_0 : decode cX4_deed 0 = .ok (.iload_n 1, 1) := by decide +kernel
theorem dX4_deed_1 : decode cX4_deed 1 = .ok (.aload_n 0, 1) := by decide +kernel
theorem dX4_deed_2 : decode cX4_deed 2 = .ok (.getfield 27, 3) := by decide +kernel
theorem dX4_deed_5 : decode cX4_deed 5 = .ok (.getfield 59, 3) := by decide +kernel
theorem dX4_deed_8 : decode cX4_deed 8 = .ok (.invokestatic 39, 3) := by decide +kernel
theorem dX4_deed_11 : decode cX4_deed 11 = .ok (.ifCond .eq 11, 3) := by decide +kernel
theorem dX4_deed_14 : decode cX4_deed 14 = .ok (.iload_n 2, 1) := by decide +kernel
theorem dX4_deed_15 : decode cX4_deed 15 = .ok (.iconst 3, 1) := by decide +kernel
theorem dX4_deed_16 : decode cX4_deed 16 = .ok (.invokestatic 39, 3) := by decide +kernel
theorem dX4_deed_19 : decode cX4_deed 19 = .ok (.ifCond .ne 6, 3) := by decide +kernel
theorem dX4_deed_22 : decode cX4_deed 22 = .ok (.bipush (-2), 2) := by decide +kernel
theorem dX4_deed_24 : decode cX4_deed 24 = .ok (.ireturn, 1) := by decide +kernel
theorem dX4_deed_25 : decode cX4_deed 25 = .ok (.iload_n 2, 1) := by decide +kernel
theorem dX4_deed_26 : decode cX4_deed 26 = .ok (.ifCond .ne 13, 3) := by decide +kernel
theorem dX4_deed_29 : decode cX4_deed 29 = .ok (.aload_n 0, 1) := by decide +kernel
theorem dX4_deed_30 : decode cX4_deed 30 = .ok (.getfield 27, 3) := by decide +kernel
theorem dX4_deed_33 : decode cX4_deed 33 = .ok (.getfield 62, 3) := by decide +kernel
theorem dX4_deed_36 : decode cX4_deed 36 = .ok (.iload_n 1, 1) := by decide +kernel
theorem dX4_deed_37 : decode cX4_deed 37 = .ok (.iaload, 1) := by decide +kernel
theorem dX4_deed_38 : decode cX4_deed 38 = .ok (.ireturn, 1) := by decide +kernel
theorem dX4_deed_39 : decode cX4_deed 39 = .ok (.iload_n 2, 1) := by decide +kernel
theorem dX4_deed_40 : decode cX4_deed 40 = .ok (.iconst 1, 1) := by decide +kernel
theorem dX4_deed_41 : decode cX4_deed 41 = .ok (.if_icmp .ne 15, 3) := by decide +kernel
theorem dX4_deed_44 : decode cX4_deed 44 = .ok (.aload_n 0, 1) := by decide +kernel
theorem dX4_deed_45 : decode cX4_deed 45 = .ok (.getfield 27, 3) := by decide +kernel
theorem dX4_deed_48 : decode cX4_deed 48 = .ok (.getfield 66, 3) := by decide +kernel
theorem dX4_deed_51 : decode cX4_deed 51 = .ok (.iload_n 1, 1) := by decide +kernel
theorem dX4_deed_52 : decode cX4_deed 52 = .ok (.iaload, 1) := by decide +kernel
theorem dX4_deed_53 : decode cX4_deed 53 = .ok (.goto 14, 3) := by decide +kernel
theorem dX4_deed_56 : decode cX4_deed 56 = .ok (.aload_n 0, 1) := by decide +kernel
theorem dX4_deed_57 : decode cX4_deed 57 = .ok (.getfield 27, 3) := by decide +kernel
theorem dX4_deed_60 : decode cX4_deed 60 = .ok (.getfield 69, 3) := by decide +kernel
theorem dX4_deed_63 : decode cX4_deed 63 = .ok (.iload_n 1, 1) := by decide +kernel
theorem dX4_deed_64 : decode cX4_deed 64 = .ok (.invokestatic 72, 3) := by decide +kernel
theorem dX4_deed_67 : decode cX4_deed 67 = .ok (.ireturn, 1) := by decide +kernel
theorem dX4_undoes_0 : decode cX4_undoes 0 = .ok (.iload_n 1, 1) := by decide +kernel
theorem dX4_undoes_1 : decode cX4_undoes 1 = .ok (.bipush 6, 2) := by decide +kernel
theorem dX4_undoes_3 : decode cX4_undoes 3 = .ok (.invokestatic 39, 3) := by decide +kernel
theorem dX4_undoes_6 : decode cX4_undoes 6 = .ok (.ifCond .eq 12, 3) := by decide +kernel
theorem dX4_undoes_9 : decode cX4_undoes 9 = .ok (.iload_n 2, 1) := by decide +kernel
theorem dX4_undoes_10 : decode cX4_undoes 10 = .ok (.bipush 24, 2) := by decide +kernel
theorem dX4_undoes_12 : decode cX4_undoes 12 = .ok (.invokestatic 39, 3) := by decide +kernel
theorem dX4_undoes_15 : decode cX4_undoes 15 = .ok (.ifCond .ne 6, 3) := by decide +kernel
theorem dX4_undoes_18 : decode cX4_undoes 18 = .ok (.bipush (-2), 2) := by decide +kernel
theorem dX4_undoes_20 : decode cX4_undoes 20 = .ok (.ireturn, 1) := by decide +kernel
theorem dX4_undoes_21 : decode cX4_undoes 21 = .ok (.aload_n 0, 1) := by decide +kernel
theorem dX4_undoes_22 : decode cX4_undoes 22 = .ok (.getfield 20, 3) := by decide +kernel
theorem dX4_undoes_25 : decode cX4_undoes 25 = .ok (.iload_n 1, 1) := by decide +kernel
theorem dX4_undoes_26 : decode cX4_undoes 26 = .ok (.iload_n 2, 1) := by decide +kernel
theorem dX4_undoes_27 : decode cX4_undoes 27 = .ok (.invokevirtual 76, 3) := by decide +kernel
theorem dX4_undoes_30 : decode cX4_undoes 30 = .ok (.ifCond .eq 13, 3) := by decide +kernel
theorem dX4_undoes_33 : decode cX4_undoes 33 = .ok (.aload_n 0, 1) := by decide +kernel
theorem dX4_undoes_34 : decode cX4_undoes 34 = .ok (.getfield 20, 3) := by decide +kernel
theorem dX4_undoes_37 : decode cX4_undoes 37 = .ok (.getfield 79, 3) := by decide +kernel
theorem dX4_undoes_40 : decode cX4_undoes 40 = .ok (.goto 5, 3) := by decide +kernel
theorem dX4_undoes_43 : decode cX4_undoes 43 = .ok (.bipush (-4), 2) := by decide +kernel
theorem dX4_undoes_45 : decode cX4_undoes 45 = .ok (.ireturn, 1) := by decide +kernel
theorem dX4_read_0 : decode cX4_read 0 = .ok (.iload_n 1, 1) := by decide +kernel
theorem dX4_read_1 : decode cX4_read 1 = .ok (.iconst 4, 1) := by decide +kernel
theorem dX4_read_2 : decode cX4_read 2 = .ok (.invokestatic 39, 3) := by decide +kernel
theorem dX4_read_5 : decode cX4_read 5 = .ok (.ifCond .ne 6, 3) := by decide +kernel
theorem dX4_read_8 : decode cX4_read 8 = .ok (.bipush (-2), 2) := by decide +kernel
theorem dX4_read_10 : decode cX4_read 10 = .ok (.ireturn, 1) := by decide +kernel
theorem dX4_read_11 : decode cX4_read 11 = .ok (.aload_n 0, 1) := by decide +kernel
theorem dX4_read_12 : decode cX4_read 12 = .ok (.getfield 30, 3) := by decide +kernel
theorem dX4_read_15 : decode cX4_read 15 = .ok (.iload_n 1, 1) := by decide +kernel
theorem dX4_read_16 : decode cX4_read 16 = .ok (.aaload, 1) := by decide +kernel
theorem dX4_read_17 : decode cX4_read 17 = .ok (.astore_n 2, 1) := by decide +kernel
theorem dX4_read_18 : decode cX4_read 18 = .ok (.aload_n 2, 1) := by decide +kernel
theorem dX4_read_19 : decode cX4_read 19 = .ok (.getfield 80, 3) := by decide +kernel
theorem dX4_read_22 : decode cX4_read 22 = .ok (.ifCond .eq 9, 3) := by decide +kernel
theorem dX4_read_25 : decode cX4_read 25 = .ok (.aload_n 0, 1) := by decide +kernel
theorem dX4_read_26 : decode cX4_read 26 = .ok (.iconst 1, 1) := by decide +kernel
theorem dX4_read_27 : decode cX4_read 27 = .ok (.invokevirtual 84, 3) := by decide +kernel
theorem dX4_read_30 : decode cX4_read 30 = .ok (.ireturn, 1) := by decide +kernel
theorem dX4_read_31 : decode cX4_read 31 = .ok (.iconst 0, 1) := by decide +kernel
theorem dX4_read_32 : decode cX4_read 32 = .ok (.istore_n 3, 1) := by decide +kernel
theorem dX4_read_33 : decode cX4_read 33 = .ok (.iload_n 3, 1) := by decide +kernel
theorem dX4_read_34 : decode cX4_read 34 = .ok (.bipush 12, 2) := by decide +kernel
theorem dX4_read_36 : decode cX4_read 36 = .ok (.if_icmp .ge 80, 3) := by decide +kernel
theorem dX4_read_39 : decode cX4_read 39 = .ok (.iconst 2, 1) := by decide +kernel
theorem dX4_read_40 : decode cX4_read 40 = .ok (.iload_n 3, 1) := by decide +kernel
theorem dX4_read_41 : decode cX4_read 41 = .ok (.imul, 1) := by decide +kernel
theorem dX4_read_42 : decode cX4_read 42 = .ok (.iconst 1, 1) := by decide +kernel
theorem dX4_read_43 : decode cX4_read 43 = .ok (.iadd, 1) := by decide +kernel
theorem dX4_read_44 : decode cX4_read 44 = .ok (.aload_n 2, 1) := by decide +kernel
theorem dX4_read_45 : decode cX4_read 45 = .ok (.getfield 87, 3) := by decide +kernel
theorem dX4_read_48 : decode cX4_read 48 = .ok (.if_icmp .ge 68, 3) := by decide +kernel
theorem dX4_read_51 : decode cX4_read 51 = .ok (.aload_n 2, 1) := by decide +kernel
theorem dX4_read_52 : decode cX4_read 52 = .ok (.getfield 90, 3) := by decide +kernel
theorem dX4_read_55 : decode cX4_read 55 = .ok (.iconst 2, 1) := by decide +kernel
theorem dX4_read_56 : decode cX4_read 56 = .ok (.iload_n 3, 1) := by decide +kernel
theorem dX4_read_57 : decode cX4_read 57 = .ok (.imul, 1) := by decide +kernel
theorem dX4_read_58 : decode cX4_read 58 = .ok (.iaload, 1) := by decide +kernel
theorem dX4_read_59 : decode cX4_read 59 = .ok (.istore 4, 2) := by decide +kernel
theorem dX4_read_61 : decode cX4_read 61 = .ok (.aload_n 2, 1) := by decide +kernel
theorem dX4_read_62 : decode cX4_read 62 = .ok (.getfield 90, 3) := by decide +kernel
theorem dX4_read_65 : decode cX4_read 65 = .ok (.iconst 2, 1) := by decide +kernel
theorem dX4_read_66 : decode cX4_read 66 = .ok (.iload_n 3, 1) := by decide +kernel
theorem dX4_read_67 : decode cX4_read 67 = .ok (.imul, 1) := by decide +kernel
theorem dX4_read_68 : decode cX4_read 68 = .ok (.iconst 1, 1) := by decide +kernel
theorem dX4_read_69 : decode cX4_read 69 = .ok (.iadd, 1) := by decide +kernel
theorem dX4_read_70 : decode cX4_read 70 = .ok (.iaload, 1) := by decide +kernel
theorem dX4_read_71 : decode cX4_read 71 = .ok (.istore 5, 2) := by decide +kernel
theorem dX4_read_73 : decode cX4_read 73 = .ok (.iload 4, 2) := by decide +kernel
theorem dX4_read_75 : decode cX4_read 75 = .ok (.bipush 6, 2) := by decide +kernel
theorem dX4_read_77 : decode cX4_read 77 = .ok (.invokestatic 39, 3) := by decide +kernel
theorem dX4_read_80 : decode cX4_read 80 = .ok (.ifCond .eq 36, 3) := by decide +kernel
theorem dX4_read_83 : decode cX4_read 83 = .ok (.iload 5, 2) := by decide +kernel
theorem dX4_read_85 : decode cX4_read 85 = .ok (.bipush 24, 2) := by decide +kernel
theorem dX4_read_87 : decode cX4_read 87 = .ok (.invokestatic 39, 3) := by decide +kernel
theorem dX4_read_90 : decode cX4_read 90 = .ok (.ifCond .eq 26, 3) := by decide +kernel
theorem dX4_read_93 : decode cX4_read 93 = .ok (.aload_n 0, 1) := by decide +kernel
theorem dX4_read_94 : decode cX4_read 94 = .ok (.getfield 20, 3) := by decide +kernel
theorem dX4_read_97 : decode cX4_read 97 = .ok (.iload 4, 2) := by decide +kernel
theorem dX4_read_99 : decode cX4_read 99 = .ok (.iload 5, 2) := by decide +kernel
theorem dX4_read_101 : decode cX4_read 101 = .ok (.invokevirtual 76, 3) := by decide +kernel
theorem dX4_read_104 : decode cX4_read 104 = .ok (.ifCond .ne 6, 3) := by decide +kernel
theorem dX4_read_107 : decode cX4_read 107 = .ok (.goto 9, 3) := by decide +kernel
theorem dX4_read_110 : decode cX4_read 110 = .ok (.iinc 3 1, 3) := by decide +kernel
theorem dX4_read_113 : decode cX4_read 113 = .ok (.goto (-80), 3) := by decide +kernel
theorem dX4_read_116 : decode cX4_read 116 = .ok (.iload_n 3, 1) := by decide +kernel
theorem dX4_read_117 : decode cX4_read 117 = .ok (.ireturn, 1) := by decide +kernel
theorem dX4_undo_0 : decode cX4_undo 0 = .ok (.aload_n 0, 1) := by decide +kernel
theorem dX4_undo_1 : decode cX4_undo 1 = .ok (.getfield 20, 3) := by decide +kernel
theorem dX4_undo_4 : decode cX4_undo 4 = .ok (.getfield 79, 3) := by decide +kernel
theorem dX4_undo_7 : decode cX4_undo 7 = .ok (.ifCond .ne 6, 3) := by decide +kernel
theorem dX4_undo_10 : decode cX4_undo 10 = .ok (.bipush (-3), 2) := by decide +kernel
theorem dX4_undo_12 : decode cX4_undo 12 = .ok (.ireturn, 1) := by decide +kernel
theorem dX4_undo_13 : decode cX4_undo 13 = .ok (.aload_n 0, 1) := by decide +kernel
theorem dX4_undo_14 : decode cX4_undo 14 = .ok (.getfield 20, 3) := by decide +kernel
theorem dX4_undo_17 : decode cX4_undo 17 = .ok (.dup, 1) := by decide +kernel
theorem dX4_undo_18 : decode cX4_undo 18 = .ok (.getfield 79, 3) := by decide +kernel
theorem dX4_undo_21 : decode cX4_undo 21 = .ok (.iconst 1, 1) := by decide +kernel
theorem dX4_undo_22 : decode cX4_undo 22 = .ok (.isub, 1) := by decide +kernel
theorem dX4_undo_23 : decode cX4_undo 23 = .ok (.putfield 79, 3) := by decide +kernel
theorem dX4_undo_26 : decode cX4_undo 26 = .ok (.aload_n 0, 1) := by decide +kernel
theorem dX4_undo_27 : decode cX4_undo 27 = .ok (.getfield 20, 3) := by decide +kernel
theorem dX4_undo_30 : decode cX4_undo 30 = .ok (.getfield 79, 3) := by decide +kernel
theorem dX4_undo_33 : decode cX4_undo 33 = .ok (.ireturn, 1) := by decide +kernel
theorem dX4_worth_0 : decode cX4_worth 0 = .ok (.iload_n 1, 1) := by decide +kernel
theorem dX4_worth_1 : decode cX4_worth 1 = .ok (.bipush 6, 2) := by decide +kernel
theorem dX4_worth_3 : decode cX4_worth 3 = .ok (.invokestatic 39, 3) := by decide +kernel
theorem dX4_worth_6 : decode cX4_worth 6 = .ok (.ifCond .eq 12, 3) := by decide +kernel
theorem dX4_worth_9 : decode cX4_worth 9 = .ok (.iload_n 2, 1) := by decide +kernel
theorem dX4_worth_10 : decode cX4_worth 10 = .ok (.bipush 12, 2) := by decide +kernel
theorem dX4_worth_12 : decode cX4_worth 12 = .ok (.invokestatic 39, 3) := by decide +kernel
theorem dX4_worth_15 : decode cX4_worth 15 = .ok (.ifCond .ne 7, 3) := by decide +kernel
theorem dX4_worth_18 : decode cX4_worth 18 = .ok (.sipush (-1002), 3) := by decide +kernel
theorem dX4_worth_21 : decode cX4_worth 21 = .ok (.ireturn, 1) := by decide +kernel
theorem dX4_worth_22 : decode cX4_worth 22 = .ok (.iload_n 3, 1) := by decide +kernel
theorem dX4_worth_23 : decode cX4_worth 23 = .ok (.bipush (-9), 2) := by decide +kernel
theorem dX4_worth_25 : decode cX4_worth 25 = .ok (.if_icmp .lt 9, 3) := by decide +kernel
theorem dX4_worth_28 : decode cX4_worth 28 = .ok (.iload_n 3, 1) := by decide +kernel
theorem dX4_worth_29 : decode cX4_worth 29 = .ok (.bipush 9, 2) := by decide +kernel
theorem dX4_worth_31 : decode cX4_worth 31 = .ok (.if_icmp .le 7, 3) := by decide +kernel
theorem dX4_worth_34 : decode cX4_worth 34 = .ok (.sipush (-1002), 3) := by decide +kernel
theorem dX4_worth_37 : decode cX4_worth 37 = .ok (.ireturn, 1) := by decide +kernel
theorem dX4_worth_38 : decode cX4_worth 38 = .ok (.aload_n 0, 1) := by decide +kernel
theorem dX4_worth_39 : decode cX4_worth 39 = .ok (.getfield 12, 3) := by decide +kernel
theorem dX4_worth_42 : decode cX4_worth 42 = .ok (.getfield 93, 3) := by decide +kernel
theorem dX4_worth_45 : decode cX4_worth 45 = .ok (.iload_n 1, 1) := by decide +kernel
theorem dX4_worth_46 : decode cX4_worth 46 = .ok (.aaload, 1) := by decide +kernel
theorem dX4_worth_47 : decode cX4_worth 47 = .ok (.iload_n 2, 1) := by decide +kernel
theorem dX4_worth_48 : decode cX4_worth 48 = .ok (.iaload, 1) := by decide +kernel
theorem dX4_worth_49 : decode cX4_worth 49 = .ok (.istore 4, 2) := by decide +kernel
theorem dX4_worth_51 : decode cX4_worth 51 = .ok (.aload_n 0, 1) := by decide +kernel
theorem dX4_worth_52 : decode cX4_worth 52 = .ok (.getfield 12, 3) := by decide +kernel
theorem dX4_worth_55 : decode cX4_worth 55 = .ok (.getfield 93, 3) := by decide +kernel
theorem dX4_worth_58 : decode cX4_worth 58 = .ok (.iload_n 1, 1) := by decide +kernel
theorem dX4_worth_59 : decode cX4_worth 59 = .ok (.aaload, 1) := by decide +kernel
theorem dX4_worth_60 : decode cX4_worth 60 = .ok (.iload_n 2, 1) := by decide +kernel
theorem dX4_worth_61 : decode cX4_worth 61 = .ok (.iload_n 3, 1) := by decide +kernel
theorem dX4_worth_62 : decode cX4_worth 62 = .ok (.iastore, 1) := by decide +kernel
theorem dX4_worth_63 : decode cX4_worth 63 = .ok (.iload 4, 2) := by decide +kernel
theorem dX4_worth_65 : decode cX4_worth 65 = .ok (.ireturn, 1) := by decide +kernel
theorem dX4_judged_0 : decode cX4_judged 0 = .ok (.aload_n 0, 1) := by decide +kernel
theorem dX4_judged_1 : decode cX4_judged 1 = .ok (.getfield 20, 3) := by decide +kernel
theorem dX4_judged_4 : decode cX4_judged 4 = .ok (.iconst (-1), 1) := by decide +kernel
theorem dX4_judged_5 : decode cX4_judged 5 = .ok (.invokevirtual 97, 3) := by decide +kernel
theorem dX4_judged_8 : decode cX4_judged 8 = .ok (.istore_n 1, 1) := by decide +kernel
theorem dX4_judged_9 : decode cX4_judged 9 = .ok (.iconst 0, 1) := by decide +kernel
theorem dX4_judged_10 : decode cX4_judged 10 = .ok (.istore_n 2, 1) := by decide +kernel
theorem dX4_judged_11 : decode cX4_judged 11 = .ok (.iload_n 2, 1) := by decide +kernel
theorem dX4_judged_12 : decode cX4_judged 12 = .ok (.aload_n 0, 1) := by decide +kernel
theorem dX4_judged_13 : decode cX4_judged 13 = .ok (.getfield 20, 3) := by decide +kernel
theorem dX4_judged_16 : decode cX4_judged 16 = .ok (.getfield 79, 3) := by decide +kernel
theorem dX4_judged_19 : decode cX4_judged 19 = .ok (.if_icmp .ge 19, 3) := by decide +kernel
theorem dX4_judged_22 : decode cX4_judged 22 = .ok (.iload_n 1, 1) := by decide +kernel
theorem dX4_judged_23 : decode cX4_judged 23 = .ok (.iload_n 2, 1) := by decide +kernel
theorem dX4_judged_24 : decode cX4_judged 24 = .ok (.invokestatic 72, 3) := by decide +kernel
theorem dX4_judged_27 : decode cX4_judged 27 = .ok (.ifCond .ne 5, 3) := by decide +kernel
theorem dX4_judged_30 : decode cX4_judged 30 = .ok (.iload_n 2, 1) := by decide +kernel
theorem dX4_judged_31 : decode cX4_judged 31 = .ok (.ireturn, 1) := by decide +kernel
theorem dX4_judged_32 : decode cX4_judged 32 = .ok (.iinc 2 1, 3) := by decide +kernel
theorem dX4_judged_35 : decode cX4_judged 35 = .ok (.goto (-24), 3) := by decide +kernel
theorem dX4_judged_38 : decode cX4_judged 38 = .ok (.iconst (-1), 1) := by decide +kernel
theorem dX4_judged_39 : decode cX4_judged 39 = .ok (.ireturn, 1) := by decide +kernel
theorem dX4_holds_0 : decode cX4_holds 0 = .ok (.iload_n 1, 1) := by decide +kernel
theorem dX4_holds_1 : decode cX4_holds 1 = .ok (.aload_n 0, 1) := by decide +kernel
theorem dX4_holds_2 : decode cX4_holds 2 = .ok (.getfield 20, 3) := by decide +kernel
theorem dX4_holds_5 : decode cX4_holds 5 = .ok (.getfield 79, 3) := by decide +kernel
theorem dX4_holds_8 : decode cX4_holds 8 = .ok (.invokestatic 39, 3) := by decide +kernel
theorem dX4_holds_11 : decode cX4_holds 11 = .ok (.ifCond .ne 6, 3) := by decide +kernel
theorem dX4_holds_14 : decode cX4_holds 14 = .ok (.bipush (-2), 2) := by decide +kernel
theorem dX4_holds_16 : decode cX4_holds 16 = .ok (.ireturn, 1) := by decide +kernel
theorem dX4_holds_17 : decode cX4_holds 17 = .ok (.aload_n 0, 1) := by decide +kernel
theorem dX4_holds_18 : decode cX4_holds 18 = .ok (.getfield 20, 3) := by decide +kernel
theorem dX4_holds_21 : decode cX4_holds 21 = .ok (.aload_n 0, 1) := by decide +kernel
theorem dX4_holds_22 : decode cX4_holds 22 = .ok (.getfield 20, 3) := by decide +kernel
theorem dX4_holds_25 : decode cX4_holds 25 = .ok (.iconst (-1), 1) := by decide +kernel
theorem dX4_holds_26 : decode cX4_holds 26 = .ok (.invokevirtual 97, 3) := by decide +kernel
theorem dX4_holds_29 : decode cX4_holds 29 = .ok (.invokevirtual 100, 3) := by decide +kernel
theorem dX4_holds_32 : decode cX4_holds 32 = .ok (.iload_n 1, 1) := by decide +kernel
theorem dX4_holds_33 : decode cX4_holds 33 = .ok (.invokestatic 72, 3) := by decide +kernel
theorem dX4_holds_36 : decode cX4_holds 36 = .ok (.ireturn, 1) := by decide +kernel
theorem dX4_state_0 : decode cX4_state 0 = .ok (.iload_n 1, 1) := by decide +kernel
theorem dX4_state_1 : decode cX4_state 1 = .ok (.aload_n 0, 1) := by decide +kernel
theorem dX4_state_2 : decode cX4_state 2 = .ok (.getfield 20, 3) := by decide +kernel
theorem dX4_state_5 : decode cX4_state 5 = .ok (.getfield 79, 3) := by decide +kernel
theorem dX4_state_8 : decode cX4_state 8 = .ok (.iconst 1, 1) := by decide +kernel
theorem dX4_state_9 : decode cX4_state 9 = .ok (.iadd, 1) := by decide +kernel
theorem dX4_state_10 : decode cX4_state 10 = .ok (.invokestatic 39, 3) := by decide +kernel
theorem dX4_state_13 : decode cX4_state 13 = .ok (.ifCond .eq 11, 3) := by decide +kernel
theorem dX4_state_16 : decode cX4_state 16 = .ok (.iload_n 2, 1) := by decide +kernel
theorem dX4_state_17 : decode cX4_state 17 = .ok (.iconst 2, 1) := by decide +kernel
theorem dX4_state_18 : decode cX4_state 18 = .ok (.invokestatic 39, 3) := by decide +kernel
theorem dX4_state_21 : decode cX4_state 21 = .ok (.ifCond .ne 6, 3) := by decide +kernel
theorem dX4_state_24 : decode cX4_state 24 = .ok (.bipush (-2), 2) := by decide +kernel
theorem dX4_state_26 : decode cX4_state 26 = .ok (.ireturn, 1) := by decide +kernel
theorem dX4_state_27 : decode cX4_state 27 = .ok (.iload_n 2, 1) := by decide +kernel
theorem dX4_state_28 : decode cX4_state 28 = .ok (.ifCond .ne 11, 3) := by decide +kernel
theorem dX4_state_31 : decode cX4_state 31 = .ok (.aload_n 0, 1) := by decide +kernel
theorem dX4_state_32 : decode cX4_state 32 = .ok (.iload_n 1, 1) := by decide +kernel
theorem dX4_state_33 : decode cX4_state 33 = .ok (.invokevirtual 103, 3) := by decide +kernel
theorem dX4_state_36 : decode cX4_state 36 = .ok (.goto 18, 3) := by decide +kernel
theorem dX4_state_39 : decode cX4_state 39 = .ok (.aload_n 0, 1) := by decide +kernel
theorem dX4_state_40 : decode cX4_state 40 = .ok (.getfield 20, 3) := by decide +kernel
theorem dX4_state_43 : decode cX4_state 43 = .ok (.aload_n 0, 1) := by decide +kernel
theorem dX4_state_44 : decode cX4_state 44 = .ok (.getfield 20, 3) := by decide +kernel
theorem dX4_state_47 : decode cX4_state 47 = .ok (.iload_n 1, 1) := by decide +kernel
theorem dX4_state_48 : decode cX4_state 48 = .ok (.invokevirtual 106, 3) := by decide +kernel
theorem dX4_state_51 : decode cX4_state 51 = .ok (.invokevirtual 109, 3) := by decide +kernel
theorem dX4_state_54 : decode cX4_state 54 = .ok (.ireturn, 1) := by decide +kernel
theorem dX4_root_0 : decode cX4_root 0 = .ok (.iload_n 1, 1) := by decide +kernel
theorem dX4_root_1 : decode cX4_root 1 = .ok (.aload_n 0, 1) := by decide +kernel
theorem dX4_root_2 : decode cX4_root 2 = .ok (.getfield 27, 3) := by decide +kernel
theorem dX4_root_5 : decode cX4_root 5 = .ok (.getfield 59, 3) := by decide +kernel
theorem dX4_root_8 : decode cX4_root 8 = .ok (.invokestatic 39, 3) := by decide +kernel
theorem dX4_root_11 : decode cX4_root 11 = .ok (.ifCond .ne 6, 3) := by decide +kernel
theorem dX4_root_14 : decode cX4_root 14 = .ok (.bipush (-2), 2) := by decide +kernel
theorem dX4_root_16 : decode cX4_root 16 = .ok (.ireturn, 1) := by decide +kernel
theorem dX4_root_17 : decode cX4_root 17 = .ok (.aload_n 0, 1) := by decide +kernel
theorem dX4_root_18 : decode cX4_root 18 = .ok (.getfield 27, 3) := by decide +kernel
theorem dX4_root_21 : decode cX4_root 21 = .ok (.iload_n 1, 1) := by decide +kernel
theorem dX4_root_22 : decode cX4_root 22 = .ok (.aload_n 0, 1) := by decide +kernel
theorem dX4_root_23 : decode cX4_root 23 = .ok (.getfield 20, 3) := by decide +kernel
theorem dX4_root_26 : decode cX4_root 26 = .ok (.aload_n 0, 1) := by decide +kernel
theorem dX4_root_27 : decode cX4_root 27 = .ok (.getfield 20, 3) := by decide +kernel
theorem dX4_root_30 : decode cX4_root 30 = .ok (.iconst (-1), 1) := by decide +kernel
theorem dX4_root_31 : decode cX4_root 31 = .ok (.invokevirtual 97, 3) := by decide +kernel
theorem dX4_root_34 : decode cX4_root 34 = .ok (.invokevirtual 112, 3) := by decide +kernel
theorem dX4_root_37 : decode cX4_root 37 = .ok (.invokevirtual 115, 3) := by decide +kernel
theorem dX4_root_40 : decode cX4_root 40 = .ok (.ireturn, 1) := by decide +kernel
theorem dX4_by_0 : decode cX4_by 0 = .ok (.iload_n 1, 1) := by decide +kernel
theorem dX4_by_1 : decode cX4_by 1 = .ok (.aload_n 0, 1) := by decide +kernel
theorem dX4_by_2 : decode cX4_by 2 = .ok (.getfield 20, 3) := by decide +kernel
theorem dX4_by_5 : decode cX4_by 5 = .ok (.getfield 79, 3) := by decide +kernel
theorem dX4_by_8 : decode cX4_by 8 = .ok (.invokestatic 39, 3) := by decide +kernel
theorem dX4_by_11 : decode cX4_by 11 = .ok (.ifCond .ne 6, 3) := by decide +kernel
theorem dX4_by_14 : decode cX4_by 14 = .ok (.bipush (-2), 2) := by decide +kernel
theorem dX4_by_16 : decode cX4_by 16 = .ok (.ireturn, 1) := by decide +kernel
theorem dX4_by_17 : decode cX4_by 17 = .ok (.aload_n 0, 1) := by decide +kernel
theorem dX4_by_18 : decode cX4_by 18 = .ok (.iload_n 1, 1) := by decide +kernel
theorem dX4_by_19 : decode cX4_by 19 = .ok (.invokevirtual 103, 3) := by decide +kernel
theorem dX4_by_22 : decode cX4_by 22 = .ok (.aload_n 0, 1) := by decide +kernel
theorem dX4_by_23 : decode cX4_by 23 = .ok (.iload_n 1, 1) := by decide +kernel
theorem dX4_by_24 : decode cX4_by 24 = .ok (.iconst 1, 1) := by decide +kernel
theorem dX4_by_25 : decode cX4_by 25 = .ok (.iadd, 1) := by decide +kernel
theorem dX4_by_26 : decode cX4_by 26 = .ok (.invokevirtual 103, 3) := by decide +kernel
theorem dX4_by_29 : decode cX4_by 29 = .ok (.ixor, 1) := by decide +kernel
theorem dX4_by_30 : decode cX4_by 30 = .ok (.ireturn, 1) := by decide +kernel
theorem dX4_without_0 : decode cX4_without 0 = .ok (.iload_n 1, 1) := by decide +kernel
theorem dX4_without_1 : decode cX4_without 1 = .ok (.aload_n 0, 1) := by decide +kernel
theorem dX4_without_2 : decode cX4_without 2 = .ok (.getfield 20, 3) := by decide +kernel
theorem dX4_without_5 : decode cX4_without 5 = .ok (.getfield 79, 3) := by decide +kernel
theorem dX4_without_8 : decode cX4_without 8 = .ok (.invokestatic 39, 3) := by decide +kernel
theorem dX4_without_11 : decode cX4_without 11 = .ok (.ifCond .eq 11, 3) := by decide +kernel
theorem dX4_without_14 : decode cX4_without 14 = .ok (.iload_n 2, 1) := by decide +kernel
theorem dX4_without_15 : decode cX4_without 15 = .ok (.iconst 2, 1) := by decide +kernel
theorem dX4_without_16 : decode cX4_without 16 = .ok (.invokestatic 39, 3) := by decide +kernel
theorem dX4_without_19 : decode cX4_without 19 = .ok (.ifCond .ne 6, 3) := by decide +kernel
theorem dX4_without_22 : decode cX4_without 22 = .ok (.bipush (-2), 2) := by decide +kernel
theorem dX4_without_24 : decode cX4_without 24 = .ok (.ireturn, 1) := by decide +kernel
theorem dX4_without_25 : decode cX4_without 25 = .ok (.aload_n 0, 1) := by decide +kernel
theorem dX4_without_26 : decode cX4_without 26 = .ok (.getfield 20, 3) := by decide +kernel
theorem dX4_without_29 : decode cX4_without 29 = .ok (.aload_n 0, 1) := by decide +kernel
theorem dX4_without_30 : decode cX4_without 30 = .ok (.getfield 20, 3) := by decide +kernel
theorem dX4_without_33 : decode cX4_without 33 = .ok (.iload_n 1, 1) := by decide +kernel
theorem dX4_without_34 : decode cX4_without 34 = .ok (.invokevirtual 97, 3) := by decide +kernel
theorem dX4_without_37 : decode cX4_without 37 = .ok (.invokevirtual 118, 3) := by decide +kernel
theorem dX4_without_40 : decode cX4_without 40 = .ok (.istore_n 3, 1) := by decide +kernel
theorem dX4_without_41 : decode cX4_without 41 = .ok (.iload_n 2, 1) := by decide +kernel
theorem dX4_without_42 : decode cX4_without 42 = .ok (.ifCond .ne 7, 3) := by decide +kernel
theorem dX4_without_45 : decode cX4_without 45 = .ok (.iload_n 3, 1) := by decide +kernel
theorem dX4_without_46 : decode cX4_without 46 = .ok (.goto 19, 3) := by decide +kernel
theorem dX4_without_49 : decode cX4_without 49 = .ok (.iload_n 3, 1) := by decide +kernel
theorem dX4_without_50 : decode cX4_without 50 = .ok (.aload_n 0, 1) := by decide +kernel
theorem dX4_without_51 : decode cX4_without 51 = .ok (.aload_n 0, 1) := by decide +kernel
theorem dX4_without_52 : decode cX4_without 52 = .ok (.getfield 20, 3) := by decide +kernel
theorem dX4_without_55 : decode cX4_without 55 = .ok (.getfield 79, 3) := by decide +kernel
theorem dX4_without_58 : decode cX4_without 58 = .ok (.invokevirtual 103, 3) := by decide +kernel
theorem dX4_without_61 : decode cX4_without 61 = .ok (.ixor, 1) := by decide +kernel
theorem dX4_without_62 : decode cX4_without 62 = .ok (.invokestatic 121, 3) := by decide +kernel
theorem dX4_without_65 : decode cX4_without 65 = .ok (.ireturn, 1) := by decide +kernel
theorem dX4_standingBehind_0 : decode cX4_standingBehind 0 = .ok (.aload_n 0, 1) := by decide +kernel
theorem dX4_standingBehind_1 : decode cX4_standingBehind 1 = .ok (.getfield 20, 3) := by decide +kernel
theorem dX4_standingBehind_4 : decode cX4_standingBehind 4 = .ok (.aload_n 0, 1) := by decide +kernel
theorem dX4_standingBehind_5 : decode cX4_standingBehind 5 = .ok (.getfield 20, 3) := by decide +kernel
theorem dX4_standingBehind_8 : decode cX4_standingBehind 8 = .ok (.iload_n 1, 1) := by decide +kernel
theorem dX4_standingBehind_9 : decode cX4_standingBehind 9 = .ok (.invokevirtual 106, 3) := by decide +kernel
theorem dX4_standingBehind_12 : decode cX4_standingBehind 12 = .ok (.invokevirtual 118, 3) := by decide +kernel
theorem dX4_standingBehind_15 : decode cX4_standingBehind 15 = .ok (.ireturn, 1) := by decide +kernel
theorem dX4_fewest_0 : decode cX4_fewest 0 = .ok (.iload_n 1, 1) := by decide +kernel
theorem dX4_fewest_1 : decode cX4_fewest 1 = .ok (.sipush 4096, 3) := by decide +kernel
theorem dX4_fewest_4 : decode cX4_fewest 4 = .ok (.invokestatic 39, 3) := by decide +kernel
theorem dX4_fewest_7 : decode cX4_fewest 7 = .ok (.ifCond .eq 19, 3) := by decide +kernel
theorem dX4_fewest_10 : decode cX4_fewest 10 = .ok (.iload_n 2, 1) := by decide +kernel
theorem dX4_fewest_11 : decode cX4_fewest 11 = .ok (.sipush 4096, 3) := by decide +kernel
theorem dX4_fewest_14 : decode cX4_fewest 14 = .ok (.invokestatic 39, 3) := by decide +kernel
theorem dX4_fewest_17 : decode cX4_fewest 17 = .ok (.ifCond .eq 9, 3) := by decide +kernel
theorem dX4_fewest_20 : decode cX4_fewest 20 = .ok (.iload_n 1, 1) := by decide +kernel
theorem dX4_fewest_21 : decode cX4_fewest 21 = .ok (.iload_n 2, 1) := by decide +kernel
theorem dX4_fewest_22 : decode cX4_fewest 22 = .ok (.iand, 1) := by decide +kernel
theorem dX4_fewest_23 : decode cX4_fewest 23 = .ok (.ifCond .eq 6, 3) := by decide +kernel
theorem dX4_fewest_26 : decode cX4_fewest 26 = .ok (.bipush (-2), 2) := by decide +kernel
theorem dX4_fewest_28 : decode cX4_fewest 28 = .ok (.ireturn, 1) := by decide +kernel
theorem dX4_fewest_29 : decode cX4_fewest 29 = .ok (.iload_n 3, 1) := by decide +kernel
theorem dX4_fewest_30 : decode cX4_fewest 30 = .ok (.iconst 3, 1) := by decide +kernel
theorem dX4_fewest_31 : decode cX4_fewest 31 = .ok (.invokestatic 39, 3) := by decide +kernel
theorem dX4_fewest_34 : decode cX4_fewest 34 = .ok (.ifCond .eq 12, 3) := by decide +kernel
theorem dX4_fewest_37 : decode cX4_fewest 37 = .ok (.iload 4, 2) := by decide +kernel
theorem dX4_fewest_39 : decode cX4_fewest 39 = .ok (.iconst 2, 1) := by decide +kernel
theorem dX4_fewest_40 : decode cX4_fewest 40 = .ok (.invokestatic 39, 3) := by decide +kernel
theorem dX4_fewest_43 : decode cX4_fewest 43 = .ok (.ifCond .ne 6, 3) := by decide +kernel
theorem dX4_fewest_46 : decode cX4_fewest 46 = .ok (.bipush (-2), 2) := by decide +kernel
theorem dX4_fewest_48 : decode cX4_fewest 48 = .ok (.ireturn, 1) := by decide +kernel
theorem dX4_fewest_49 : decode cX4_fewest 49 = .ok (.aload_n 0, 1) := by decide +kernel
theorem dX4_fewest_50 : decode cX4_fewest 50 = .ok (.getfield 12, 3) := by decide +kernel
theorem dX4_fewest_53 : decode cX4_fewest 53 = .ok (.invokevirtual 124, 3) := by decide +kernel
theorem dX4_fewest_56 : decode cX4_fewest 56 = .ok (.aload_n 0, 1) := by decide +kernel
theorem dX4_fewest_57 : decode cX4_fewest 57 = .ok (.getfield 12, 3) := by decide +kernel
theorem dX4_fewest_60 : decode cX4_fewest 60 = .ok (.aload_n 0, 1) := by decide +kernel
theorem dX4_fewest_61 : decode cX4_fewest 61 = .ok (.getfield 12, 3) := by decide +kernel
theorem dX4_fewest_64 : decode cX4_fewest 64 = .ok (.iconst (-1), 1) := by decide +kernel
theorem dX4_fewest_65 : decode cX4_fewest 65 = .ok (.iconst (-1), 1) := by decide +kernel
theorem dX4_fewest_66 : decode cX4_fewest 66 = .ok (.invokevirtual 127, 3) := by decide +kernel
theorem dX4_fewest_69 : decode cX4_fewest 69 = .ok (.iload_n 1, 1) := by decide +kernel
theorem dX4_fewest_70 : decode cX4_fewest 70 = .ok (.iload_n 2, 1) := by decide +kernel
theorem dX4_fewest_71 : decode cX4_fewest 71 = .ok (.invokevirtual 130, 3) := by decide +kernel
theorem dX4_fewest_74 : decode cX4_fewest 74 = .ok (.ifCond .eq 14, 3) := by decide +kernel
theorem dX4_fewest_77 : decode cX4_fewest 77 = .ok (.iload 4, 2) := by decide +kernel
theorem dX4_fewest_79 : decode cX4_fewest 79 = .ok (.ifCond .ne 7, 3) := by decide +kernel
theorem dX4_fewest_82 : decode cX4_fewest 82 = .ok (.iconst 0, 1) := by decide +kernel
theorem dX4_fewest_83 : decode cX4_fewest 83 = .ok (.goto 4, 3) := by decide +kernel
theorem dX4_fewest_86 : decode cX4_fewest 86 = .ok (.iconst (-1), 1) := by decide +kernel
theorem dX4_fewest_87 : decode cX4_fewest 87 = .ok (.ireturn, 1) := by decide +kernel
theorem dX4_fewest_88 : decode cX4_fewest 88 = .ok (.iconst 1, 1) := by decide +kernel
theorem dX4_fewest_89 : decode cX4_fewest 89 = .ok (.istore 5, 2) := by decide +kernel
theorem dX4_fewest_91 : decode cX4_fewest 91 = .ok (.iload 5, 2) := by decide +kernel
theorem dX4_fewest_93 : decode cX4_fewest 93 = .ok (.iload_n 3, 1) := by decide +kernel
theorem dX4_fewest_94 : decode cX4_fewest 94 = .ok (.if_icmp .gt 41, 3) := by decide +kernel
theorem dX4_fewest_97 : decode cX4_fewest 97 = .ok (.aload_n 0, 1) := by decide +kernel
theorem dX4_fewest_98 : decode cX4_fewest 98 = .ok (.getfield 12, 3) := by decide +kernel
theorem dX4_fewest_101 : decode cX4_fewest 101 = .ok (.iload_n 1, 1) := by decide +kernel
theorem dX4_fewest_102 : decode cX4_fewest 102 = .ok (.iload_n 2, 1) := by decide +kernel
theorem dX4_fewest_103 : decode cX4_fewest 103 = .ok (.iload 5, 2) := by decide +kernel
theorem dX4_fewest_105 : decode cX4_fewest 105 = .ok (.invokevirtual 134, 3) := by decide +kernel
theorem dX4_fewest_108 : decode cX4_fewest 108 = .ok (.istore 6, 2) := by decide +kernel
theorem dX4_fewest_110 : decode cX4_fewest 110 = .ok (.iload 6, 2) := by decide +kernel
theorem dX4_fewest_112 : decode cX4_fewest 112 = .ok (.iconst (-1), 1) := by decide +kernel
theorem dX4_fewest_113 : decode cX4_fewest 113 = .ok (.if_icmp .eq 16, 3) := by decide +kernel
theorem dX4_fewest_116 : decode cX4_fewest 116 = .ok (.iload 4, 2) := by decide +kernel
theorem dX4_fewest_118 : decode cX4_fewest 118 = .ok (.ifCond .ne 8, 3) := by decide +kernel
theorem dX4_fewest_121 : decode cX4_fewest 121 = .ok (.iload 5, 2) := by decide +kernel
theorem dX4_fewest_123 : decode cX4_fewest 123 = .ok (.goto 5, 3) := by decide +kernel
theorem dX4_fewest_126 : decode cX4_fewest 126 = .ok (.iload 6, 2) := by decide +kernel
theorem dX4_fewest_128 : decode cX4_fewest 128 = .ok (.ireturn, 1) := by decide +kernel
theorem dX4_fewest_129 : decode cX4_fewest 129 = .ok (.iinc 5 1, 3) := by decide +kernel
theorem dX4_fewest_132 : decode cX4_fewest 132 = .ok (.goto (-41), 3) := by decide +kernel
theorem dX4_fewest_135 : decode cX4_fewest 135 = .ok (.iconst (-1), 1) := by decide +kernel
theorem dX4_fewest_136 : decode cX4_fewest 136 = .ok (.ireturn, 1) := by decide +kernel
theorem dX4_safe_0 : decode cX4_safe 0 = .ok (.iload_n 1, 1) := by decide +kernel
theorem dX4_safe_1 : decode cX4_safe 1 = .ok (.iconst 3, 1) := by decide +kernel
theorem dX4_safe_2 : decode cX4_safe 2 = .ok (.invokestatic 39, 3) := by decide +kernel
theorem dX4_safe_5 : decode cX4_safe 5 = .ok (.ifCond .ne 6, 3) := by decide +kernel
theorem dX4_safe_8 : decode cX4_safe 8 = .ok (.bipush (-2), 2) := by decide +kernel
theorem dX4_safe_10 : decode cX4_safe 10 = .ok (.ireturn, 1) := by decide +kernel
theorem dX4_safe_11 : decode cX4_safe 11 = .ok (.aload_n 0, 1) := by decide +kernel
theorem dX4_safe_12 : decode cX4_safe 12 = .ok (.getfield 12, 3) := by decide +kernel
theorem dX4_safe_15 : decode cX4_safe 15 = .ok (.invokevirtual 124, 3) := by decide +kernel
theorem dX4_safe_18 : decode cX4_safe 18 = .ok (.aload_n 0, 1) := by decide +kernel
theorem dX4_safe_19 : decode cX4_safe 19 = .ok (.getfield 12, 3) := by decide +kernel
theorem dX4_safe_22 : decode cX4_safe 22 = .ok (.iload_n 1, 1) := by decide +kernel
theorem dX4_safe_23 : decode cX4_safe 23 = .ok (.invokevirtual 138, 3) := by decide +kernel
theorem dX4_safe_26 : decode cX4_safe 26 = .ok (.ireturn, 1) := by decide +kernel
theorem dX4_last_0 : decode cX4_last 0 = .ok (.iload_n 1, 1) := by decide +kernel
theorem dX4_last_1 : decode cX4_last 1 = .ok (.bipush 6, 2) := by decide +kernel
theorem dX4_last_3 : decode cX4_last 3 = .ok (.invokestatic 39, 3) := by decide +kernel
theorem dX4_last_6 : decode cX4_last 6 = .ok (.ifCond .eq 25, 3) := by decide +kernel
theorem dX4_last_9 : decode cX4_last 9 = .ok (.iload_n 2, 1) := by decide +kernel
theorem dX4_last_10 : decode cX4_last 10 = .ok (.bipush 6, 2) := by decide +kernel
theorem dX4_last_12 : decode cX4_last 12 = .ok (.invokestatic 39, 3) := by decide +kernel
theorem dX4_last_15 : decode cX4_last 15 = .ok (.ifCond .eq 16, 3) := by decide +kernel
theorem dX4_last_18 : decode cX4_last 18 = .ok (.iload_n 1, 1) := by decide +kernel
theorem dX4_last_19 : decode cX4_last 19 = .ok (.iload_n 2, 1) := by decide +kernel
theorem dX4_last_20 : decode cX4_last 20 = .ok (.if_icmp .eq 11, 3) := by decide +kernel
theorem dX4_last_23 : decode cX4_last 23 = .ok (.iload_n 3, 1) := by decide +kernel
theorem dX4_last_24 : decode cX4_last 24 = .ok (.iconst 4, 1) := by decide +kernel
theorem dX4_last_25 : decode cX4_last 25 = .ok (.invokestatic 39, 3) := by decide +kernel
theorem dX4_last_28 : decode cX4_last 28 = .ok (.ifCond .ne 7, 3) := by decide +kernel
theorem dX4_last_31 : decode cX4_last 31 = .ok (.sipush (-1002), 3) := by decide +kernel
theorem dX4_last_34 : decode cX4_last 34 = .ok (.ireturn, 1) := by decide +kernel
theorem dX4_last_35 : decode cX4_last 35 = .ok (.aload_n 0, 1) := by decide +kernel
theorem dX4_last_36 : decode cX4_last 36 = .ok (.getfield 12, 3) := by decide +kernel
theorem dX4_last_39 : decode cX4_last 39 = .ok (.invokevirtual 124, 3) := by decide +kernel
theorem dX4_last_42 : decode cX4_last 42 = .ok (.aload_n 0, 1) := by decide +kernel
theorem dX4_last_43 : decode cX4_last 43 = .ok (.getfield 12, 3) := by decide +kernel
theorem dX4_last_46 : decode cX4_last 46 = .ok (.iload_n 1, 1) := by decide +kernel
theorem dX4_last_47 : decode cX4_last 47 = .ok (.iload_n 2, 1) := by decide +kernel
theorem dX4_last_48 : decode cX4_last 48 = .ok (.invokevirtual 141, 3) := by decide +kernel
theorem dX4_last_51 : decode cX4_last 51 = .ok (.istore 4, 2) := by decide +kernel
theorem dX4_last_53 : decode cX4_last 53 = .ok (.aload_n 0, 1) := by decide +kernel
theorem dX4_last_54 : decode cX4_last 54 = .ok (.getfield 12, 3) := by decide +kernel
theorem dX4_last_57 : decode cX4_last 57 = .ok (.iload_n 2, 1) := by decide +kernel
theorem dX4_last_58 : decode cX4_last 58 = .ok (.iload 4, 2) := by decide +kernel
theorem dX4_last_60 : decode cX4_last 60 = .ok (.invokevirtual 144, 3) := by decide +kernel
theorem dX4_last_63 : decode cX4_last 63 = .ok (.istore 5, 2) := by decide +kernel
theorem dX4_last_65 : decode cX4_last 65 = .ok (.iload_n 3, 1) := by decide +kernel
theorem dX4_last_66 : decode cX4_last 66 = .ok (.iconst 2, 1) := by decide +kernel
theorem dX4_last_67 : decode cX4_last 67 = .ok (.if_icmp .lt 16, 3) := by decide +kernel
theorem dX4_last_70 : decode cX4_last 70 = .ok (.iload_n 3, 1) := by decide +kernel
theorem dX4_last_71 : decode cX4_last 71 = .ok (.iconst 2, 1) := by decide +kernel
theorem dX4_last_72 : decode cX4_last 72 = .ok (.if_icmp .ne 8, 3) := by decide +kernel
theorem dX4_last_75 : decode cX4_last 75 = .ok (.iload 4, 2) := by decide +kernel
theorem dX4_last_77 : decode cX4_last 77 = .ok (.goto 5, 3) := by decide +kernel
theorem dX4_last_80 : decode cX4_last 80 = .ok (.iload 5, 2) := by decide +kernel
theorem dX4_last_82 : decode cX4_last 82 = .ok (.ireturn, 1) := by decide +kernel
theorem dX4_last_83 : decode cX4_last 83 = .ok (.aload_n 0, 1) := by decide +kernel
theorem dX4_last_84 : decode cX4_last 84 = .ok (.getfield 12, 3) := by decide +kernel
theorem dX4_last_87 : decode cX4_last 87 = .ok (.aload_n 0, 1) := by decide +kernel
theorem dX4_last_88 : decode cX4_last 88 = .ok (.getfield 12, 3) := by decide +kernel
theorem dX4_last_91 : decode cX4_last 91 = .ok (.iload 4, 2) := by decide +kernel
theorem dX4_last_93 : decode cX4_last 93 = .ok (.iload 5, 2) := by decide +kernel
theorem dX4_last_95 : decode cX4_last 95 = .ok (.invokevirtual 127, 3) := by decide +kernel
theorem dX4_last_98 : decode cX4_last 98 = .ok (.iload_n 3, 1) := by decide +kernel
theorem dX4_last_99 : decode cX4_last 99 = .ok (.ifCond .ne 7, 3) := by decide +kernel
theorem dX4_last_102 : decode cX4_last 102 = .ok (.iload_n 1, 1) := by decide +kernel
theorem dX4_last_103 : decode cX4_last 103 = .ok (.goto 4, 3) := by decide +kernel
theorem dX4_last_106 : decode cX4_last 106 = .ok (.iload_n 2, 1) := by decide +kernel
theorem dX4_last_107 : decode cX4_last 107 = .ok (.invokevirtual 147, 3) := by decide +kernel
theorem dX4_last_110 : decode cX4_last 110 = .ok (.ireturn, 1) := by decide +kernel
theorem dX4_seen_0 : decode cX4_seen 0 = .ok (.iload_n 1, 1) := by decide +kernel
theorem dX4_seen_1 : decode cX4_seen 1 = .ok (.bipush 12, 2) := by decide +kernel
theorem dX4_seen_3 : decode cX4_seen 3 = .ok (.invokestatic 39, 3) := by decide +kernel
theorem dX4_seen_6 : decode cX4_seen 6 = .ok (.ifCond .eq 11, 3) := by decide +kernel
theorem dX4_seen_9 : decode cX4_seen 9 = .ok (.iload_n 2, 1) := by decide +kernel
theorem dX4_seen_10 : decode cX4_seen 10 = .ok (.iconst 2, 1) := by decide +kernel
theorem dX4_seen_11 : decode cX4_seen 11 = .ok (.invokestatic 39, 3) := by decide +kernel
theorem dX4_seen_14 : decode cX4_seen 14 = .ok (.ifCond .ne 6, 3) := by decide +kernel
theorem dX4_seen_17 : decode cX4_seen 17 = .ok (.bipush (-2), 2) := by decide +kernel
theorem dX4_seen_19 : decode cX4_seen 19 = .ok (.ireturn, 1) := by decide +kernel
theorem dX4_seen_20 : decode cX4_seen 20 = .ok (.aload_n 0, 1) := by decide +kernel
theorem dX4_seen_21 : decode cX4_seen 21 = .ok (.getfield 150, 3) := by decide +kernel
theorem dX4_seen_24 : decode cX4_seen 24 = .ok (.bipush 8, 2) := by decide +kernel
theorem dX4_seen_26 : decode cX4_seen 26 = .ok (.if_icmp .lt 6, 3) := by decide +kernel
theorem dX4_seen_29 : decode cX4_seen 29 = .ok (.bipush (-4), 2) := by decide +kernel
theorem dX4_seen_31 : decode cX4_seen 31 = .ok (.ireturn, 1) := by decide +kernel
theorem dX4_seen_32 : decode cX4_seen 32 = .ok (.iload_n 2, 1) := by decide +kernel
theorem dX4_seen_33 : decode cX4_seen 33 = .ok (.iconst 1, 1) := by decide +kernel
theorem dX4_seen_34 : decode cX4_seen 34 = .ok (.if_icmp .ne 18, 3) := by decide +kernel
theorem dX4_seen_37 : decode cX4_seen 37 = .ok (.aload_n 0, 1) := by decide +kernel
theorem dX4_seen_38 : decode cX4_seen 38 = .ok (.dup, 1) := by decide +kernel
theorem dX4_seen_39 : decode cX4_seen 39 = .ok (.getfield 153, 3) := by decide +kernel
theorem dX4_seen_42 : decode cX4_seen 42 = .ok (.iconst 1, 1) := by decide +kernel
theorem dX4_seen_43 : decode cX4_seen 43 = .ok (.iload_n 1, 1) := by decide +kernel
theorem dX4_seen_44 : decode cX4_seen 44 = .ok (.ishl, 1) := by decide +kernel
theorem dX4_seen_45 : decode cX4_seen 45 = .ok (.ior, 1) := by decide +kernel
theorem dX4_seen_46 : decode cX4_seen 46 = .ok (.putfield 153, 3) := by decide +kernel
theorem dX4_seen_49 : decode cX4_seen 49 = .ok (.goto 15, 3) := by decide +kernel
theorem dX4_seen_52 : decode cX4_seen 52 = .ok (.aload_n 0, 1) := by decide +kernel
theorem dX4_seen_53 : decode cX4_seen 53 = .ok (.dup, 1) := by decide +kernel
theorem dX4_seen_54 : decode cX4_seen 54 = .ok (.getfield 156, 3) := by decide +kernel
theorem dX4_seen_57 : decode cX4_seen 57 = .ok (.iconst 1, 1) := by decide +kernel
theorem dX4_seen_58 : decode cX4_seen 58 = .ok (.iload_n 1, 1) := by decide +kernel
theorem dX4_seen_59 : decode cX4_seen 59 = .ok (.ishl, 1) := by decide +kernel
theorem dX4_seen_60 : decode cX4_seen 60 = .ok (.ior, 1) := by decide +kernel
theorem dX4_seen_61 : decode cX4_seen 61 = .ok (.putfield 156, 3) := by decide +kernel
theorem dX4_seen_64 : decode cX4_seen 64 = .ok (.aload_n 0, 1) := by decide +kernel
theorem dX4_seen_65 : decode cX4_seen 65 = .ok (.dup, 1) := by decide +kernel
theorem dX4_seen_66 : decode cX4_seen 66 = .ok (.getfield 150, 3) := by decide +kernel
theorem dX4_seen_69 : decode cX4_seen 69 = .ok (.iconst 1, 1) := by decide +kernel
theorem dX4_seen_70 : decode cX4_seen 70 = .ok (.iadd, 1) := by decide +kernel
theorem dX4_seen_71 : decode cX4_seen 71 = .ok (.putfield 150, 3) := by decide +kernel
theorem dX4_seen_74 : decode cX4_seen 74 = .ok (.aload_n 0, 1) := by decide +kernel
theorem dX4_seen_75 : decode cX4_seen 75 = .ok (.getfield 150, 3) := by decide +kernel
theorem dX4_seen_78 : decode cX4_seen 78 = .ok (.ireturn, 1) := by decide +kernel
theorem dX4_forget_0 : decode cX4_forget 0 = .ok (.aload_n 0, 1) := by decide +kernel
theorem dX4_forget_1 : decode cX4_forget 1 = .ok (.getfield 150, 3) := by decide +kernel
theorem dX4_forget_4 : decode cX4_forget 4 = .ok (.istore_n 1, 1) := by decide +kernel
theorem dX4_forget_5 : decode cX4_forget 5 = .ok (.aload_n 0, 1) := by decide +kernel
theorem dX4_forget_6 : decode cX4_forget 6 = .ok (.iconst 0, 1) := by decide +kernel
theorem dX4_forget_7 : decode cX4_forget 7 = .ok (.putfield 150, 3) := by decide +kernel
theorem dX4_forget_10 : decode cX4_forget 10 = .ok (.aload_n 0, 1) := by decide +kernel
theorem dX4_forget_11 : decode cX4_forget 11 = .ok (.iconst 0, 1) := by decide +kernel
theorem dX4_forget_12 : decode cX4_forget 12 = .ok (.putfield 153, 3) := by decide +kernel
theorem dX4_forget_15 : decode cX4_forget 15 = .ok (.aload_n 0, 1) := by decide +kernel
theorem dX4_forget_16 : decode cX4_forget 16 = .ok (.iconst 0, 1) := by decide +kernel
theorem dX4_forget_17 : decode cX4_forget 17 = .ok (.putfield 156, 3) := by decide +kernel
theorem dX4_forget_20 : decode cX4_forget 20 = .ok (.iload_n 1, 1) := by decide +kernel
theorem dX4_forget_21 : decode cX4_forget 21 = .ok (.ireturn, 1) := by decide +kernel
theorem dX4_often_0 : decode cX4_often 0 = .ok (.iconst 0, 1) := by decide +kernel
theorem dX4_often_1 : decode cX4_often 1 = .ok (.istore_n 1, 1) := by decide +kernel
theorem dX4_often_2 : decode cX4_often 2 = .ok (.iconst 0, 1) := by decide +kernel
theorem dX4_often_3 : decode cX4_often 3 = .ok (.istore_n 2, 1) := by decide +kernel
theorem dX4_often_4 : decode cX4_often 4 = .ok (.iload_n 2, 1) := by decide +kernel
theorem dX4_often_5 : decode cX4_often 5 = .ok (.aload_n 0, 1) := by decide +kernel
theorem dX4_often_6 : decode cX4_often 6 = .ok (.getfield 20, 3) := by decide +kernel
theorem dX4_often_9 : decode cX4_often 9 = .ok (.getfield 79, 3) := by decide +kernel
theorem dX4_often_12 : decode cX4_often 12 = .ok (.if_icmp .gt 43, 3) := by decide +kernel
theorem dX4_often_15 : decode cX4_often 15 = .ok (.aload_n 0, 1) := by decide +kernel
theorem dX4_often_16 : decode cX4_often 16 = .ok (.iload_n 2, 1) := by decide +kernel
theorem dX4_often_17 : decode cX4_often 17 = .ok (.invokevirtual 103, 3) := by decide +kernel
theorem dX4_often_20 : decode cX4_often 20 = .ok (.istore_n 3, 1) := by decide +kernel
theorem dX4_often_21 : decode cX4_often 21 = .ok (.iload_n 3, 1) := by decide +kernel
theorem dX4_often_22 : decode cX4_often 22 = .ok (.aload_n 0, 1) := by decide +kernel
theorem dX4_often_23 : decode cX4_often 23 = .ok (.getfield 153, 3) := by decide +kernel
theorem dX4_often_26 : decode cX4_often 26 = .ok (.iand, 1) := by decide +kernel
theorem dX4_often_27 : decode cX4_often 27 = .ok (.aload_n 0, 1) := by decide +kernel
theorem dX4_often_28 : decode cX4_often 28 = .ok (.getfield 153, 3) := by decide +kernel
theorem dX4_often_31 : decode cX4_often 31 = .ok (.if_icmp .ne 18, 3) := by decide +kernel
theorem dX4_often_34 : decode cX4_often 34 = .ok (.iload_n 3, 1) := by decide +kernel
theorem dX4_often_35 : decode cX4_often 35 = .ok (.aload_n 0, 1) := by decide +kernel
theorem dX4_often_36 : decode cX4_often 36 = .ok (.getfield 156, 3) := by decide +kernel
theorem dX4_often_39 : decode cX4_often 39 = .ok (.iand, 1) := by decide +kernel
theorem dX4_often_40 : decode cX4_often 40 = .ok (.ifCond .ne 9, 3) := by decide +kernel
theorem dX4_often_43 : decode cX4_often 43 = .ok (.iload_n 1, 1) := by decide +kernel
theorem dX4_often_44 : decode cX4_often 44 = .ok (.iconst 1, 1) := by decide +kernel
theorem dX4_often_45 : decode cX4_often 45 = .ok (.iload_n 2, 1) := by decide +kernel
theorem dX4_often_46 : decode cX4_often 46 = .ok (.ishl, 1) := by decide +kernel
theorem dX4_often_47 : decode cX4_often 47 = .ok (.ior, 1) := by decide +kernel
theorem dX4_often_48 : decode cX4_often 48 = .ok (.istore_n 1, 1) := by decide +kernel
theorem dX4_often_49 : decode cX4_often 49 = .ok (.iinc 2 1, 3) := by decide +kernel
theorem dX4_often_52 : decode cX4_often 52 = .ok (.goto (-48), 3) := by decide +kernel
theorem dX4_often_55 : decode cX4_often 55 = .ok (.iload_n 1, 1) := by decide +kernel
theorem dX4_often_56 : decode cX4_often 56 = .ok (.ireturn, 1) := by decide +kernel
theorem dX4_drawn_0 : decode cX4_drawn 0 = .ok (.iload_n 2, 1) := by decide +kernel
theorem dX4_drawn_1 : decode cX4_drawn 1 = .ok (.bipush 7, 2) := by decide +kernel
theorem dX4_drawn_3 : decode cX4_drawn 3 = .ok (.invokestatic 39, 3) := by decide +kernel
theorem dX4_drawn_6 : decode cX4_drawn 6 = .ok (.ifCond .eq 11, 3) := by decide +kernel
theorem dX4_drawn_9 : decode cX4_drawn 9 = .ok (.iload_n 3, 1) := by decide +kernel
theorem dX4_drawn_10 : decode cX4_drawn 10 = .ok (.iconst 2, 1) := by decide +kernel
theorem dX4_drawn_11 : decode cX4_drawn 11 = .ok (.invokestatic 39, 3) := by decide +kernel
theorem dX4_drawn_14 : decode cX4_drawn 14 = .ok (.ifCond .ne 6, 3) := by decide +kernel
theorem dX4_drawn_17 : decode cX4_drawn 17 = .ok (.bipush (-2), 2) := by decide +kernel
theorem dX4_drawn_19 : decode cX4_drawn 19 = .ok (.ireturn, 1) := by decide +kernel
theorem dX4_drawn_20 : decode cX4_drawn 20 = .ok (.aload_n 0, 1) := by decide +kernel
theorem dX4_drawn_21 : decode cX4_drawn 21 = .ok (.getfield 12, 3) := by decide +kernel
theorem dX4_drawn_24 : decode cX4_drawn 24 = .ok (.invokevirtual 124, 3) := by decide +kernel
theorem dX4_drawn_27 : decode cX4_drawn 27 = .ok (.aload_n 0, 1) := by decide +kernel
theorem dX4_drawn_28 : decode cX4_drawn 28 = .ok (.getfield 12, 3) := by decide +kernel
theorem dX4_drawn_31 : decode cX4_drawn 31 = .ok (.iload_n 1, 1) := by decide +kernel
theorem dX4_drawn_32 : decode cX4_drawn 32 = .ok (.iload_n 2, 1) := by decide +kernel
theorem dX4_drawn_33 : decode cX4_drawn 33 = .ok (.invokevirtual 159, 3) := by decide +kernel
theorem dX4_drawn_36 : decode cX4_drawn 36 = .ok (.iload_n 3, 1) := by decide +kernel
theorem dX4_drawn_37 : decode cX4_drawn 37 = .ok (.ifCond .ne 20, 3) := by decide +kernel
theorem dX4_drawn_40 : decode cX4_drawn 40 = .ok (.aload_n 0, 1) := by decide +kernel
theorem dX4_drawn_41 : decode cX4_drawn 41 = .ok (.getfield 27, 3) := by decide +kernel
theorem dX4_drawn_44 : decode cX4_drawn 44 = .ok (.aload_n 0, 1) := by decide +kernel
theorem dX4_drawn_45 : decode cX4_drawn 45 = .ok (.getfield 12, 3) := by decide +kernel
theorem dX4_drawn_48 : decode cX4_drawn 48 = .ok (.getfield 163, 3) := by decide +kernel
theorem dX4_drawn_51 : decode cX4_drawn 51 = .ok (.invokevirtual 166, 3) := by decide +kernel
theorem dX4_drawn_54 : decode cX4_drawn 54 = .ok (.goto 10, 3) := by decide +kernel
theorem dX4_drawn_57 : decode cX4_drawn 57 = .ok (.aload_n 0, 1) := by decide +kernel
theorem dX4_drawn_58 : decode cX4_drawn 58 = .ok (.getfield 12, 3) := by decide +kernel
theorem dX4_drawn_61 : decode cX4_drawn 61 = .ok (.getfield 167, 3) := by decide +kernel
theorem dX4_drawn_64 : decode cX4_drawn 64 = .ok (.ireturn, 1) := by decide +kernel
theorem dX4_sheet_0 : decode cX4_sheet 0 = .ok (.iload_n 1, 1) := by decide +kernel
theorem dX4_sheet_1 : decode cX4_sheet 1 = .ok (.iconst 4, 1) := by decide +kernel
theorem dX4_sheet_2 : decode cX4_sheet 2 = .ok (.invokestatic 39, 3) := by decide +kernel
theorem dX4_sheet_5 : decode cX4_sheet 5 = .ok (.ifCond .eq 17, 3) := by decide +kernel
theorem dX4_sheet_8 : decode cX4_sheet 8 = .ok (.iload_n 2, 1) := by decide +kernel
theorem dX4_sheet_9 : decode cX4_sheet 9 = .ok (.iconst 3, 1) := by decide +kernel
theorem dX4_sheet_10 : decode cX4_sheet 10 = .ok (.invokestatic 39, 3) := by decide +kernel
theorem dX4_sheet_13 : decode cX4_sheet 13 = .ok (.ifCond .eq 9, 3) := by decide +kernel
theorem dX4_sheet_16 : decode cX4_sheet 16 = .ok (.iload_n 3, 1) := by decide +kernel
theorem dX4_sheet_17 : decode cX4_sheet 17 = .ok (.bipush 60, 2) := by decide +kernel
theorem dX4_sheet_19 : decode cX4_sheet 19 = .ok (.if_icmp .le 6, 3) := by decide +kernel
theorem dX4_sheet_22 : decode cX4_sheet 22 = .ok (.bipush (-2), 2) := by decide +kernel
theorem dX4_sheet_24 : decode cX4_sheet 24 = .ok (.ireturn, 1) := by decide +kernel
theorem dX4_sheet_25 : decode cX4_sheet 25 = .ok (.iload_n 3, 1) := by decide +kernel
theorem dX4_sheet_26 : decode cX4_sheet 26 = .ok (.ifCond .ge 9, 3) := by decide +kernel
theorem dX4_sheet_29 : decode cX4_sheet 29 = .ok (.aload_n 0, 1) := by decide +kernel
theorem dX4_sheet_30 : decode cX4_sheet 30 = .ok (.iconst 5, 1) := by decide +kernel
theorem dX4_sheet_31 : decode cX4_sheet 31 = .ok (.invokevirtual 84, 3) := by decide +kernel
theorem dX4_sheet_34 : decode cX4_sheet 34 = .ok (.ireturn, 1) := by decide +kernel
theorem dX4_sheet_35 : decode cX4_sheet 35 = .ok (.aload_n 0, 1) := by decide +kernel
theorem dX4_sheet_36 : decode cX4_sheet 36 = .ok (.getfield 30, 3) := by decide +kernel
theorem dX4_sheet_39 : decode cX4_sheet 39 = .ok (.iload_n 1, 1) := by decide +kernel
theorem dX4_sheet_40 : decode cX4_sheet 40 = .ok (.aaload, 1) := by decide +kernel
theorem dX4_sheet_41 : decode cX4_sheet 41 = .ok (.iload_n 2, 1) := by decide +kernel
theorem dX4_sheet_42 : decode cX4_sheet 42 = .ok (.iload_n 3, 1) := by decide +kernel
theorem dX4_sheet_43 : decode cX4_sheet 43 = .ok (.invokevirtual 170, 3) := by decide +kernel
theorem dX4_sheet_46 : decode cX4_sheet 46 = .ok (.iload_n 3, 1) := by decide +kernel
theorem dX4_sheet_47 : decode cX4_sheet 47 = .ok (.ireturn, 1) := by decide +kernel
theorem dX4_lose_0 : decode cX4_lose 0 = .ok (.iload_n 1, 1) := by decide +kernel
theorem dX4_lose_1 : decode cX4_lose 1 = .ok (.iconst 4, 1) := by decide +kernel
theorem dX4_lose_2 : decode cX4_lose 2 = .ok (.invokestatic 39, 3) := by decide +kernel
theorem dX4_lose_5 : decode cX4_lose 5 = .ok (.ifCond .ne 6, 3) := by decide +kernel
theorem dX4_lose_8 : decode cX4_lose 8 = .ok (.bipush (-2), 2) := by decide +kernel
theorem dX4_lose_10 : decode cX4_lose 10 = .ok (.ireturn, 1) := by decide +kernel
theorem dX4_lose_11 : decode cX4_lose 11 = .ok (.aload_n 0, 1) := by decide +kernel
theorem dX4_lose_12 : decode cX4_lose 12 = .ok (.getfield 30, 3) := by decide +kernel
theorem dX4_lose_15 : decode cX4_lose 15 = .ok (.iload_n 1, 1) := by decide +kernel
theorem dX4_lose_16 : decode cX4_lose 16 = .ok (.aaload, 1) := by decide +kernel
theorem dX4_lose_17 : decode cX4_lose 17 = .ok (.astore_n 2, 1) := by decide +kernel
theorem dX4_lose_18 : decode cX4_lose 18 = .ok (.aload_n 2, 1) := by decide +kernel
theorem dX4_lose_19 : decode cX4_lose 19 = .ok (.getfield 80, 3) := by decide +kernel
theorem dX4_lose_22 : decode cX4_lose 22 = .ok (.ifCond .eq 9, 3) := by decide +kernel
theorem dX4_lose_25 : decode cX4_lose 25 = .ok (.aload_n 0, 1) := by decide +kernel
theorem dX4_lose_26 : decode cX4_lose 26 = .ok (.iconst 1, 1) := by decide +kernel
theorem dX4_lose_27 : decode cX4_lose 27 = .ok (.invokevirtual 84, 3) := by decide +kernel
theorem dX4_lose_30 : decode cX4_lose 30 = .ok (.ireturn, 1) := by decide +kernel
theorem dX4_lose_31 : decode cX4_lose 31 = .ok (.aload_n 2, 1) := by decide +kernel
theorem dX4_lose_32 : decode cX4_lose 32 = .ok (.iconst 1, 1) := by decide +kernel
theorem dX4_lose_33 : decode cX4_lose 33 = .ok (.putfield 80, 3) := by decide +kernel
theorem dX4_lose_36 : decode cX4_lose 36 = .ok (.aload_n 2, 1) := by decide +kernel
theorem dX4_lose_37 : decode cX4_lose 37 = .ok (.getfield 87, 3) := by decide +kernel
theorem dX4_lose_40 : decode cX4_lose 40 = .ok (.ireturn, 1) := by decide +kernel
theorem dX4_lay_0 : decode cX4_lay 0 = .ok (.iload_n 1, 1) := by decide +kernel
theorem dX4_lay_1 : decode cX4_lay 1 = .ok (.iconst 4, 1) := by decide +kernel
theorem dX4_lay_2 : decode cX4_lay 2 = .ok (.invokestatic 39, 3) := by decide +kernel
theorem dX4_lay_5 : decode cX4_lay 5 = .ok (.ifCond .eq 11, 3) := by decide +kernel
theorem dX4_lay_8 : decode cX4_lay 8 = .ok (.iload_n 2, 1) := by decide +kernel
theorem dX4_lay_9 : decode cX4_lay 9 = .ok (.iconst 3, 1) := by decide +kernel
theorem dX4_lay_10 : decode cX4_lay 10 = .ok (.invokestatic 39, 3) := by decide +kernel
theorem dX4_lay_13 : decode cX4_lay 13 = .ok (.ifCond .ne 6, 3) := by decide +kernel
theorem dX4_lay_16 : decode cX4_lay 16 = .ok (.bipush (-2), 2) := by decide +kernel
theorem dX4_lay_18 : decode cX4_lay 18 = .ok (.ireturn, 1) := by decide +kernel
theorem dX4_lay_19 : decode cX4_lay 19 = .ok (.aload_n 0, 1) := by decide +kernel
theorem dX4_lay_20 : decode cX4_lay 20 = .ok (.getfield 30, 3) := by decide +kernel
theorem dX4_lay_23 : decode cX4_lay 23 = .ok (.iload_n 1, 1) := by decide +kernel
theorem dX4_lay_24 : decode cX4_lay 24 = .ok (.aaload, 1) := by decide +kernel
theorem dX4_lay_25 : decode cX4_lay 25 = .ok (.iload_n 2, 1) := by decide +kernel
theorem dX4_lay_26 : decode cX4_lay 26 = .ok (.iload_n 3, 1) := by decide +kernel
theorem dX4_lay_27 : decode cX4_lay 27 = .ok (.invokevirtual 173, 3) := by decide +kernel
theorem dX4_lay_30 : decode cX4_lay 30 = .ok (.istore 5, 2) := by decide +kernel
theorem dX4_lay_32 : decode cX4_lay 32 = .ok (.iload 5, 2) := by decide +kernel
theorem dX4_lay_34 : decode cX4_lay 34 = .ok (.ifCond .eq 10, 3) := by decide +kernel
theorem dX4_lay_37 : decode cX4_lay 37 = .ok (.aload_n 0, 1) := by decide +kernel
theorem dX4_lay_38 : decode cX4_lay 38 = .ok (.iload 5, 2) := by decide +kernel
theorem dX4_lay_40 : decode cX4_lay 40 = .ok (.invokevirtual 84, 3) := by decide +kernel
theorem dX4_lay_43 : decode cX4_lay 43 = .ok (.ireturn, 1) := by decide +kernel
theorem dX4_lay_44 : decode cX4_lay 44 = .ok (.aload_n 0, 1) := by decide +kernel
theorem dX4_lay_45 : decode cX4_lay 45 = .ok (.getfield 30, 3) := by decide +kernel
theorem dX4_lay_48 : decode cX4_lay 48 = .ok (.iload_n 1, 1) := by decide +kernel
theorem dX4_lay_49 : decode cX4_lay 49 = .ok (.aaload, 1) := by decide +kernel
theorem dX4_lay_50 : decode cX4_lay 50 = .ok (.iload_n 3, 1) := by decide +kernel
theorem dX4_lay_51 : decode cX4_lay 51 = .ok (.iload 4, 2) := by decide +kernel
theorem dX4_lay_53 : decode cX4_lay 53 = .ok (.invokevirtual 176, 3) := by decide +kernel
theorem dX4_lay_56 : decode cX4_lay 56 = .ok (.iconst 1, 1) := by decide +kernel
theorem dX4_lay_57 : decode cX4_lay 57 = .ok (.ireturn, 1) := by decide +kernel
theorem dX4_get_0 : decode cX4_get 0 = .ok (.iload_n 1, 1) := by decide +kernel
theorem dX4_get_1 : decode cX4_get 1 = .ok (.iconst 4, 1) := by decide +kernel
theorem dX4_get_2 : decode cX4_get 2 = .ok (.invokestatic 39, 3) := by decide +kernel
theorem dX4_get_5 : decode cX4_get 5 = .ok (.ifCond .eq 11, 3) := by decide +kernel
theorem dX4_get_8 : decode cX4_get 8 = .ok (.iload_n 2, 1) := by decide +kernel
theorem dX4_get_9 : decode cX4_get 9 = .ok (.iconst 3, 1) := by decide +kernel
theorem dX4_get_10 : decode cX4_get 10 = .ok (.invokestatic 39, 3) := by decide +kernel
theorem dX4_get_13 : decode cX4_get 13 = .ok (.ifCond .ne 6, 3) := by decide +kernel
theorem dX4_get_16 : decode cX4_get 16 = .ok (.ldc 179, 2) := by decide +kernel
theorem dX4_get_18 : decode cX4_get 18 = .ok (.ireturn, 1) := by decide +kernel
theorem dX4_get_19 : decode cX4_get 19 = .ok (.aload_n 0, 1) := by decide +kernel
theorem dX4_get_20 : decode cX4_get 20 = .ok (.getfield 30, 3) := by decide +kernel
theorem dX4_get_23 : decode cX4_get 23 = .ok (.iload_n 1, 1) := by decide +kernel
theorem dX4_get_24 : decode cX4_get 24 = .ok (.aaload, 1) := by decide +kernel
theorem dX4_get_25 : decode cX4_get 25 = .ok (.iload_n 2, 1) := by decide +kernel
theorem dX4_get_26 : decode cX4_get 26 = .ok (.iload_n 3, 1) := by decide +kernel
theorem dX4_get_27 : decode cX4_get 27 = .ok (.invokevirtual 173, 3) := by decide +kernel
theorem dX4_get_30 : decode cX4_get 30 = .ok (.istore 4, 2) := by decide +kernel
theorem dX4_get_32 : decode cX4_get 32 = .ok (.iload 4, 2) := by decide +kernel
theorem dX4_get_34 : decode cX4_get 34 = .ok (.ifCond .eq 12, 3) := by decide +kernel
theorem dX4_get_37 : decode cX4_get 37 = .ok (.aload_n 0, 1) := by decide +kernel
theorem dX4_get_38 : decode cX4_get 38 = .ok (.iload 4, 2) := by decide +kernel
theorem dX4_get_40 : decode cX4_get 40 = .ok (.putfield 34, 3) := by decide +kernel
theorem dX4_get_43 : decode cX4_get 43 = .ok (.ldc 179, 2) := by decide +kernel
theorem dX4_get_45 : decode cX4_get 45 = .ok (.ireturn, 1) := by decide +kernel
theorem dX4_get_46 : decode cX4_get 46 = .ok (.aload_n 0, 1) := by decide +kernel
theorem dX4_get_47 : decode cX4_get 47 = .ok (.getfield 30, 3) := by decide +kernel
theorem dX4_get_50 : decode cX4_get 50 = .ok (.iload_n 1, 1) := by decide +kernel
theorem dX4_get_51 : decode cX4_get 51 = .ok (.aaload, 1) := by decide +kernel
theorem dX4_get_52 : decode cX4_get 52 = .ok (.getfield 90, 3) := by decide +kernel
theorem dX4_get_55 : decode cX4_get 55 = .ok (.iload_n 3, 1) := by decide +kernel
theorem dX4_get_56 : decode cX4_get 56 = .ok (.iaload, 1) := by decide +kernel
theorem dX4_get_57 : decode cX4_get 57 = .ok (.ireturn, 1) := by decide +kernel
theorem dX4_copy_0 : decode cX4_copy 0 = .ok (.iload_n 1, 1) := by decide +kernel
theorem dX4_copy_1 : decode cX4_copy 1 = .ok (.iconst 4, 1) := by decide +kernel
theorem dX4_copy_2 : decode cX4_copy 2 = .ok (.invokestatic 39, 3) := by decide +kernel
theorem dX4_copy_5 : decode cX4_copy 5 = .ok (.ifCond .eq 11, 3) := by decide +kernel
theorem dX4_copy_8 : decode cX4_copy 8 = .ok (.iload_n 3, 1) := by decide +kernel
theorem dX4_copy_9 : decode cX4_copy 9 = .ok (.iconst 4, 1) := by decide +kernel
theorem dX4_copy_10 : decode cX4_copy 10 = .ok (.invokestatic 39, 3) := by decide +kernel
theorem dX4_copy_13 : decode cX4_copy 13 = .ok (.ifCond .ne 6, 3) := by decide +kernel
theorem dX4_copy_16 : decode cX4_copy 16 = .ok (.bipush (-2), 2) := by decide +kernel
theorem dX4_copy_18 : decode cX4_copy 18 = .ok (.ireturn, 1) := by decide +kernel
theorem dX4_copy_19 : decode cX4_copy 19 = .ok (.aload_n 0, 1) := by decide +kernel
theorem dX4_copy_20 : decode cX4_copy 20 = .ok (.getfield 30, 3) := by decide +kernel
theorem dX4_copy_23 : decode cX4_copy 23 = .ok (.iload_n 1, 1) := by decide +kernel
theorem dX4_copy_24 : decode cX4_copy 24 = .ok (.aaload, 1) := by decide +kernel
theorem dX4_copy_25 : decode cX4_copy 25 = .ok (.astore 6, 2) := by decide +kernel
theorem dX4_copy_27 : decode cX4_copy 27 = .ok (.aload_n 0, 1) := by decide +kernel
theorem dX4_copy_28 : decode cX4_copy 28 = .ok (.getfield 30, 3) := by decide +kernel
theorem dX4_copy_31 : decode cX4_copy 31 = .ok (.iload_n 3, 1) := by decide +kernel
theorem dX4_copy_32 : decode cX4_copy 32 = .ok (.aaload, 1) := by decide +kernel
theorem dX4_copy_33 : decode cX4_copy 33 = .ok (.astore 7, 2) := by decide +kernel
theorem dX4_copy_35 : decode cX4_copy 35 = .ok (.aload 6, 2) := by decide +kernel
theorem dX4_copy_37 : decode cX4_copy 37 = .ok (.getfield 80, 3) := by decide +kernel
theorem dX4_copy_40 : decode cX4_copy 40 = .ok (.ifCond .ne 11, 3) := by decide +kernel
theorem dX4_copy_43 : decode cX4_copy 43 = .ok (.aload 7, 2) := by decide +kernel
theorem dX4_copy_45 : decode cX4_copy 45 = .ok (.getfield 80, 3) := by decide +kernel
theorem dX4_copy_48 : decode cX4_copy 48 = .ok (.ifCond .eq 9, 3) := by decide +kernel
theorem dX4_copy_51 : decode cX4_copy 51 = .ok (.aload_n 0, 1) := by decide +kernel
theorem dX4_copy_52 : decode cX4_copy 52 = .ok (.iconst 1, 1) := by decide +kernel
theorem dX4_copy_53 : decode cX4_copy 53 = .ok (.invokevirtual 84, 3) := by decide +kernel
theorem dX4_copy_56 : decode cX4_copy 56 = .ok (.ireturn, 1) := by decide +kernel
theorem dX4_copy_57 : decode cX4_copy 57 = .ok (.aload 6, 2) := by decide +kernel
theorem dX4_copy_59 : decode cX4_copy 59 = .ok (.getfield 180, 3) := by decide +kernel
theorem dX4_copy_62 : decode cX4_copy 62 = .ok (.aload 7, 2) := by decide +kernel
theorem dX4_copy_64 : decode cX4_copy 64 = .ok (.getfield 180, 3) := by decide +kernel
theorem dX4_copy_67 : decode cX4_copy 67 = .ok (.if_icmp .eq 9, 3) := by decide +kernel
theorem dX4_copy_70 : decode cX4_copy 70 = .ok (.aload_n 0, 1) := by decide +kernel
theorem dX4_copy_71 : decode cX4_copy 71 = .ok (.iconst 4, 1) := by decide +kernel
theorem dX4_copy_72 : decode cX4_copy 72 = .ok (.invokevirtual 84, 3) := by decide +kernel
theorem dX4_copy_75 : decode cX4_copy 75 = .ok (.ireturn, 1) := by decide +kernel
theorem dX4_copy_76 : decode cX4_copy 76 = .ok (.aload 6, 2) := by decide +kernel
theorem dX4_copy_78 : decode cX4_copy 78 = .ok (.iload_n 2, 1) := by decide +kernel
theorem dX4_copy_79 : decode cX4_copy 79 = .ok (.iload 5, 2) := by decide +kernel
theorem dX4_copy_81 : decode cX4_copy 81 = .ok (.invokevirtual 183, 3) := by decide +kernel
theorem dX4_copy_84 : decode cX4_copy 84 = .ok (.ifCond .eq 15, 3) := by decide +kernel
theorem dX4_copy_87 : decode cX4_copy 87 = .ok (.aload 7, 2) := by decide +kernel
theorem dX4_copy_89 : decode cX4_copy 89 = .ok (.iload 4, 2) := by decide +kernel
theorem dX4_copy_91 : decode cX4_copy 91 = .ok (.iload 5, 2) := by decide +kernel
theorem dX4_copy_93 : decode cX4_copy 93 = .ok (.invokevirtual 183, 3) := by decide +kernel
theorem dX4_copy_96 : decode cX4_copy 96 = .ok (.ifCond .ne 9, 3) := by decide +kernel
theorem dX4_copy_99 : decode cX4_copy 99 = .ok (.aload_n 0, 1) := by decide +kernel
theorem dX4_copy_100 : decode cX4_copy 100 = .ok (.iconst 2, 1) := by decide +kernel
theorem dX4_copy_101 : decode cX4_copy 101 = .ok (.invokevirtual 84, 3) := by decide +kernel
theorem dX4_copy_104 : decode cX4_copy 104 = .ok (.ireturn, 1) := by decide +kernel
theorem dX4_copy_105 : decode cX4_copy 105 = .ok (.aload 6, 2) := by decide +kernel
theorem dX4_copy_107 : decode cX4_copy 107 = .ok (.getfield 90, 3) := by decide +kernel
theorem dX4_copy_110 : decode cX4_copy 110 = .ok (.iload_n 2, 1) := by decide +kernel
theorem dX4_copy_111 : decode cX4_copy 111 = .ok (.aload 7, 2) := by decide +kernel
theorem dX4_copy_113 : decode cX4_copy 113 = .ok (.getfield 90, 3) := by decide +kernel
theorem dX4_copy_116 : decode cX4_copy 116 = .ok (.iload 4, 2) := by decide +kernel
theorem dX4_copy_118 : decode cX4_copy 118 = .ok (.iload 5, 2) := by decide +kernel
theorem dX4_copy_120 : decode cX4_copy 120 = .ok (.invokestatic 186, 3) := by decide +kernel
theorem dX4_copy_123 : decode cX4_copy 123 = .ok (.iconst 1, 1) := by decide +kernel
theorem dX4_copy_124 : decode cX4_copy 124 = .ok (.ireturn, 1) := by decide +kernel
theorem dX4_write_0 : decode cX4_write 0 = .ok (.iload_n 1, 1) := by decide +kernel
theorem dX4_write_1 : decode cX4_write 1 = .ok (.iconst 4, 1) := by decide +kernel
theorem dX4_write_2 : decode cX4_write 2 = .ok (.invokestatic 39, 3) := by decide +kernel
theorem dX4_write_5 : decode cX4_write 5 = .ok (.ifCond .ne 6, 3) := by decide +kernel
theorem dX4_write_8 : decode cX4_write 8 = .ok (.bipush (-2), 2) := by decide +kernel
theorem dX4_write_10 : decode cX4_write 10 = .ok (.ireturn, 1) := by decide +kernel
theorem dX4_write_11 : decode cX4_write 11 = .ok (.aload_n 0, 1) := by decide +kernel
theorem dX4_write_12 : decode cX4_write 12 = .ok (.getfield 30, 3) := by decide +kernel
theorem dX4_write_15 : decode cX4_write 15 = .ok (.iload_n 1, 1) := by decide +kernel
theorem dX4_write_16 : decode cX4_write 16 = .ok (.aaload, 1) := by decide +kernel
theorem dX4_write_17 : decode cX4_write 17 = .ok (.astore_n 2, 1) := by decide +kernel
theorem dX4_write_18 : decode cX4_write 18 = .ok (.aload_n 2, 1) := by decide +kernel
theorem dX4_write_19 : decode cX4_write 19 = .ok (.getfield 80, 3) := by decide +kernel
theorem dX4_write_22 : decode cX4_write 22 = .ok (.ifCond .eq 9, 3) := by decide +kernel
theorem dX4_write_25 : decode cX4_write 25 = .ok (.aload_n 0, 1) := by decide +kernel
theorem dX4_write_26 : decode cX4_write 26 = .ok (.iconst 1, 1) := by decide +kernel
theorem dX4_write_27 : decode cX4_write 27 = .ok (.invokevirtual 84, 3) := by decide +kernel
theorem dX4_write_30 : decode cX4_write 30 = .ok (.ireturn, 1) := by decide +kernel
theorem dX4_write_31 : decode cX4_write 31 = .ok (.aload_n 0, 1) := by decide +kernel
theorem dX4_write_32 : decode cX4_write 32 = .ok (.getfield 20, 3) := by decide +kernel
theorem dX4_write_35 : decode cX4_write 35 = .ok (.aload_n 0, 1) := by decide +kernel
theorem dX4_write_36 : decode cX4_write 36 = .ok (.getfield 20, 3) := by decide +kernel
theorem dX4_write_39 : decode cX4_write 39 = .ok (.iconst (-1), 1) := by decide +kernel
theorem dX4_write_40 : decode cX4_write 40 = .ok (.invokevirtual 97, 3) := by decide +kernel
theorem dX4_write_43 : decode cX4_write 43 = .ok (.invokevirtual 112, 3) := by decide +kernel
theorem dX4_write_46 : decode cX4_write 46 = .ok (.istore_n 3, 1) := by decide +kernel
theorem dX4_write_47 : decode cX4_write 47 = .ok (.aload_n 2, 1) := by decide +kernel
theorem dX4_write_48 : decode cX4_write 48 = .ok (.getfield 87, 3) := by decide +kernel
theorem dX4_write_51 : decode cX4_write 51 = .ok (.aload_n 0, 1) := by decide +kernel
theorem dX4_write_52 : decode cX4_write 52 = .ok (.getfield 27, 3) := by decide +kernel
theorem dX4_write_55 : decode cX4_write 55 = .ok (.getfield 59, 3) := by decide +kernel
theorem dX4_write_58 : decode cX4_write 58 = .ok (.invokestatic 192, 3) := by decide +kernel
theorem dX4_write_61 : decode cX4_write 61 = .ok (.istore 4, 2) := by decide +kernel
theorem dX4_write_63 : decode cX4_write 63 = .ok (.iconst 0, 1) := by decide +kernel
theorem dX4_write_64 : decode cX4_write 64 = .ok (.istore 5, 2) := by decide +kernel
theorem dX4_write_66 : decode cX4_write 66 = .ok (.iload 5, 2) := by decide +kernel
theorem dX4_write_68 : decode cX4_write 68 = .ok (.iload 4, 2) := by decide +kernel
theorem dX4_write_70 : decode cX4_write 70 = .ok (.if_icmp .ge 25, 3) := by decide +kernel
theorem dX4_write_73 : decode cX4_write 73 = .ok (.aload_n 2, 1) := by decide +kernel
theorem dX4_write_74 : decode cX4_write 74 = .ok (.iload 5, 2) := by decide +kernel
theorem dX4_write_76 : decode cX4_write 76 = .ok (.aload_n 0, 1) := by decide +kernel
theorem dX4_write_77 : decode cX4_write 77 = .ok (.getfield 27, 3) := by decide +kernel
theorem dX4_write_80 : decode cX4_write 80 = .ok (.iload 5, 2) := by decide +kernel
theorem dX4_write_82 : decode cX4_write 82 = .ok (.iload_n 3, 1) := by decide +kernel
theorem dX4_write_83 : decode cX4_write 83 = .ok (.invokevirtual 115, 3) := by decide +kernel
theorem dX4_write_86 : decode cX4_write 86 = .ok (.invokevirtual 176, 3) := by decide +kernel
theorem dX4_write_89 : decode cX4_write 89 = .ok (.iinc 5 1, 3) := by decide +kernel
theorem dX4_write_92 : decode cX4_write 92 = .ok (.goto (-26), 3) := by decide +kernel
theorem dX4_write_95 : decode cX4_write 95 = .ok (.iload 4, 2) := by decide +kernel
theorem dX4_write_97 : decode cX4_write 97 = .ok (.ireturn, 1) := by decide +kernel
theorem dX4_count_0 : decode cX4_count 0 = .ok (.aload_n 0, 1) := by decide +kernel
theorem dX4_count_1 : decode cX4_count 1 = .ok (.getfield 20, 3) := by decide +kernel
theorem dX4_count_4 : decode cX4_count 4 = .ok (.iconst (-1), 1) := by decide +kernel
theorem dX4_count_5 : decode cX4_count 5 = .ok (.invokevirtual 97, 3) := by decide +kernel
theorem dX4_count_8 : decode cX4_count 8 = .ok (.istore_n 2, 1) := by decide +kernel
theorem dX4_count_9 : decode cX4_count 9 = .ok (.iload_n 1, 1) := by decide +kernel
theorem dX4_count_10 : decode cX4_count 10 = .ok (.tableswitch 132 0 8 #[50, 58, 66, 74, 87, 99, 111, 116, 127], 50) := by decide +kernel
theorem dX4_count_60 : decode cX4_count 60 = .ok (.aload_n 0, 1) := by decide +kernel
theorem dX4_count_61 : decode cX4_count 61 = .ok (.getfield 27, 3) := by decide +kernel
theorem dX4_count_64 : decode cX4_count 64 = .ok (.getfield 59, 3) := by decide +kernel
theorem dX4_count_67 : decode cX4_count 67 = .ok (.ireturn, 1) := by decide +kernel
theorem dX4_count_68 : decode cX4_count 68 = .ok (.aload_n 0, 1) := by decide +kernel
theorem dX4_count_69 : decode cX4_count 69 = .ok (.getfield 27, 3) := by decide +kernel
theorem dX4_count_72 : decode cX4_count 72 = .ok (.getfield 43, 3) := by decide +kernel
theorem dX4_count_75 : decode cX4_count 75 = .ok (.ireturn, 1) := by decide +kernel
theorem dX4_count_76 : decode cX4_count 76 = .ok (.aload_n 0, 1) := by decide +kernel
theorem dX4_count_77 : decode cX4_count 77 = .ok (.getfield 20, 3) := by decide +kernel
theorem dX4_count_80 : decode cX4_count 80 = .ok (.getfield 79, 3) := by decide +kernel
theorem dX4_count_83 : decode cX4_count 83 = .ok (.ireturn, 1) := by decide +kernel
theorem dX4_count_84 : decode cX4_count 84 = .ok (.aload_n 0, 1) := by decide +kernel
theorem dX4_count_85 : decode cX4_count 85 = .ok (.getfield 20, 3) := by decide +kernel
theorem dX4_count_88 : decode cX4_count 88 = .ok (.getfield 79, 3) := by decide +kernel
theorem dX4_count_91 : decode cX4_count 91 = .ok (.iload_n 2, 1) := by decide +kernel
theorem dX4_count_92 : decode cX4_count 92 = .ok (.invokestatic 197, 3) := by decide +kernel
theorem dX4_count_95 : decode cX4_count 95 = .ok (.isub, 1) := by decide +kernel
theorem dX4_count_96 : decode cX4_count 96 = .ok (.ireturn, 1) := by decide +kernel
theorem dX4_count_97 : decode cX4_count 97 = .ok (.aload_n 0, 1) := by decide +kernel
theorem dX4_count_98 : decode cX4_count 98 = .ok (.getfield 20, 3) := by decide +kernel
theorem dX4_count_101 : decode cX4_count 101 = .ok (.iload_n 2, 1) := by decide +kernel
theorem dX4_count_102 : decode cX4_count 102 = .ok (.invokevirtual 100, 3) := by decide +kernel
theorem dX4_count_105 : decode cX4_count 105 = .ok (.invokestatic 197, 3) := by decide +kernel
theorem dX4_count_108 : decode cX4_count 108 = .ok (.ireturn, 1) := by decide +kernel
theorem dX4_count_109 : decode cX4_count 109 = .ok (.aload_n 0, 1) := by decide +kernel
theorem dX4_count_110 : decode cX4_count 110 = .ok (.getfield 20, 3) := by decide +kernel
theorem dX4_count_113 : decode cX4_count 113 = .ok (.iload_n 2, 1) := by decide +kernel
theorem dX4_count_114 : decode cX4_count 114 = .ok (.invokevirtual 118, 3) := by decide +kernel
theorem dX4_count_117 : decode cX4_count 117 = .ok (.invokestatic 197, 3) := by decide +kernel
theorem dX4_count_120 : decode cX4_count 120 = .ok (.ireturn, 1) := by decide +kernel
theorem dX4_count_121 : decode cX4_count 121 = .ok (.aload_n 0, 1) := by decide +kernel
theorem dX4_count_122 : decode cX4_count 122 = .ok (.getfield 150, 3) := by decide +kernel
theorem dX4_count_125 : decode cX4_count 125 = .ok (.ireturn, 1) := by decide +kernel
theorem dX4_count_126 : decode cX4_count 126 = .ok (.aload_n 0, 1) := by decide +kernel
theorem dX4_count_127 : decode cX4_count 127 = .ok (.getfield 27, 3) := by decide +kernel
theorem dX4_count_130 : decode cX4_count 130 = .ok (.getfield 69, 3) := by decide +kernel
theorem dX4_count_133 : decode cX4_count 133 = .ok (.invokestatic 197, 3) := by decide +kernel
theorem dX4_count_136 : decode cX4_count 136 = .ok (.ireturn, 1) := by decide +kernel
theorem dX4_count_137 : decode cX4_count 137 = .ok (.aload_n 0, 1) := by decide +kernel
theorem dX4_count_138 : decode cX4_count 138 = .ok (.getfield 34, 3) := by decide +kernel
theorem dX4_count_141 : decode cX4_count 141 = .ok (.ireturn, 1) := by decide +kernel
theorem dX4_count_142 : decode cX4_count 142 = .ok (.bipush (-2), 2) := by decide +kernel
theorem dX4_count_144 : decode cX4_count 144 = .ok (.ireturn, 1) := by decide +kernel
theorem dX4_digest_0 : decode cX4_digest 0 = .ok (.ldc2_w 202, 3) := by decide +kernel
theorem dX4_digest_3 : decode cX4_digest 3 = .ok (.lstore_n 1, 1) := by decide +kernel
theorem dX4_digest_4 : decode cX4_digest 4 = .ok (.iconst 0, 1) := by decide +kernel
theorem dX4_digest_5 : decode cX4_digest 5 = .ok (.istore_n 3, 1) := by decide +kernel
theorem dX4_digest_6 : decode cX4_digest 6 = .ok (.iload_n 3, 1) := by decide +kernel
theorem dX4_digest_7 : decode cX4_digest 7 = .ok (.bipush 8, 2) := by decide +kernel
theorem dX4_digest_9 : decode cX4_digest 9 = .ok (.if_icmp .ge 20, 3) := by decide +kernel
theorem dX4_digest_12 : decode cX4_digest 12 = .ok (.lload_n 1, 1) := by decide +kernel
theorem dX4_digest_13 : decode cX4_digest 13 = .ok (.aload_n 0, 1) := by decide +kernel
theorem dX4_digest_14 : decode cX4_digest 14 = .ok (.iload_n 3, 1) := by decide +kernel
theorem dX4_digest_15 : decode cX4_digest 15 = .ok (.invokevirtual 204, 3) := by decide +kernel
theorem dX4_digest_18 : decode cX4_digest 18 = .ok (.i2l, 1) := by decide +kernel
theorem dX4_digest_19 : decode cX4_digest 19 = .ok (.invokestatic 207, 3) := by decide +kernel
theorem dX4_digest_22 : decode cX4_digest 22 = .ok (.lstore_n 1, 1) := by decide +kernel
theorem dX4_digest_23 : decode cX4_digest 23 = .ok (.iinc 3 1, 3) := by decide +kernel
theorem dX4_digest_26 : decode cX4_digest 26 = .ok (.goto (-20), 3) := by decide +kernel
theorem dX4_digest_29 : decode cX4_digest 29 = .ok (.lload_n 1, 1) := by decide +kernel
theorem dX4_digest_30 : decode cX4_digest 30 = .ok (.aload_n 0, 1) := by decide +kernel
theorem dX4_digest_31 : decode cX4_digest 31 = .ok (.invokevirtual 211, 3) := by decide +kernel
theorem dX4_digest_34 : decode cX4_digest 34 = .ok (.i2l, 1) := by decide +kernel
theorem dX4_digest_35 : decode cX4_digest 35 = .ok (.invokestatic 207, 3) := by decide +kernel
theorem dX4_digest_38 : decode cX4_digest 38 = .ok (.lstore_n 1, 1) := by decide +kernel
theorem dX4_digest_39 : decode cX4_digest 39 = .ok (.lload_n 1, 1) := by decide +kernel
theorem dX4_digest_40 : decode cX4_digest 40 = .ok (.aload_n 0, 1) := by decide +kernel
theorem dX4_digest_41 : decode cX4_digest 41 = .ok (.invokevirtual 213, 3) := by decide +kernel
theorem dX4_digest_44 : decode cX4_digest 44 = .ok (.i2l, 1) := by decide +kernel
theorem dX4_digest_45 : decode cX4_digest 45 = .ok (.invokestatic 207, 3) := by decide +kernel
theorem dX4_digest_48 : decode cX4_digest 48 = .ok (.lstore_n 1, 1) := by decide +kernel
theorem dX4_digest_49 : decode cX4_digest 49 = .ok (.aload_n 0, 1) := by decide +kernel
theorem dX4_digest_50 : decode cX4_digest 50 = .ok (.lload_n 1, 1) := by decide +kernel
theorem dX4_digest_51 : decode cX4_digest 51 = .ok (.invokevirtual 216, 3) := by decide +kernel
theorem dX4_digest_54 : decode cX4_digest 54 = .ok (.lstore_n 1, 1) := by decide +kernel
theorem dX4_digest_55 : decode cX4_digest 55 = .ok (.aload_n 0, 1) := by decide +kernel
theorem dX4_digest_56 : decode cX4_digest 56 = .ok (.lload_n 1, 1) := by decide +kernel
theorem dX4_digest_57 : decode cX4_digest 57 = .ok (.invokevirtual 220, 3) := by decide +kernel
theorem dX4_digest_60 : decode cX4_digest 60 = .ok (.lstore_n 1, 1) := by decide +kernel
theorem dX4_digest_61 : decode cX4_digest 61 = .ok (.lload_n 1, 1) := by decide +kernel
theorem dX4_digest_62 : decode cX4_digest 62 = .ok (.aload_n 0, 1) := by decide +kernel
theorem dX4_digest_63 : decode cX4_digest 63 = .ok (.iconst 1, 1) := by decide +kernel
theorem dX4_digest_64 : decode cX4_digest 64 = .ok (.iconst 2, 1) := by decide +kernel
theorem dX4_digest_65 : decode cX4_digest 65 = .ok (.iconst 2, 1) := by decide +kernel
theorem dX4_digest_66 : decode cX4_digest 66 = .ok (.iconst 0, 1) := by decide +kernel
theorem dX4_digest_67 : decode cX4_digest 67 = .ok (.invokevirtual 223, 3) := by decide +kernel
theorem dX4_digest_70 : decode cX4_digest 70 = .ok (.i2l, 1) := by decide +kernel
theorem dX4_digest_71 : decode cX4_digest 71 = .ok (.invokestatic 207, 3) := by decide +kernel
theorem dX4_digest_74 : decode cX4_digest 74 = .ok (.lstore_n 1, 1) := by decide +kernel
theorem dX4_digest_75 : decode cX4_digest 75 = .ok (.lload_n 1, 1) := by decide +kernel
theorem dX4_digest_76 : decode cX4_digest 76 = .ok (.aload_n 0, 1) := by decide +kernel
theorem dX4_digest_77 : decode cX4_digest 77 = .ok (.iconst 1, 1) := by decide +kernel
theorem dX4_digest_78 : decode cX4_digest 78 = .ok (.iconst 2, 1) := by decide +kernel
theorem dX4_digest_79 : decode cX4_digest 79 = .ok (.iconst 2, 1) := by decide +kernel
theorem dX4_digest_80 : decode cX4_digest 80 = .ok (.iconst 1, 1) := by decide +kernel
theorem dX4_digest_81 : decode cX4_digest 81 = .ok (.invokevirtual 223, 3) := by decide +kernel
theorem dX4_digest_84 : decode cX4_digest 84 = .ok (.i2l, 1) := by decide +kernel
theorem dX4_digest_85 : decode cX4_digest 85 = .ok (.invokestatic 207, 3) := by decide +kernel
theorem dX4_digest_88 : decode cX4_digest 88 = .ok (.lstore_n 1, 1) := by decide +kernel
theorem dX4_digest_89 : decode cX4_digest 89 = .ok (.iconst 0, 1) := by decide +kernel
theorem dX4_digest_90 : decode cX4_digest 90 = .ok (.istore_n 3, 1) := by decide +kernel
theorem dX4_digest_91 : decode cX4_digest 91 = .ok (.iload_n 3, 1) := by decide +kernel
theorem dX4_digest_92 : decode cX4_digest 92 = .ok (.iconst 2, 1) := by decide +kernel
theorem dX4_digest_93 : decode cX4_digest 93 = .ok (.if_icmp .gt 20, 3) := by decide +kernel
theorem dX4_digest_96 : decode cX4_digest 96 = .ok (.lload_n 1, 1) := by decide +kernel
theorem dX4_digest_97 : decode cX4_digest 97 = .ok (.aload_n 0, 1) := by decide +kernel
theorem dX4_digest_98 : decode cX4_digest 98 = .ok (.iload_n 3, 1) := by decide +kernel
theorem dX4_digest_99 : decode cX4_digest 99 = .ok (.invokevirtual 227, 3) := by decide +kernel
theorem dX4_digest_102 : decode cX4_digest 102 = .ok (.i2l, 1) := by decide +kernel
theorem dX4_digest_103 : decode cX4_digest 103 = .ok (.invokestatic 207, 3) := by decide +kernel
theorem dX4_digest_106 : decode cX4_digest 106 = .ok (.lstore_n 1, 1) := by decide +kernel
theorem dX4_digest_107 : decode cX4_digest 107 = .ok (.iinc 3 1, 3) := by decide +kernel
theorem dX4_digest_110 : decode cX4_digest 110 = .ok (.goto (-19), 3) := by decide +kernel
theorem dX4_digest_113 : decode cX4_digest 113 = .ok (.iconst 0, 1) := by decide +kernel
theorem dX4_digest_114 : decode cX4_digest 114 = .ok (.istore_n 3, 1) := by decide +kernel
theorem dX4_digest_115 : decode cX4_digest 115 = .ok (.iload_n 3, 1) := by decide +kernel
theorem dX4_digest_116 : decode cX4_digest 116 = .ok (.iconst 4, 1) := by decide +kernel
theorem dX4_digest_117 : decode cX4_digest 117 = .ok (.if_icmp .ge 22, 3) := by decide +kernel
theorem dX4_digest_120 : decode cX4_digest 120 = .ok (.lload_n 1, 1) := by decide +kernel
theorem dX4_digest_121 : decode cX4_digest 121 = .ok (.aload_n 0, 1) := by decide +kernel
theorem dX4_digest_122 : decode cX4_digest 122 = .ok (.iconst 0, 1) := by decide +kernel
theorem dX4_digest_123 : decode cX4_digest 123 = .ok (.iconst 1, 1) := by decide +kernel
theorem dX4_digest_124 : decode cX4_digest 124 = .ok (.iload_n 3, 1) := by decide +kernel
theorem dX4_digest_125 : decode cX4_digest 125 = .ok (.invokevirtual 230, 3) := by decide +kernel
theorem dX4_digest_128 : decode cX4_digest 128 = .ok (.i2l, 1) := by decide +kernel
theorem dX4_digest_129 : decode cX4_digest 129 = .ok (.invokestatic 207, 3) := by decide +kernel
theorem dX4_digest_132 : decode cX4_digest 132 = .ok (.lstore_n 1, 1) := by decide +kernel
theorem dX4_digest_133 : decode cX4_digest 133 = .ok (.iinc 3 1, 3) := by decide +kernel
theorem dX4_digest_136 : decode cX4_digest 136 = .ok (.goto (-21), 3) := by decide +kernel
theorem dX4_digest_139 : decode cX4_digest 139 = .ok (.lload_n 1, 1) := by decide +kernel
theorem dX4_digest_140 : decode cX4_digest 140 = .ok (.aload_n 0, 1) := by decide +kernel
theorem dX4_digest_141 : decode cX4_digest 141 = .ok (.invokevirtual 233, 3) := by decide +kernel
theorem dX4_digest_144 : decode cX4_digest 144 = .ok (.i2l, 1) := by decide +kernel
theorem dX4_digest_145 : decode cX4_digest 145 = .ok (.invokestatic 207, 3) := by decide +kernel
theorem dX4_digest_148 : decode cX4_digest 148 = .ok (.lstore_n 1, 1) := by decide +kernel
theorem dX4_digest_149 : decode cX4_digest 149 = .ok (.lload_n 1, 1) := by decide +kernel
theorem dX4_digest_150 : decode cX4_digest 150 = .ok (.aload_n 0, 1) := by decide +kernel
theorem dX4_digest_151 : decode cX4_digest 151 = .ok (.bipush 7, 2) := by decide +kernel
theorem dX4_digest_153 : decode cX4_digest 153 = .ok (.iconst 3, 1) := by decide +kernel
theorem dX4_digest_154 : decode cX4_digest 154 = .ok (.iconst 0, 1) := by decide +kernel
theorem dX4_digest_155 : decode cX4_digest 155 = .ok (.invokevirtual 236, 3) := by decide +kernel
theorem dX4_digest_158 : decode cX4_digest 158 = .ok (.i2l, 1) := by decide +kernel
theorem dX4_digest_159 : decode cX4_digest 159 = .ok (.invokestatic 207, 3) := by decide +kernel
theorem dX4_digest_162 : decode cX4_digest 162 = .ok (.lstore_n 1, 1) := by decide +kernel
theorem dX4_digest_163 : decode cX4_digest 163 = .ok (.lload_n 1, 1) := by decide +kernel
theorem dX4_digest_164 : decode cX4_digest 164 = .ok (.aload_n 0, 1) := by decide +kernel
theorem dX4_digest_165 : decode cX4_digest 165 = .ok (.bipush 7, 2) := by decide +kernel
theorem dX4_digest_167 : decode cX4_digest 167 = .ok (.iconst 3, 1) := by decide +kernel
theorem dX4_digest_168 : decode cX4_digest 168 = .ok (.iconst 1, 1) := by decide +kernel
theorem dX4_digest_169 : decode cX4_digest 169 = .ok (.invokevirtual 236, 3) := by decide +kernel
theorem dX4_digest_172 : decode cX4_digest 172 = .ok (.i2l, 1) := by decide +kernel
theorem dX4_digest_173 : decode cX4_digest 173 = .ok (.invokestatic 207, 3) := by decide +kernel
theorem dX4_digest_176 : decode cX4_digest 176 = .ok (.lreturn, 1) := by decide +kernel
theorem dX4_withDeeds_0 : decode cX4_withDeeds 0 = .ok (.lload_n 1, 1) := by decide +kernel
theorem dX4_withDeeds_1 : decode cX4_withDeeds 1 = .ok (.lstore_n 3, 1) := by decide +kernel
theorem dX4_withDeeds_2 : decode cX4_withDeeds 2 = .ok (.iconst 0, 1) := by decide +kernel
theorem dX4_withDeeds_3 : decode cX4_withDeeds 3 = .ok (.istore 5, 2) := by decide +kernel
theorem dX4_withDeeds_5 : decode cX4_withDeeds 5 = .ok (.iload 5, 2) := by decide +kernel
theorem dX4_withDeeds_7 : decode cX4_withDeeds 7 = .ok (.aload_n 0, 1) := by decide +kernel
theorem dX4_withDeeds_8 : decode cX4_withDeeds 8 = .ok (.getfield 27, 3) := by decide +kernel
theorem dX4_withDeeds_11 : decode cX4_withDeeds 11 = .ok (.getfield 59, 3) := by decide +kernel
theorem dX4_withDeeds_14 : decode cX4_withDeeds 14 = .ok (.if_icmp .ge 50, 3) := by decide +kernel
theorem dX4_withDeeds_17 : decode cX4_withDeeds 17 = .ok (.iconst 0, 1) := by decide +kernel
theorem dX4_withDeeds_18 : decode cX4_withDeeds 18 = .ok (.istore 6, 2) := by decide +kernel
theorem dX4_withDeeds_20 : decode cX4_withDeeds 20 = .ok (.iload 6, 2) := by decide +kernel
theorem dX4_withDeeds_22 : decode cX4_withDeeds 22 = .ok (.iconst 3, 1) := by decide +kernel
theorem dX4_withDeeds_23 : decode cX4_withDeeds 23 = .ok (.if_icmp .ge 23, 3) := by decide +kernel
theorem dX4_withDeeds_26 : decode cX4_withDeeds 26 = .ok (.lload_n 3, 1) := by decide +kernel
theorem dX4_withDeeds_27 : decode cX4_withDeeds 27 = .ok (.aload_n 0, 1) := by decide +kernel
theorem dX4_withDeeds_28 : decode cX4_withDeeds 28 = .ok (.iload 5, 2) := by decide +kernel
theorem dX4_withDeeds_30 : decode cX4_withDeeds 30 = .ok (.iload 6, 2) := by decide +kernel
theorem dX4_withDeeds_32 : decode cX4_withDeeds 32 = .ok (.invokevirtual 239, 3) := by decide +kernel
theorem dX4_withDeeds_35 : decode cX4_withDeeds 35 = .ok (.i2l, 1) := by decide +kernel
theorem dX4_withDeeds_36 : decode cX4_withDeeds 36 = .ok (.invokestatic 207, 3) := by decide +kernel
theorem dX4_withDeeds_39 : decode cX4_withDeeds 39 = .ok (.lstore_n 3, 1) := by decide +kernel
theorem dX4_withDeeds_40 : decode cX4_withDeeds 40 = .ok (.iinc 6 1, 3) := by decide +kernel
theorem dX4_withDeeds_43 : decode cX4_withDeeds 43 = .ok (.goto (-23), 3) := by decide +kernel
theorem dX4_withDeeds_46 : decode cX4_withDeeds 46 = .ok (.lload_n 3, 1) := by decide +kernel
theorem dX4_withDeeds_47 : decode cX4_withDeeds 47 = .ok (.aload_n 0, 1) := by decide +kernel
theorem dX4_withDeeds_48 : decode cX4_withDeeds 48 = .ok (.iload 5, 2) := by decide +kernel
theorem dX4_withDeeds_50 : decode cX4_withDeeds 50 = .ok (.invokevirtual 242, 3) := by decide +kernel
theorem dX4_withDeeds_53 : decode cX4_withDeeds 53 = .ok (.i2l, 1) := by decide +kernel
theorem dX4_withDeeds_54 : decode cX4_withDeeds 54 = .ok (.invokestatic 207, 3) := by decide +kernel
theorem dX4_withDeeds_57 : decode cX4_withDeeds 57 = .ok (.lstore_n 3, 1) := by decide +kernel
theorem dX4_withDeeds_58 : decode cX4_withDeeds 58 = .ok (.iinc 5 1, 3) := by decide +kernel
theorem dX4_withDeeds_61 : decode cX4_withDeeds 61 = .ok (.goto (-56), 3) := by decide +kernel
theorem dX4_withDeeds_64 : decode cX4_withDeeds 64 = .ok (.lload_n 3, 1) := by decide +kernel
theorem dX4_withDeeds_65 : decode cX4_withDeeds 65 = .ok (.lreturn, 1) := by decide +kernel
theorem dX4_withUndoings_0 : decode cX4_withUndoings 0 = .ok (.lload_n 1, 1) := by decide +kernel
theorem dX4_withUndoings_1 : decode cX4_withUndoings 1 = .ok (.lstore_n 3, 1) := by decide +kernel
theorem dX4_withUndoings_2 : decode cX4_withUndoings 2 = .ok (.iconst 0, 1) := by decide +kernel
theorem dX4_withUndoings_3 : decode cX4_withUndoings 3 = .ok (.istore 5, 2) := by decide +kernel
theorem dX4_withUndoings_5 : decode cX4_withUndoings 5 = .ok (.iload 5, 2) := by decide +kernel
theorem dX4_withUndoings_7 : decode cX4_withUndoings 7 = .ok (.aload_n 0, 1) := by decide +kernel
theorem dX4_withUndoings_8 : decode cX4_withUndoings 8 = .ok (.getfield 20, 3) := by decide +kernel
theorem dX4_withUndoings_11 : decode cX4_withUndoings 11 = .ok (.getfield 79, 3) := by decide +kernel
theorem dX4_withUndoings_14 : decode cX4_withUndoings 14 = .ok (.if_icmp .ge 59, 3) := by decide +kernel
theorem dX4_withUndoings_17 : decode cX4_withUndoings 17 = .ok (.lload_n 3, 1) := by decide +kernel
theorem dX4_withUndoings_18 : decode cX4_withUndoings 18 = .ok (.aload_n 0, 1) := by decide +kernel
theorem dX4_withUndoings_19 : decode cX4_withUndoings 19 = .ok (.iload 5, 2) := by decide +kernel
theorem dX4_withUndoings_21 : decode cX4_withUndoings 21 = .ok (.invokevirtual 245, 3) := by decide +kernel
theorem dX4_withUndoings_24 : decode cX4_withUndoings 24 = .ok (.i2l, 1) := by decide +kernel
theorem dX4_withUndoings_25 : decode cX4_withUndoings 25 = .ok (.invokestatic 207, 3) := by decide +kernel
theorem dX4_withUndoings_28 : decode cX4_withUndoings 28 = .ok (.lstore_n 3, 1) := by decide +kernel
theorem dX4_withUndoings_29 : decode cX4_withUndoings 29 = .ok (.lload_n 3, 1) := by decide +kernel
theorem dX4_withUndoings_30 : decode cX4_withUndoings 30 = .ok (.aload_n 0, 1) := by decide +kernel
theorem dX4_withUndoings_31 : decode cX4_withUndoings 31 = .ok (.iload 5, 2) := by decide +kernel
theorem dX4_withUndoings_33 : decode cX4_withUndoings 33 = .ok (.invokevirtual 248, 3) := by decide +kernel
theorem dX4_withUndoings_36 : decode cX4_withUndoings 36 = .ok (.i2l, 1) := by decide +kernel
theorem dX4_withUndoings_37 : decode cX4_withUndoings 37 = .ok (.invokestatic 207, 3) := by decide +kernel
theorem dX4_withUndoings_40 : decode cX4_withUndoings 40 = .ok (.lstore_n 3, 1) := by decide +kernel
theorem dX4_withUndoings_41 : decode cX4_withUndoings 41 = .ok (.lload_n 3, 1) := by decide +kernel
theorem dX4_withUndoings_42 : decode cX4_withUndoings 42 = .ok (.aload_n 0, 1) := by decide +kernel
theorem dX4_withUndoings_43 : decode cX4_withUndoings 43 = .ok (.iload 5, 2) := by decide +kernel
theorem dX4_withUndoings_45 : decode cX4_withUndoings 45 = .ok (.iconst 0, 1) := by decide +kernel
theorem dX4_withUndoings_46 : decode cX4_withUndoings 46 = .ok (.invokevirtual 251, 3) := by decide +kernel
theorem dX4_withUndoings_49 : decode cX4_withUndoings 49 = .ok (.i2l, 1) := by decide +kernel
theorem dX4_withUndoings_50 : decode cX4_withUndoings 50 = .ok (.invokestatic 207, 3) := by decide +kernel
theorem dX4_withUndoings_53 : decode cX4_withUndoings 53 = .ok (.lstore_n 3, 1) := by decide +kernel
theorem dX4_withUndoings_54 : decode cX4_withUndoings 54 = .ok (.lload_n 3, 1) := by decide +kernel
theorem dX4_withUndoings_55 : decode cX4_withUndoings 55 = .ok (.aload_n 0, 1) := by decide +kernel
theorem dX4_withUndoings_56 : decode cX4_withUndoings 56 = .ok (.iload 5, 2) := by decide +kernel
theorem dX4_withUndoings_58 : decode cX4_withUndoings 58 = .ok (.iconst 1, 1) := by decide +kernel
theorem dX4_withUndoings_59 : decode cX4_withUndoings 59 = .ok (.invokevirtual 251, 3) := by decide +kernel
theorem dX4_withUndoings_62 : decode cX4_withUndoings 62 = .ok (.i2l, 1) := by decide +kernel
theorem dX4_withUndoings_63 : decode cX4_withUndoings 63 = .ok (.invokestatic 207, 3) := by decide +kernel
theorem dX4_withUndoings_66 : decode cX4_withUndoings 66 = .ok (.lstore_n 3, 1) := by decide +kernel
theorem dX4_withUndoings_67 : decode cX4_withUndoings 67 = .ok (.iinc 5 1, 3) := by decide +kernel
theorem dX4_withUndoings_70 : decode cX4_withUndoings 70 = .ok (.goto (-65), 3) := by decide +kernel
theorem dX4_withUndoings_73 : decode cX4_withUndoings 73 = .ok (.iconst 0, 1) := by decide +kernel
theorem dX4_withUndoings_74 : decode cX4_withUndoings 74 = .ok (.istore 5, 2) := by decide +kernel
theorem dX4_withUndoings_76 : decode cX4_withUndoings 76 = .ok (.iload 5, 2) := by decide +kernel
theorem dX4_withUndoings_78 : decode cX4_withUndoings 78 = .ok (.aload_n 0, 1) := by decide +kernel
theorem dX4_withUndoings_79 : decode cX4_withUndoings 79 = .ok (.getfield 20, 3) := by decide +kernel
theorem dX4_withUndoings_82 : decode cX4_withUndoings 82 = .ok (.getfield 79, 3) := by decide +kernel
theorem dX4_withUndoings_85 : decode cX4_withUndoings 85 = .ok (.if_icmp .gt 35, 3) := by decide +kernel
theorem dX4_withUndoings_88 : decode cX4_withUndoings 88 = .ok (.lload_n 3, 1) := by decide +kernel
theorem dX4_withUndoings_89 : decode cX4_withUndoings 89 = .ok (.aload_n 0, 1) := by decide +kernel
theorem dX4_withUndoings_90 : decode cX4_withUndoings 90 = .ok (.iload 5, 2) := by decide +kernel
theorem dX4_withUndoings_92 : decode cX4_withUndoings 92 = .ok (.iconst 0, 1) := by decide +kernel
theorem dX4_withUndoings_93 : decode cX4_withUndoings 93 = .ok (.invokevirtual 254, 3) := by decide +kernel
theorem dX4_withUndoings_96 : decode cX4_withUndoings 96 = .ok (.i2l, 1) := by decide +kernel
theorem dX4_withUndoings_97 : decode cX4_withUndoings 97 = .ok (.invokestatic 207, 3) := by decide +kernel
theorem dX4_withUndoings_100 : decode cX4_withUndoings 100 = .ok (.lstore_n 3, 1) := by decide +kernel
theorem dX4_withUndoings_101 : decode cX4_withUndoings 101 = .ok (.lload_n 3, 1) := by decide +kernel
theorem dX4_withUndoings_102 : decode cX4_withUndoings 102 = .ok (.aload_n 0, 1) := by decide +kernel
theorem dX4_withUndoings_103 : decode cX4_withUndoings 103 = .ok (.iload 5, 2) := by decide +kernel
theorem dX4_withUndoings_105 : decode cX4_withUndoings 105 = .ok (.iconst 1, 1) := by decide +kernel
theorem dX4_withUndoings_106 : decode cX4_withUndoings 106 = .ok (.invokevirtual 254, 3) := by decide +kernel
theorem dX4_withUndoings_109 : decode cX4_withUndoings 109 = .ok (.i2l, 1) := by decide +kernel
theorem dX4_withUndoings_110 : decode cX4_withUndoings 110 = .ok (.invokestatic 207, 3) := by decide +kernel
theorem dX4_withUndoings_113 : decode cX4_withUndoings 113 = .ok (.lstore_n 3, 1) := by decide +kernel
theorem dX4_withUndoings_114 : decode cX4_withUndoings 114 = .ok (.iinc 5 1, 3) := by decide +kernel
theorem dX4_withUndoings_117 : decode cX4_withUndoings 117 = .ok (.goto (-41), 3) := by decide +kernel
theorem dX4_withUndoings_120 : decode cX4_withUndoings 120 = .ok (.lload_n 3, 1) := by decide +kernel
theorem dX4_withUndoings_121 : decode cX4_withUndoings 121 = .ok (.lreturn, 1) := by decide +kernel
theorem dX4_found_0 : decode cX4_found 0 = .ok (.aload_n 0, 1) := by decide +kernel
theorem dX4_found_1 : decode cX4_found 1 = .ok (.iload_n 1, 1) := by decide +kernel
theorem dX4_found_2 : decode cX4_found 2 = .ok (.putfield 34, 3) := by decide +kernel
theorem dX4_found_5 : decode cX4_found 5 = .ok (.bipush (-10), 2) := by decide +kernel
theorem dX4_found_7 : decode cX4_found 7 = .ok (.iload_n 1, 1) := by decide +kernel
theorem dX4_found_8 : decode cX4_found 8 = .ok (.isub, 1) := by decide +kernel
theorem dX4_found_9 : decode cX4_found 9 = .ok (.ireturn, 1) := by decide +kernel
theorem dX4_mixed_0 : decode cX4_mixed 0 = .ok (.ldc2_w 257, 3) := by decide +kernel
theorem dX4_mixed_3 : decode cX4_mixed 3 = .ok (.lload_n 0, 1) := by decide +kernel
theorem dX4_mixed_4 : decode cX4_mixed 4 = .ok (.lmul, 1) := by decide +kernel
theorem dX4_mixed_5 : decode cX4_mixed 5 = .ok (.lload_n 2, 1) := by decide +kernel
theorem dX4_mixed_6 : decode cX4_mixed 6 = .ok (.ladd, 1) := by decide +kernel
theorem dX4_mixed_7 : decode cX4_mixed 7 = .ok (.lreturn, 1) := by decide +kernel
theorem dX4_isBelow_0 : decode cX4_isBelow 0 = .ok (.iload_n 0, 1) := by decide +kernel
theorem dX4_isBelow_1 : decode cX4_isBelow 1 = .ok (.ifCond .lt 12, 3) := by decide +kernel
theorem dX4_isBelow_4 : decode cX4_isBelow 4 = .ok (.iload_n 0, 1) := by decide +kernel
theorem dX4_isBelow_5 : decode cX4_isBelow 5 = .ok (.iload_n 1, 1) := by decide +kernel
theorem dX4_isBelow_6 : decode cX4_isBelow 6 = .ok (.if_icmp .ge 7, 3) := by decide +kernel
theorem dX4_isBelow_9 : decode cX4_isBelow 9 = .ok (.iconst 1, 1) := by decide +kernel
theorem dX4_isBelow_10 : decode cX4_isBelow 10 = .ok (.goto 4, 3) := by decide +kernel
theorem dX4_isBelow_13 : decode cX4_isBelow 13 = .ok (.iconst 0, 1) := by decide +kernel
theorem dX4_isBelow_14 : decode cX4_isBelow 14 = .ok (.ireturn, 1) := by decide +kernel
theorem dX4_bitOf_0 : decode cX4_bitOf 0 = .ok (.iload_n 0, 1) := by decide +kernel
theorem dX4_bitOf_1 : decode cX4_bitOf 1 = .ok (.iload_n 1, 1) := by decide +kernel
theorem dX4_bitOf_2 : decode cX4_bitOf 2 = .ok (.ishr, 1) := by decide +kernel
theorem dX4_bitOf_3 : decode cX4_bitOf 3 = .ok (.iconst 1, 1) := by decide +kernel
theorem dX4_bitOf_4 : decode cX4_bitOf 4 = .ok (.iand, 1) := by decide +kernel
theorem dX4_bitOf_5 : decode cX4_bitOf 5 = .ok (.ireturn, 1) := by decide +kernel
theorem dX4_firstBits_0 : decode cX4_firstBits 0 = .ok (.iconst 1, 1) := by decide +kernel
theorem dX4_firstBits_1 : decode cX4_firstBits 1 = .ok (.iload_n 0, 1) := by decide +kernel
theorem dX4_firstBits_2 : decode cX4_firstBits 2 = .ok (.ishl, 1) := by decide +kernel
theorem dX4_firstBits_3 : decode cX4_firstBits 3 = .ok (.iconst 1, 1) := by decide +kernel
theorem dX4_firstBits_4 : decode cX4_firstBits 4 = .ok (.isub, 1) := by decide +kernel
theorem dX4_firstBits_5 : decode cX4_firstBits 5 = .ok (.ireturn, 1) := by decide +kernel
theorem dX4_leastOf_0 : decode cX4_leastOf 0 = .ok (.iconst 0, 1) := by decide +kernel
theorem dX4_leastOf_1 : decode cX4_leastOf 1 = .ok (.istore_n 1, 1) := by decide +kernel
theorem dX4_leastOf_2 : decode cX4_leastOf 2 = .ok (.iload_n 1, 1) := by decide +kernel
theorem dX4_leastOf_3 : decode cX4_leastOf 3 = .ok (.bipush 12, 2) := by decide +kernel
theorem dX4_leastOf_5 : decode cX4_leastOf 5 = .ok (.if_icmp .ge 20, 3) := by decide +kernel
theorem dX4_leastOf_8 : decode cX4_leastOf 8 = .ok (.iload_n 0, 1) := by decide +kernel
theorem dX4_leastOf_9 : decode cX4_leastOf 9 = .ok (.iload_n 1, 1) := by decide +kernel
theorem dX4_leastOf_10 : decode cX4_leastOf 10 = .ok (.invokestatic 72, 3) := by decide +kernel
theorem dX4_leastOf_13 : decode cX4_leastOf 13 = .ok (.iconst 1, 1) := by decide +kernel
theorem dX4_leastOf_14 : decode cX4_leastOf 14 = .ok (.if_icmp .ne 5, 3) := by decide +kernel
theorem dX4_leastOf_17 : decode cX4_leastOf 17 = .ok (.iload_n 1, 1) := by decide +kernel
theorem dX4_leastOf_18 : decode cX4_leastOf 18 = .ok (.ireturn, 1) := by decide +kernel
theorem dX4_leastOf_19 : decode cX4_leastOf 19 = .ok (.iinc 1 1, 3) := by decide +kernel
theorem dX4_leastOf_22 : decode cX4_leastOf 22 = .ok (.goto (-20), 3) := by decide +kernel
theorem dX4_leastOf_25 : decode cX4_leastOf 25 = .ok (.iconst (-1), 1) := by decide +kernel
theorem dX4_leastOf_26 : decode cX4_leastOf 26 = .ok (.ireturn, 1) := by decide +kernel
theorem dJ6_bitCount_0f7a4_0 : decode cJ6_bitCount_0f7a4 0 = .ok (.iload_n 0, 1) := by decide +kernel
theorem dJ6_bitCount_0f7a4_1 : decode cJ6_bitCount_0f7a4 1 = .ok (.iload_n 0, 1) := by decide +kernel
theorem dJ6_bitCount_0f7a4_2 : decode cJ6_bitCount_0f7a4 2 = .ok (.iconst 1, 1) := by decide +kernel
theorem dJ6_bitCount_0f7a4_3 : decode cJ6_bitCount_0f7a4 3 = .ok (.iushr, 1) := by decide +kernel
theorem dJ6_bitCount_0f7a4_4 : decode cJ6_bitCount_0f7a4 4 = .ok (.ldc_w 265, 3) := by decide +kernel
theorem dJ6_bitCount_0f7a4_7 : decode cJ6_bitCount_0f7a4 7 = .ok (.iand, 1) := by decide +kernel
theorem dJ6_bitCount_0f7a4_8 : decode cJ6_bitCount_0f7a4 8 = .ok (.isub, 1) := by decide +kernel
theorem dJ6_bitCount_0f7a4_9 : decode cJ6_bitCount_0f7a4 9 = .ok (.istore_n 0, 1) := by decide +kernel
theorem dJ6_bitCount_0f7a4_10 : decode cJ6_bitCount_0f7a4 10 = .ok (.iload_n 0, 1) := by decide +kernel
theorem dJ6_bitCount_0f7a4_11 : decode cJ6_bitCount_0f7a4 11 = .ok (.ldc_w 266, 3) := by decide +kernel
theorem dJ6_bitCount_0f7a4_14 : decode cJ6_bitCount_0f7a4 14 = .ok (.iand, 1) := by decide +kernel
theorem dJ6_bitCount_0f7a4_15 : decode cJ6_bitCount_0f7a4 15 = .ok (.iload_n 0, 1) := by decide +kernel
theorem dJ6_bitCount_0f7a4_16 : decode cJ6_bitCount_0f7a4 16 = .ok (.iconst 2, 1) := by decide +kernel
theorem dJ6_bitCount_0f7a4_17 : decode cJ6_bitCount_0f7a4 17 = .ok (.iushr, 1) := by decide +kernel
theorem dJ6_bitCount_0f7a4_18 : decode cJ6_bitCount_0f7a4 18 = .ok (.ldc_w 266, 3) := by decide +kernel
theorem dJ6_bitCount_0f7a4_21 : decode cJ6_bitCount_0f7a4 21 = .ok (.iand, 1) := by decide +kernel
theorem dJ6_bitCount_0f7a4_22 : decode cJ6_bitCount_0f7a4 22 = .ok (.iadd, 1) := by decide +kernel
theorem dJ6_bitCount_0f7a4_23 : decode cJ6_bitCount_0f7a4 23 = .ok (.istore_n 0, 1) := by decide +kernel
theorem dJ6_bitCount_0f7a4_24 : decode cJ6_bitCount_0f7a4 24 = .ok (.iload_n 0, 1) := by decide +kernel
theorem dJ6_bitCount_0f7a4_25 : decode cJ6_bitCount_0f7a4 25 = .ok (.iload_n 0, 1) := by decide +kernel
theorem dJ6_bitCount_0f7a4_26 : decode cJ6_bitCount_0f7a4 26 = .ok (.iconst 4, 1) := by decide +kernel
theorem dJ6_bitCount_0f7a4_27 : decode cJ6_bitCount_0f7a4 27 = .ok (.iushr, 1) := by decide +kernel
theorem dJ6_bitCount_0f7a4_28 : decode cJ6_bitCount_0f7a4 28 = .ok (.iadd, 1) := by decide +kernel
theorem dJ6_bitCount_0f7a4_29 : decode cJ6_bitCount_0f7a4 29 = .ok (.ldc_w 267, 3) := by decide +kernel
theorem dJ6_bitCount_0f7a4_32 : decode cJ6_bitCount_0f7a4 32 = .ok (.iand, 1) := by decide +kernel
theorem dJ6_bitCount_0f7a4_33 : decode cJ6_bitCount_0f7a4 33 = .ok (.istore_n 0, 1) := by decide +kernel
theorem dJ6_bitCount_0f7a4_34 : decode cJ6_bitCount_0f7a4 34 = .ok (.iload_n 0, 1) := by decide +kernel
theorem dJ6_bitCount_0f7a4_35 : decode cJ6_bitCount_0f7a4 35 = .ok (.iload_n 0, 1) := by decide +kernel
theorem dJ6_bitCount_0f7a4_36 : decode cJ6_bitCount_0f7a4 36 = .ok (.bipush 8, 2) := by decide +kernel
theorem dJ6_bitCount_0f7a4_38 : decode cJ6_bitCount_0f7a4 38 = .ok (.iushr, 1) := by decide +kernel
theorem dJ6_bitCount_0f7a4_39 : decode cJ6_bitCount_0f7a4 39 = .ok (.iadd, 1) := by decide +kernel
theorem dJ6_bitCount_0f7a4_40 : decode cJ6_bitCount_0f7a4 40 = .ok (.istore_n 0, 1) := by decide +kernel
theorem dJ6_bitCount_0f7a4_41 : decode cJ6_bitCount_0f7a4 41 = .ok (.iload_n 0, 1) := by decide +kernel
theorem dJ6_bitCount_0f7a4_42 : decode cJ6_bitCount_0f7a4 42 = .ok (.iload_n 0, 1) := by decide +kernel
theorem dJ6_bitCount_0f7a4_43 : decode cJ6_bitCount_0f7a4 43 = .ok (.bipush 16, 2) := by decide +kernel
theorem dJ6_bitCount_0f7a4_45 : decode cJ6_bitCount_0f7a4 45 = .ok (.iushr, 1) := by decide +kernel
theorem dJ6_bitCount_0f7a4_46 : decode cJ6_bitCount_0f7a4 46 = .ok (.iadd, 1) := by decide +kernel
theorem dJ6_bitCount_0f7a4_47 : decode cJ6_bitCount_0f7a4 47 = .ok (.istore_n 0, 1) := by decide +kernel
theorem dJ6_bitCount_0f7a4_48 : decode cJ6_bitCount_0f7a4 48 = .ok (.iload_n 0, 1) := by decide +kernel
theorem dJ6_bitCount_0f7a4_49 : decode cJ6_bitCount_0f7a4 49 = .ok (.bipush 63, 2) := by decide +kernel
theorem dJ6_bitCount_0f7a4_51 : decode cJ6_bitCount_0f7a4 51 = .ok (.iand, 1) := by decide +kernel
theorem dJ6_bitCount_0f7a4_52 : decode cJ6_bitCount_0f7a4 52 = .ok (.ireturn, 1) := by decide +kernel
theorem dJ9_min_7cf53_0 : decode cJ9_min_7cf53 0 = .ok (.iload_n 0, 1) := by decide +kernel
theorem dJ9_min_7cf53_1 : decode cJ9_min_7cf53 1 = .ok (.iload_n 1, 1) := by decide +kernel
theorem dJ9_min_7cf53_2 : decode cJ9_min_7cf53 2 = .ok (.if_icmp .gt 7, 3) := by decide +kernel
theorem dJ9_min_7cf53_5 : decode cJ9_min_7cf53 5 = .ok (.iload_n 0, 1) := by decide +kernel
theorem dJ9_min_7cf53_6 : decode cJ9_min_7cf53 6 = .ok (.goto 4, 3) := by decide +kernel
theorem dJ9_min_7cf53_9 : decode cJ9_min_7cf53 9 = .ok (.iload_n 1, 1) := by decide +kernel
theorem dJ9_min_7cf53_10 : decode cJ9_min_7cf53 10 = .ok (.ireturn, 1) := by decide +kernel
end
section
theorem dX5_init_0 : decode cX5_init 0 = .ok (.aload_n 0, 1) := by decide +kernel
theorem dX5_init_1 : decode cX5_init 1 = .ok (.invokespecial 1, 3) := by decide +kernel
theorem dX5_init_4 : decode cX5_init 4 = .ok (.aload_n 0, 1) := by decide +kernel
theorem dX5_init_5 : decode cX5_init 5 = .ok (.iconst 4, 1) := by decide +kernel
theorem dX5_init_6 : decode cX5_init 6 = .ok (.newarray .int, 2) := by decide +kernel
theorem dX5_init_8 : decode cX5_init 8 = .ok (.putfield 7, 3) := by decide +kernel
theorem dX5_init_11 : decode cX5_init 11 = .ok (.aload_n 0, 1) := by decide +kernel
theorem dX5_init_12 : decode cX5_init 12 = .ok (.iconst 4, 1) := by decide +kernel
theorem dX5_init_13 : decode cX5_init 13 = .ok (.newarray .int, 2) := by decide +kernel
theorem dX5_init_15 : decode cX5_init 15 = .ok (.putfield 13, 3) := by decide +kernel
theorem dX5_init_18 : decode cX5_init 18 = .ok (.aload_n 0, 1) := by decide +kernel
theorem dX5_init_19 : decode cX5_init 19 = .ok (.sipush 240, 3) := by decide +kernel
theorem dX5_init_22 : decode cX5_init 22 = .ok (.newarray .int, 2) := by decide +kernel
theorem dX5_init_24 : decode cX5_init 24 = .ok (.putfield 16, 3) := by decide +kernel
theorem dX5_init_27 : decode cX5_init 27 = .ok (.aload_n 0, 1) := by decide +kernel
theorem dX5_init_28 : decode cX5_init 28 = .ok (.bipush 60, 2) := by decide +kernel
theorem dX5_init_30 : decode cX5_init 30 = .ok (.newarray .int, 2) := by decide +kernel
theorem dX5_init_32 : decode cX5_init 32 = .ok (.putfield 19, 3) := by decide +kernel
theorem dX5_init_35 : decode cX5_init 35 = .ok (.aload_n 0, 1) := by decide +kernel
theorem dX5_init_36 : decode cX5_init 36 = .ok (.bipush 60, 2) := by decide +kernel
theorem dX5_init_38 : decode cX5_init 38 = .ok (.newarray .int, 2) := by decide +kernel
theorem dX5_init_40 : decode cX5_init 40 = .ok (.putfield 22, 3) := by decide +kernel
theorem dX5_init_43 : decode cX5_init 43 = .ok (.aload_n 0, 1) := by decide +kernel
theorem dX5_init_44 : decode cX5_init 44 = .ok (.bipush 36, 2) := by decide +kernel
theorem dX5_init_46 : decode cX5_init 46 = .ok (.newarray .int, 2) := by decide +kernel
theorem dX5_init_48 : decode cX5_init 48 = .ok (.putfield 25, 3) := by decide +kernel
theorem dX5_init_51 : decode cX5_init 51 = .ok (.aload_n 0, 1) := by decide +kernel
theorem dX5_init_52 : decode cX5_init 52 = .ok (.bipush 30, 2) := by decide +kernel
theorem dX5_init_54 : decode cX5_init 54 = .ok (.newarray .int, 2) := by decide +kernel
theorem dX5_init_56 : decode cX5_init 56 = .ok (.putfield 28, 3) := by decide +kernel
theorem dX5_init_59 : decode cX5_init 59 = .ok (.aload_n 0, 1) := by decide +kernel
theorem dX5_init_60 : decode cX5_init 60 = .ok (.bipush 72, 2) := by decide +kernel
theorem dX5_init_62 : decode cX5_init 62 = .ok (.newarray .int, 2) := by decide +kernel
theorem dX5_init_64 : decode cX5_init 64 = .ok (.putfield 31, 3) := by decide +kernel
theorem dX5_init_67 : decode cX5_init 67 = .ok (.aload_n 0, 1) := by decide +kernel
theorem dX5_init_68 : decode cX5_init 68 = .ok (.bipush 15, 2) := by decide +kernel
theorem dX5_init_70 : decode cX5_init 70 = .ok (.newarray .boolean, 2) := by decide +kernel
theorem dX5_init_72 : decode cX5_init 72 = .ok (.putfield 34, 3) := by decide +kernel
theorem dX5_init_75 : decode cX5_init 75 = .ok (.aload_n 0, 1) := by decide +kernel
theorem dX5_init_76 : decode cX5_init 76 = .ok (.bipush 12, 2) := by decide +kernel
theorem dX5_init_78 : decode cX5_init 78 = .ok (.newarray .int, 2) := by decide +kernel
theorem dX5_init_80 : decode cX5_init 80 = .ok (.putfield 38, 3) := by decide +kernel
theorem dX5_init_83 : decode cX5_init 83 = .ok (.aload_n 0, 1) := by decide +kernel
theorem dX5_init_84 : decode cX5_init 84 = .ok (.bipush 16, 2) := by decide +kernel
theorem dX5_init_86 : decode cX5_init 86 = .ok (.newarray .int, 2) := by decide +kernel
theorem dX5_init_88 : decode cX5_init 88 = .ok (.putfield 41, 3) := by decide +kernel
theorem dX5_init_91 : decode cX5_init 91 = .ok (.iconst 0, 1) := by decide +kernel
theorem dX5_init_92 : decode cX5_init 92 = .ok (.istore_n 1, 1) := by decide +kernel
theorem dX5_init_93 : decode cX5_init 93 = .ok (.iload_n 1, 1) := by decide +kernel
theorem dX5_init_94 : decode cX5_init 94 = .ok (.iconst 4, 1) := by decide +kernel
theorem dX5_init_95 : decode cX5_init 95 = .ok (.if_icmp .ge 16, 3) := by decide +kernel
theorem dX5_init_98 : decode cX5_init 98 = .ok (.aload_n 0, 1) := by decide +kernel
theorem dX5_init_99 : decode cX5_init 99 = .ok (.getfield 7, 3) := by decide +kernel
theorem dX5_init_102 : decode cX5_init 102 = .ok (.iload_n 1, 1) := by decide +kernel
theorem dX5_init_103 : decode cX5_init 103 = .ok (.iconst (-1), 1) := by decide +kernel
theorem dX5_init_104 : decode cX5_init 104 = .ok (.iastore, 1) := by decide +kernel
theorem dX5_init_105 : decode cX5_init 105 = .ok (.iinc 1 1, 3) := by decide +kernel
theorem dX5_init_108 : decode cX5_init 108 = .ok (.goto (-15), 3) := by decide +kernel
theorem dX5_init_111 : decode cX5_init 111 = .ok (.return_, 1) := by decide +kernel
theorem dX5_in_0 : decode cX5_in 0 = .ok (.lload_n 0, 1) := by decide +kernel
theorem dX5_in_1 : decode cX5_in 1 = .ok (.lload_n 2, 1) := by decide +kernel
theorem dX5_in_2 : decode cX5_in 2 = .ok (.lcmp, 1) := by decide +kernel
theorem dX5_in_3 : decode cX5_in 3 = .ok (.ifCond .lt 14, 3) := by decide +kernel
theorem dX5_in_6 : decode cX5_in 6 = .ok (.lload_n 0, 1) := by decide +kernel
theorem dX5_in_7 : decode cX5_in 7 = .ok (.lload 4, 2) := by decide +kernel
theorem dX5_in_9 : decode cX5_in 9 = .ok (.lcmp, 1) := by decide +kernel
theorem dX5_in_10 : decode cX5_in 10 = .ok (.ifCond .gt 7, 3) := by decide +kernel
theorem dX5_in_13 : decode cX5_in 13 = .ok (.iconst 1, 1) := by decide +kernel
theorem dX5_in_14 : decode cX5_in 14 = .ok (.goto 4, 3) := by decide +kernel
theorem dX5_in_17 : decode cX5_in 17 = .ok (.iconst 0, 1) := by decide +kernel
theorem dX5_in_18 : decode cX5_in 18 = .ok (.ireturn, 1) := by decide +kernel
theorem dX5_isTwo_0 : decode cX5_isTwo 0 = .ok (.iload_n 0, 1) := by decide +kernel
theorem dX5_isTwo_1 : decode cX5_isTwo 1 = .ok (.i2l, 1) := by decide +kernel
theorem dX5_isTwo_2 : decode cX5_isTwo 2 = .ok (.lconst 0, 1) := by decide +kernel
theorem dX5_isTwo_3 : decode cX5_isTwo 3 = .ok (.lconst 1, 1) := by decide +kernel
theorem dX5_isTwo_4 : decode cX5_isTwo 4 = .ok (.invokestatic 44, 3) := by decide +kernel
theorem dX5_isTwo_7 : decode cX5_isTwo 7 = .ok (.ireturn, 1) := by decide +kernel
theorem dX5_isIn_0 : decode cX5_isIn 0 = .ok (.iload_n 0, 1) := by decide +kernel
theorem dX5_isIn_1 : decode cX5_isIn 1 = .ok (.iload_n 1, 1) := by decide +kernel
theorem dX5_isIn_2 : decode cX5_isIn 2 = .ok (.ishr, 1) := by decide +kernel
theorem dX5_isIn_3 : decode cX5_isIn 3 = .ok (.iconst 1, 1) := by decide +kernel
theorem dX5_isIn_4 : decode cX5_isIn 4 = .ok (.iand, 1) := by decide +kernel
theorem dX5_isIn_5 : decode cX5_isIn 5 = .ok (.iconst 1, 1) := by decide +kernel
theorem dX5_isIn_6 : decode cX5_isIn 6 = .ok (.if_icmp .ne 7, 3) := by decide +kernel
theorem dX5_isIn_9 : decode cX5_isIn 9 = .ok (.iconst 1, 1) := by decide +kernel
theorem dX5_isIn_10 : decode cX5_isIn 10 = .ok (.goto 4, 3) := by decide +kernel
theorem dX5_isIn_13 : decode cX5_isIn 13 = .ok (.iconst 0, 1) := by decide +kernel
theorem dX5_isIn_14 : decode cX5_isIn 14 = .ok (.ireturn, 1) := by decide +kernel
theorem dX5_ones_0 : decode cX5_ones 0 = .ok (.iconst 0, 1) := by decide +kernel
theorem dX5_ones_1 : decode cX5_ones 1 = .ok (.istore_n 1, 1) := by decide +kernel
theorem dX5_ones_2 : decode cX5_ones 2 = .ok (.iload_n 0, 1) := by decide +kernel
theorem dX5_ones_3 : decode cX5_ones 3 = .ok (.istore_n 2, 1) := by decide +kernel
theorem dX5_ones_4 : decode cX5_ones 4 = .ok (.iload_n 2, 1) := by decide +kernel
theorem dX5_ones_5 : decode cX5_ones 5 = .ok (.ifCond .eq 15, 3) := by decide +kernel
theorem dX5_ones_8 : decode cX5_ones 8 = .ok (.iinc 1 1, 3) := by decide +kernel
theorem dX5_ones_11 : decode cX5_ones 11 = .ok (.iload_n 2, 1) := by decide +kernel
theorem dX5_ones_12 : decode cX5_ones 12 = .ok (.iload_n 2, 1) := by decide +kernel
theorem dX5_ones_13 : decode cX5_ones 13 = .ok (.iconst 1, 1) := by decide +kernel
theorem dX5_ones_14 : decode cX5_ones 14 = .ok (.isub, 1) := by decide +kernel
theorem dX5_ones_15 : decode cX5_ones 15 = .ok (.iand, 1) := by decide +kernel
theorem dX5_ones_16 : decode cX5_ones 16 = .ok (.istore_n 2, 1) := by decide +kernel
theorem dX5_ones_17 : decode cX5_ones 17 = .ok (.goto (-13), 3) := by decide +kernel
theorem dX5_ones_20 : decode cX5_ones 20 = .ok (.iload_n 1, 1) := by decide +kernel
theorem dX5_ones_21 : decode cX5_ones 21 = .ok (.ireturn, 1) := by decide +kernel
theorem dX5_met_0 : decode cX5_met 0 = .ok (.aload_n 0, 1) := by decide +kernel
theorem dX5_met_1 : decode cX5_met 1 = .ok (.iload_n 1, 1) := by decide +kernel
theorem dX5_met_2 : decode cX5_met 2 = .ok (.putfield 48, 3) := by decide +kernel
theorem dX5_met_5 : decode cX5_met 5 = .ok (.bipush (-10), 2) := by decide +kernel
theorem dX5_met_7 : decode cX5_met 7 = .ok (.iload_n 1, 1) := by decide +kernel
theorem dX5_met_8 : decode cX5_met 8 = .ok (.isub, 1) := by decide +kernel
theorem dX5_met_9 : decode cX5_met 9 = .ok (.ireturn, 1) := by decide +kernel
theorem dX5_isSheet_0 : decode cX5_isSheet 0 = .ok (.iload_n 0, 1) := by decide +kernel
theorem dX5_isSheet_1 : decode cX5_isSheet 1 = .ok (.i2l, 1) := by decide +kernel
theorem dX5_isSheet_2 : decode cX5_isSheet 2 = .ok (.lconst 0, 1) := by decide +kernel
theorem dX5_isSheet_3 : decode cX5_isSheet 3 = .ok (.ldc2_w 52, 3) := by decide +kernel
theorem dX5_isSheet_6 : decode cX5_isSheet 6 = .ok (.invokestatic 44, 3) := by decide +kernel
theorem dX5_isSheet_9 : decode cX5_isSheet 9 = .ok (.ireturn, 1) := by decide +kernel
theorem dX5_sheet_0 : decode cX5_sheet 0 = .ok (.iload_n 1, 1) := by decide +kernel
theorem dX5_sheet_1 : decode cX5_sheet 1 = .ok (.invokestatic 54, 3) := by decide +kernel
theorem dX5_sheet_4 : decode cX5_sheet 4 = .ok (.ifCond .eq 21, 3) := by decide +kernel
theorem dX5_sheet_7 : decode cX5_sheet 7 = .ok (.iload_n 2, 1) := by decide +kernel
theorem dX5_sheet_8 : decode cX5_sheet 8 = .ok (.i2l, 1) := by decide +kernel
theorem dX5_sheet_9 : decode cX5_sheet 9 = .ok (.lconst 0, 1) := by decide +kernel
theorem dX5_sheet_10 : decode cX5_sheet 10 = .ok (.ldc2_w 58, 3) := by decide +kernel
theorem dX5_sheet_13 : decode cX5_sheet 13 = .ok (.invokestatic 44, 3) := by decide +kernel
theorem dX5_sheet_16 : decode cX5_sheet 16 = .ok (.ifCond .eq 9, 3) := by decide +kernel
theorem dX5_sheet_19 : decode cX5_sheet 19 = .ok (.iload_n 3, 1) := by decide +kernel
theorem dX5_sheet_20 : decode cX5_sheet 20 = .ok (.bipush 60, 2) := by decide +kernel
theorem dX5_sheet_22 : decode cX5_sheet 22 = .ok (.if_icmp .le 6, 3) := by decide +kernel
theorem dX5_sheet_25 : decode cX5_sheet 25 = .ok (.bipush (-2), 2) := by decide +kernel
theorem dX5_sheet_27 : decode cX5_sheet 27 = .ok (.ireturn, 1) := by decide +kernel
theorem dX5_sheet_28 : decode cX5_sheet 28 = .ok (.iload_n 3, 1) := by decide +kernel
theorem dX5_sheet_29 : decode cX5_sheet 29 = .ok (.ifCond .ge 9, 3) := by decide +kernel
theorem dX5_sheet_32 : decode cX5_sheet 32 = .ok (.aload_n 0, 1) := by decide +kernel
theorem dX5_sheet_33 : decode cX5_sheet 33 = .ok (.iconst 5, 1) := by decide +kernel
theorem dX5_sheet_34 : decode cX5_sheet 34 = .ok (.invokevirtual 60, 3) := by decide +kernel
theorem dX5_sheet_37 : decode cX5_sheet 37 = .ok (.ireturn, 1) := by decide +kernel
theorem dX5_sheet_38 : decode cX5_sheet 38 = .ok (.aload_n 0, 1) := by decide +kernel
theorem dX5_sheet_39 : decode cX5_sheet 39 = .ok (.getfield 7, 3) := by decide +kernel
theorem dX5_sheet_42 : decode cX5_sheet 42 = .ok (.iload_n 1, 1) := by decide +kernel
theorem dX5_sheet_43 : decode cX5_sheet 43 = .ok (.iload_n 2, 1) := by decide +kernel
theorem dX5_sheet_44 : decode cX5_sheet 44 = .ok (.iastore, 1) := by decide +kernel
theorem dX5_sheet_45 : decode cX5_sheet 45 = .ok (.aload_n 0, 1) := by decide +kernel
theorem dX5_sheet_46 : decode cX5_sheet 46 = .ok (.getfield 13, 3) := by decide +kernel
theorem dX5_sheet_49 : decode cX5_sheet 49 = .ok (.iload_n 1, 1) := by decide +kernel
theorem dX5_sheet_50 : decode cX5_sheet 50 = .ok (.iload_n 3, 1) := by decide +kernel
theorem dX5_sheet_51 : decode cX5_sheet 51 = .ok (.iastore, 1) := by decide +kernel
theorem dX5_sheet_52 : decode cX5_sheet 52 = .ok (.iconst 0, 1) := by decide +kernel
theorem dX5_sheet_53 : decode cX5_sheet 53 = .ok (.istore 4, 2) := by decide +kernel
theorem dX5_sheet_55 : decode cX5_sheet 55 = .ok (.iload 4, 2) := by decide +kernel
theorem dX5_sheet_57 : decode cX5_sheet 57 = .ok (.iload_n 3, 1) := by decide +kernel
theorem dX5_sheet_58 : decode cX5_sheet 58 = .ok (.if_icmp .ge 22, 3) := by decide +kernel
theorem dX5_sheet_61 : decode cX5_sheet 61 = .ok (.aload_n 0, 1) := by decide +kernel
theorem dX5_sheet_62 : decode cX5_sheet 62 = .ok (.getfield 16, 3) := by decide +kernel
theorem dX5_sheet_65 : decode cX5_sheet 65 = .ok (.bipush 60, 2) := by decide +kernel
theorem dX5_sheet_67 : decode cX5_sheet 67 = .ok (.iload_n 1, 1) := by decide +kernel
theorem dX5_sheet_68 : decode cX5_sheet 68 = .ok (.imul, 1) := by decide +kernel
theorem dX5_sheet_69 : decode cX5_sheet 69 = .ok (.iload 4, 2) := by decide +kernel
theorem dX5_sheet_71 : decode cX5_sheet 71 = .ok (.iadd, 1) := by decide +kernel
theorem dX5_sheet_72 : decode cX5_sheet 72 = .ok (.iconst 0, 1) := by decide +kernel
theorem dX5_sheet_73 : decode cX5_sheet 73 = .ok (.iastore, 1) := by decide +kernel
theorem dX5_sheet_74 : decode cX5_sheet 74 = .ok (.iinc 4 1, 3) := by decide +kernel
theorem dX5_sheet_77 : decode cX5_sheet 77 = .ok (.goto (-22), 3) := by decide +kernel
theorem dX5_sheet_80 : decode cX5_sheet 80 = .ok (.iload_n 3, 1) := by decide +kernel
theorem dX5_sheet_81 : decode cX5_sheet 81 = .ok (.ireturn, 1) := by decide +kernel
theorem dX5_lose_0 : decode cX5_lose 0 = .ok (.iload_n 1, 1) := by decide +kernel
theorem dX5_lose_1 : decode cX5_lose 1 = .ok (.invokestatic 54, 3) := by decide +kernel
theorem dX5_lose_4 : decode cX5_lose 4 = .ok (.ifCond .ne 6, 3) := by decide +kernel
theorem dX5_lose_7 : decode cX5_lose 7 = .ok (.bipush (-2), 2) := by decide +kernel
theorem dX5_lose_9 : decode cX5_lose 9 = .ok (.ireturn, 1) := by decide +kernel
theorem dX5_lose_10 : decode cX5_lose 10 = .ok (.aload_n 0, 1) := by decide +kernel
theorem dX5_lose_11 : decode cX5_lose 11 = .ok (.getfield 7, 3) := by decide +kernel
theorem dX5_lose_14 : decode cX5_lose 14 = .ok (.iload_n 1, 1) := by decide +kernel
theorem dX5_lose_15 : decode cX5_lose 15 = .ok (.iaload, 1) := by decide +kernel
theorem dX5_lose_16 : decode cX5_lose 16 = .ok (.ifCond .ge 9, 3) := by decide +kernel
theorem dX5_lose_19 : decode cX5_lose 19 = .ok (.aload_n 0, 1) := by decide +kernel
theorem dX5_lose_20 : decode cX5_lose 20 = .ok (.iconst 1, 1) := by decide +kernel
theorem dX5_lose_21 : decode cX5_lose 21 = .ok (.invokevirtual 60, 3) := by decide +kernel
theorem dX5_lose_24 : decode cX5_lose 24 = .ok (.ireturn, 1) := by decide +kernel
theorem dX5_lose_25 : decode cX5_lose 25 = .ok (.aload_n 0, 1) := by decide +kernel
theorem dX5_lose_26 : decode cX5_lose 26 = .ok (.getfield 7, 3) := by decide +kernel
theorem dX5_lose_29 : decode cX5_lose 29 = .ok (.iload_n 1, 1) := by decide +kernel
theorem dX5_lose_30 : decode cX5_lose 30 = .ok (.iconst (-1), 1) := by decide +kernel
theorem dX5_lose_31 : decode cX5_lose 31 = .ok (.iastore, 1) := by decide +kernel
theorem dX5_lose_32 : decode cX5_lose 32 = .ok (.aload_n 0, 1) := by decide +kernel
theorem dX5_lose_33 : decode cX5_lose 33 = .ok (.getfield 13, 3) := by decide +kernel
theorem dX5_lose_36 : decode cX5_lose 36 = .ok (.iload_n 1, 1) := by decide +kernel
theorem dX5_lose_37 : decode cX5_lose 37 = .ok (.iaload, 1) := by decide +kernel
theorem dX5_lose_38 : decode cX5_lose 38 = .ok (.ireturn, 1) := by decide +kernel
theorem dX5_lacks_0 : decode cX5_lacks 0 = .ok (.aload_n 0, 1) := by decide +kernel
theorem dX5_lacks_1 : decode cX5_lacks 1 = .ok (.getfield 7, 3) := by decide +kernel
theorem dX5_lacks_4 : decode cX5_lacks 4 = .ok (.iload_n 1, 1) := by decide +kernel
theorem dX5_lacks_5 : decode cX5_lacks 5 = .ok (.iaload, 1) := by decide +kernel
theorem dX5_lacks_6 : decode cX5_lacks 6 = .ok (.ifCond .ge 9, 3) := by decide +kernel
theorem dX5_lacks_9 : decode cX5_lacks 9 = .ok (.aload_n 0, 1) := by decide +kernel
theorem dX5_lacks_10 : decode cX5_lacks 10 = .ok (.iconst 1, 1) := by decide +kernel
theorem dX5_lacks_11 : decode cX5_lacks 11 = .ok (.invokevirtual 60, 3) := by decide +kernel
theorem dX5_lacks_14 : decode cX5_lacks 14 = .ok (.ireturn, 1) := by decide +kernel
theorem dX5_lacks_15 : decode cX5_lacks 15 = .ok (.aload_n 0, 1) := by decide +kernel
theorem dX5_lacks_16 : decode cX5_lacks 16 = .ok (.getfield 7, 3) := by decide +kernel
theorem dX5_lacks_19 : decode cX5_lacks 19 = .ok (.iload_n 1, 1) := by decide +kernel
theorem dX5_lacks_20 : decode cX5_lacks 20 = .ok (.iaload, 1) := by decide +kernel
theorem dX5_lacks_21 : decode cX5_lacks 21 = .ok (.iload_n 2, 1) := by decide +kernel
theorem dX5_lacks_22 : decode cX5_lacks 22 = .ok (.if_icmp .eq 9, 3) := by decide +kernel
theorem dX5_lacks_25 : decode cX5_lacks 25 = .ok (.aload_n 0, 1) := by decide +kernel
theorem dX5_lacks_26 : decode cX5_lacks 26 = .ok (.iconst 3, 1) := by decide +kernel
theorem dX5_lacks_27 : decode cX5_lacks 27 = .ok (.invokevirtual 60, 3) := by decide +kernel
theorem dX5_lacks_30 : decode cX5_lacks 30 = .ok (.ireturn, 1) := by decide +kernel
theorem dX5_lacks_31 : decode cX5_lacks 31 = .ok (.iload_n 3, 1) := by decide +kernel
theorem dX5_lacks_32 : decode cX5_lacks 32 = .ok (.i2l, 1) := by decide +kernel
theorem dX5_lacks_33 : decode cX5_lacks 33 = .ok (.lconst 0, 1) := by decide +kernel
theorem dX5_lacks_34 : decode cX5_lacks 34 = .ok (.aload_n 0, 1) := by decide +kernel
theorem dX5_lacks_35 : decode cX5_lacks 35 = .ok (.getfield 13, 3) := by decide +kernel
theorem dX5_lacks_38 : decode cX5_lacks 38 = .ok (.iload_n 1, 1) := by decide +kernel
theorem dX5_lacks_39 : decode cX5_lacks 39 = .ok (.iaload, 1) := by decide +kernel
theorem dX5_lacks_40 : decode cX5_lacks 40 = .ok (.iconst 1, 1) := by decide +kernel
theorem dX5_lacks_41 : decode cX5_lacks 41 = .ok (.isub, 1) := by decide +kernel
theorem dX5_lacks_42 : decode cX5_lacks 42 = .ok (.i2l, 1) := by decide +kernel
theorem dX5_lacks_43 : decode cX5_lacks 43 = .ok (.invokestatic 44, 3) := by decide +kernel
theorem dX5_lacks_46 : decode cX5_lacks 46 = .ok (.ifCond .eq 7, 3) := by decide +kernel
theorem dX5_lacks_49 : decode cX5_lacks 49 = .ok (.iconst 0, 1) := by decide +kernel
theorem dX5_lacks_50 : decode cX5_lacks 50 = .ok (.goto 8, 3) := by decide +kernel
theorem dX5_lacks_53 : decode cX5_lacks 53 = .ok (.aload_n 0, 1) := by decide +kernel
theorem dX5_lacks_54 : decode cX5_lacks 54 = .ok (.iconst 2, 1) := by decide +kernel
theorem dX5_lacks_55 : decode cX5_lacks 55 = .ok (.invokevirtual 60, 3) := by decide +kernel
theorem dX5_lacks_58 : decode cX5_lacks 58 = .ok (.ireturn, 1) := by decide +kernel
theorem dX5_cut_0 : decode cX5_cut 0 = .ok (.iload_n 0, 1) := by decide +kernel
theorem dX5_cut_1 : decode cX5_cut 1 = .ok (.ifCond .ne 8, 3) := by decide +kernel
theorem dX5_cut_4 : decode cX5_cut 4 = .ok (.iload_n 1, 1) := by decide +kernel
theorem dX5_cut_5 : decode cX5_cut 5 = .ok (.i2b, 1) := by decide +kernel
theorem dX5_cut_6 : decode cX5_cut 6 = .ok (.goto 14, 3) := by decide +kernel
theorem dX5_cut_9 : decode cX5_cut 9 = .ok (.iload_n 0, 1) := by decide +kernel
theorem dX5_cut_10 : decode cX5_cut 10 = .ok (.iconst 1, 1) := by decide +kernel
theorem dX5_cut_11 : decode cX5_cut 11 = .ok (.if_icmp .ne 8, 3) := by decide +kernel
theorem dX5_cut_14 : decode cX5_cut 14 = .ok (.iload_n 1, 1) := by decide +kernel
theorem dX5_cut_15 : decode cX5_cut 15 = .ok (.i2s, 1) := by decide +kernel
theorem dX5_cut_16 : decode cX5_cut 16 = .ok (.goto 4, 3) := by decide +kernel
theorem dX5_cut_19 : decode cX5_cut 19 = .ok (.iload_n 1, 1) := by decide +kernel
theorem dX5_cut_20 : decode cX5_cut 20 = .ok (.ireturn, 1) := by decide +kernel
theorem dX5_lay_0 : decode cX5_lay 0 = .ok (.iload_n 1, 1) := by decide +kernel
theorem dX5_lay_1 : decode cX5_lay 1 = .ok (.invokestatic 54, 3) := by decide +kernel
theorem dX5_lay_4 : decode cX5_lay 4 = .ok (.ifCond .eq 15, 3) := by decide +kernel
theorem dX5_lay_7 : decode cX5_lay 7 = .ok (.iload_n 2, 1) := by decide +kernel
theorem dX5_lay_8 : decode cX5_lay 8 = .ok (.i2l, 1) := by decide +kernel
theorem dX5_lay_9 : decode cX5_lay 9 = .ok (.lconst 0, 1) := by decide +kernel
theorem dX5_lay_10 : decode cX5_lay 10 = .ok (.ldc2_w 58, 3) := by decide +kernel
theorem dX5_lay_13 : decode cX5_lay 13 = .ok (.invokestatic 44, 3) := by decide +kernel
theorem dX5_lay_16 : decode cX5_lay 16 = .ok (.ifCond .ne 6, 3) := by decide +kernel
theorem dX5_lay_19 : decode cX5_lay 19 = .ok (.bipush (-2), 2) := by decide +kernel
theorem dX5_lay_21 : decode cX5_lay 21 = .ok (.ireturn, 1) := by decide +kernel
theorem dX5_lay_22 : decode cX5_lay 22 = .ok (.aload_n 0, 1) := by decide +kernel
theorem dX5_lay_23 : decode cX5_lay 23 = .ok (.iload_n 1, 1) := by decide +kernel
theorem dX5_lay_24 : decode cX5_lay 24 = .ok (.iload_n 2, 1) := by decide +kernel
theorem dX5_lay_25 : decode cX5_lay 25 = .ok (.iload_n 3, 1) := by decide +kernel
theorem dX5_lay_26 : decode cX5_lay 26 = .ok (.invokevirtual 64, 3) := by decide +kernel
theorem dX5_lay_29 : decode cX5_lay 29 = .ok (.istore 5, 2) := by decide +kernel
theorem dX5_lay_31 : decode cX5_lay 31 = .ok (.iload 5, 2) := by decide +kernel
theorem dX5_lay_33 : decode cX5_lay 33 = .ok (.ifCond .eq 6, 3) := by decide +kernel
theorem dX5_lay_36 : decode cX5_lay 36 = .ok (.iload 5, 2) := by decide +kernel
theorem dX5_lay_38 : decode cX5_lay 38 = .ok (.ireturn, 1) := by decide +kernel
theorem dX5_lay_39 : decode cX5_lay 39 = .ok (.aload_n 0, 1) := by decide +kernel
theorem dX5_lay_40 : decode cX5_lay 40 = .ok (.getfield 16, 3) := by decide +kernel
theorem dX5_lay_43 : decode cX5_lay 43 = .ok (.bipush 60, 2) := by decide +kernel
theorem dX5_lay_45 : decode cX5_lay 45 = .ok (.iload_n 1, 1) := by decide +kernel
theorem dX5_lay_46 : decode cX5_lay 46 = .ok (.imul, 1) := by decide +kernel
theorem dX5_lay_47 : decode cX5_lay 47 = .ok (.iload_n 3, 1) := by decide +kernel
theorem dX5_lay_48 : decode cX5_lay 48 = .ok (.iadd, 1) := by decide +kernel
theorem dX5_lay_49 : decode cX5_lay 49 = .ok (.iload_n 2, 1) := by decide +kernel
theorem dX5_lay_50 : decode cX5_lay 50 = .ok (.iload 4, 2) := by decide +kernel
theorem dX5_lay_52 : decode cX5_lay 52 = .ok (.invokestatic 68, 3) := by decide +kernel
theorem dX5_lay_55 : decode cX5_lay 55 = .ok (.iastore, 1) := by decide +kernel
theorem dX5_lay_56 : decode cX5_lay 56 = .ok (.iconst 1, 1) := by decide +kernel
theorem dX5_lay_57 : decode cX5_lay 57 = .ok (.ireturn, 1) := by decide +kernel
theorem dX5_get_0 : decode cX5_get 0 = .ok (.iload_n 1, 1) := by decide +kernel
theorem dX5_get_1 : decode cX5_get 1 = .ok (.invokestatic 54, 3) := by decide +kernel
theorem dX5_get_4 : decode cX5_get 4 = .ok (.ifCond .eq 25, 3) := by decide +kernel
theorem dX5_get_7 : decode cX5_get 7 = .ok (.iload_n 2, 1) := by decide +kernel
theorem dX5_get_8 : decode cX5_get 8 = .ok (.i2l, 1) := by decide +kernel
theorem dX5_get_9 : decode cX5_get 9 = .ok (.lconst 0, 1) := by decide +kernel
theorem dX5_get_10 : decode cX5_get 10 = .ok (.ldc2_w 58, 3) := by decide +kernel
theorem dX5_get_13 : decode cX5_get 13 = .ok (.invokestatic 44, 3) := by decide +kernel
theorem dX5_get_16 : decode cX5_get 16 = .ok (.ifCond .eq 13, 3) := by decide +kernel
theorem dX5_get_19 : decode cX5_get 19 = .ok (.aload_n 0, 1) := by decide +kernel
theorem dX5_get_20 : decode cX5_get 20 = .ok (.iload_n 1, 1) := by decide +kernel
theorem dX5_get_21 : decode cX5_get 21 = .ok (.iload_n 2, 1) := by decide +kernel
theorem dX5_get_22 : decode cX5_get 22 = .ok (.iload_n 3, 1) := by decide +kernel
theorem dX5_get_23 : decode cX5_get 23 = .ok (.invokevirtual 64, 3) := by decide +kernel
theorem dX5_get_26 : decode cX5_get 26 = .ok (.ifCond .eq 6, 3) := by decide +kernel
theorem dX5_get_29 : decode cX5_get 29 = .ok (.ldc 72, 2) := by decide +kernel
theorem dX5_get_31 : decode cX5_get 31 = .ok (.ireturn, 1) := by decide +kernel
theorem dX5_get_32 : decode cX5_get 32 = .ok (.aload_n 0, 1) := by decide +kernel
theorem dX5_get_33 : decode cX5_get 33 = .ok (.getfield 16, 3) := by decide +kernel
theorem dX5_get_36 : decode cX5_get 36 = .ok (.bipush 60, 2) := by decide +kernel
theorem dX5_get_38 : decode cX5_get 38 = .ok (.iload_n 1, 1) := by decide +kernel
theorem dX5_get_39 : decode cX5_get 39 = .ok (.imul, 1) := by decide +kernel
theorem dX5_get_40 : decode cX5_get 40 = .ok (.iload_n 3, 1) := by decide +kernel
theorem dX5_get_41 : decode cX5_get 41 = .ok (.iadd, 1) := by decide +kernel
theorem dX5_get_42 : decode cX5_get 42 = .ok (.iaload, 1) := by decide +kernel
theorem dX5_get_43 : decode cX5_get 43 = .ok (.ireturn, 1) := by decide +kernel
theorem dX5_copy_0 : decode cX5_copy 0 = .ok (.iload_n 1, 1) := by decide +kernel
theorem dX5_copy_1 : decode cX5_copy 1 = .ok (.invokestatic 54, 3) := by decide +kernel
theorem dX5_copy_4 : decode cX5_copy 4 = .ok (.ifCond .eq 10, 3) := by decide +kernel
theorem dX5_copy_7 : decode cX5_copy 7 = .ok (.iload_n 3, 1) := by decide +kernel
theorem dX5_copy_8 : decode cX5_copy 8 = .ok (.invokestatic 54, 3) := by decide +kernel
theorem dX5_copy_11 : decode cX5_copy 11 = .ok (.ifCond .ne 6, 3) := by decide +kernel
theorem dX5_copy_14 : decode cX5_copy 14 = .ok (.bipush (-2), 2) := by decide +kernel
theorem dX5_copy_16 : decode cX5_copy 16 = .ok (.ireturn, 1) := by decide +kernel
theorem dX5_copy_17 : decode cX5_copy 17 = .ok (.aload_n 0, 1) := by decide +kernel
theorem dX5_copy_18 : decode cX5_copy 18 = .ok (.getfield 7, 3) := by decide +kernel
theorem dX5_copy_21 : decode cX5_copy 21 = .ok (.iload_n 1, 1) := by decide +kernel
theorem dX5_copy_22 : decode cX5_copy 22 = .ok (.iaload, 1) := by decide +kernel
theorem dX5_copy_23 : decode cX5_copy 23 = .ok (.ifCond .lt 12, 3) := by decide +kernel
theorem dX5_copy_26 : decode cX5_copy 26 = .ok (.aload_n 0, 1) := by decide +kernel
theorem dX5_copy_27 : decode cX5_copy 27 = .ok (.getfield 7, 3) := by decide +kernel
theorem dX5_copy_30 : decode cX5_copy 30 = .ok (.iload_n 3, 1) := by decide +kernel
theorem dX5_copy_31 : decode cX5_copy 31 = .ok (.iaload, 1) := by decide +kernel
theorem dX5_copy_32 : decode cX5_copy 32 = .ok (.ifCond .ge 9, 3) := by decide +kernel
theorem dX5_copy_35 : decode cX5_copy 35 = .ok (.aload_n 0, 1) := by decide +kernel
theorem dX5_copy_36 : decode cX5_copy 36 = .ok (.iconst 1, 1) := by decide +kernel
theorem dX5_copy_37 : decode cX5_copy 37 = .ok (.invokevirtual 60, 3) := by decide +kernel
theorem dX5_copy_40 : decode cX5_copy 40 = .ok (.ireturn, 1) := by decide +kernel
theorem dX5_copy_41 : decode cX5_copy 41 = .ok (.aload_n 0, 1) := by decide +kernel
theorem dX5_copy_42 : decode cX5_copy 42 = .ok (.getfield 7, 3) := by decide +kernel
theorem dX5_copy_45 : decode cX5_copy 45 = .ok (.iload_n 1, 1) := by decide +kernel
theorem dX5_copy_46 : decode cX5_copy 46 = .ok (.iaload, 1) := by decide +kernel
theorem dX5_copy_47 : decode cX5_copy 47 = .ok (.aload_n 0, 1) := by decide +kernel
theorem dX5_copy_48 : decode cX5_copy 48 = .ok (.getfield 7, 3) := by decide +kernel
theorem dX5_copy_51 : decode cX5_copy 51 = .ok (.iload_n 3, 1) := by decide +kernel
theorem dX5_copy_52 : decode cX5_copy 52 = .ok (.iaload, 1) := by decide +kernel
theorem dX5_copy_53 : decode cX5_copy 53 = .ok (.if_icmp .eq 9, 3) := by decide +kernel
theorem dX5_copy_56 : decode cX5_copy 56 = .ok (.aload_n 0, 1) := by decide +kernel
theorem dX5_copy_57 : decode cX5_copy 57 = .ok (.iconst 4, 1) := by decide +kernel
theorem dX5_copy_58 : decode cX5_copy 58 = .ok (.invokevirtual 60, 3) := by decide +kernel
theorem dX5_copy_61 : decode cX5_copy 61 = .ok (.ireturn, 1) := by decide +kernel
theorem dX5_copy_62 : decode cX5_copy 62 = .ok (.iload_n 2, 1) := by decide +kernel
theorem dX5_copy_63 : decode cX5_copy 63 = .ok (.ifCond .lt 48, 3) := by decide +kernel
theorem dX5_copy_66 : decode cX5_copy 66 = .ok (.iload 4, 2) := by decide +kernel
theorem dX5_copy_68 : decode cX5_copy 68 = .ok (.ifCond .lt 43, 3) := by decide +kernel
theorem dX5_copy_71 : decode cX5_copy 71 = .ok (.iload 5, 2) := by decide +kernel
theorem dX5_copy_73 : decode cX5_copy 73 = .ok (.ifCond .lt 38, 3) := by decide +kernel
theorem dX5_copy_76 : decode cX5_copy 76 = .ok (.iload_n 2, 1) := by decide +kernel
theorem dX5_copy_77 : decode cX5_copy 77 = .ok (.i2l, 1) := by decide +kernel
theorem dX5_copy_78 : decode cX5_copy 78 = .ok (.iload 5, 2) := by decide +kernel
theorem dX5_copy_80 : decode cX5_copy 80 = .ok (.i2l, 1) := by decide +kernel
theorem dX5_copy_81 : decode cX5_copy 81 = .ok (.ladd, 1) := by decide +kernel
theorem dX5_copy_82 : decode cX5_copy 82 = .ok (.aload_n 0, 1) := by decide +kernel
theorem dX5_copy_83 : decode cX5_copy 83 = .ok (.getfield 13, 3) := by decide +kernel
theorem dX5_copy_86 : decode cX5_copy 86 = .ok (.iload_n 1, 1) := by decide +kernel
theorem dX5_copy_87 : decode cX5_copy 87 = .ok (.iaload, 1) := by decide +kernel
theorem dX5_copy_88 : decode cX5_copy 88 = .ok (.i2l, 1) := by decide +kernel
theorem dX5_copy_89 : decode cX5_copy 89 = .ok (.lcmp, 1) := by decide +kernel
theorem dX5_copy_90 : decode cX5_copy 90 = .ok (.ifCond .gt 21, 3) := by decide +kernel
theorem dX5_copy_93 : decode cX5_copy 93 = .ok (.iload 4, 2) := by decide +kernel
theorem dX5_copy_95 : decode cX5_copy 95 = .ok (.i2l, 1) := by decide +kernel
theorem dX5_copy_96 : decode cX5_copy 96 = .ok (.iload 5, 2) := by decide +kernel
theorem dX5_copy_98 : decode cX5_copy 98 = .ok (.i2l, 1) := by decide +kernel
theorem dX5_copy_99 : decode cX5_copy 99 = .ok (.ladd, 1) := by decide +kernel
theorem dX5_copy_100 : decode cX5_copy 100 = .ok (.aload_n 0, 1) := by decide +kernel
theorem dX5_copy_101 : decode cX5_copy 101 = .ok (.getfield 13, 3) := by decide +kernel
theorem dX5_copy_104 : decode cX5_copy 104 = .ok (.iload_n 3, 1) := by decide +kernel
theorem dX5_copy_105 : decode cX5_copy 105 = .ok (.iaload, 1) := by decide +kernel
theorem dX5_copy_106 : decode cX5_copy 106 = .ok (.i2l, 1) := by decide +kernel
theorem dX5_copy_107 : decode cX5_copy 107 = .ok (.lcmp, 1) := by decide +kernel
theorem dX5_copy_108 : decode cX5_copy 108 = .ok (.ifCond .le 9, 3) := by decide +kernel
theorem dX5_copy_111 : decode cX5_copy 111 = .ok (.aload_n 0, 1) := by decide +kernel
theorem dX5_copy_112 : decode cX5_copy 112 = .ok (.iconst 2, 1) := by decide +kernel
theorem dX5_copy_113 : decode cX5_copy 113 = .ok (.invokevirtual 60, 3) := by decide +kernel
theorem dX5_copy_116 : decode cX5_copy 116 = .ok (.ireturn, 1) := by decide +kernel
theorem dX5_copy_117 : decode cX5_copy 117 = .ok (.iconst 0, 1) := by decide +kernel
theorem dX5_copy_118 : decode cX5_copy 118 = .ok (.istore 6, 2) := by decide +kernel
theorem dX5_copy_120 : decode cX5_copy 120 = .ok (.iload 6, 2) := by decide +kernel
theorem dX5_copy_122 : decode cX5_copy 122 = .ok (.iload 5, 2) := by decide +kernel
theorem dX5_copy_124 : decode cX5_copy 124 = .ok (.if_icmp .ge 30, 3) := by decide +kernel
theorem dX5_copy_127 : decode cX5_copy 127 = .ok (.aload_n 0, 1) := by decide +kernel
theorem dX5_copy_128 : decode cX5_copy 128 = .ok (.getfield 19, 3) := by decide +kernel
theorem dX5_copy_131 : decode cX5_copy 131 = .ok (.iload 6, 2) := by decide +kernel
theorem dX5_copy_133 : decode cX5_copy 133 = .ok (.aload_n 0, 1) := by decide +kernel
theorem dX5_copy_134 : decode cX5_copy 134 = .ok (.getfield 16, 3) := by decide +kernel
theorem dX5_copy_137 : decode cX5_copy 137 = .ok (.bipush 60, 2) := by decide +kernel
theorem dX5_copy_139 : decode cX5_copy 139 = .ok (.iload_n 1, 1) := by decide +kernel
theorem dX5_copy_140 : decode cX5_copy 140 = .ok (.imul, 1) := by decide +kernel
theorem dX5_copy_141 : decode cX5_copy 141 = .ok (.iload_n 2, 1) := by decide +kernel
theorem dX5_copy_142 : decode cX5_copy 142 = .ok (.iadd, 1) := by decide +kernel
theorem dX5_copy_143 : decode cX5_copy 143 = .ok (.iload 6, 2) := by decide +kernel
theorem dX5_copy_145 : decode cX5_copy 145 = .ok (.iadd, 1) := by decide +kernel
theorem dX5_copy_146 : decode cX5_copy 146 = .ok (.iaload, 1) := by decide +kernel
theorem dX5_copy_147 : decode cX5_copy 147 = .ok (.iastore, 1) := by decide +kernel
theorem dX5_copy_148 : decode cX5_copy 148 = .ok (.iinc 6 1, 3) := by decide +kernel
theorem dX5_copy_151 : decode cX5_copy 151 = .ok (.goto (-31), 3) := by decide +kernel
theorem dX5_copy_154 : decode cX5_copy 154 = .ok (.iconst 0, 1) := by decide +kernel
theorem dX5_copy_155 : decode cX5_copy 155 = .ok (.istore 6, 2) := by decide +kernel
theorem dX5_copy_157 : decode cX5_copy 157 = .ok (.iload 6, 2) := by decide +kernel
theorem dX5_copy_159 : decode cX5_copy 159 = .ok (.iload 5, 2) := by decide +kernel
theorem dX5_copy_161 : decode cX5_copy 161 = .ok (.if_icmp .ge 31, 3) := by decide +kernel
theorem dX5_copy_164 : decode cX5_copy 164 = .ok (.aload_n 0, 1) := by decide +kernel
theorem dX5_copy_165 : decode cX5_copy 165 = .ok (.getfield 16, 3) := by decide +kernel
theorem dX5_copy_168 : decode cX5_copy 168 = .ok (.bipush 60, 2) := by decide +kernel
theorem dX5_copy_170 : decode cX5_copy 170 = .ok (.iload_n 3, 1) := by decide +kernel
theorem dX5_copy_171 : decode cX5_copy 171 = .ok (.imul, 1) := by decide +kernel
theorem dX5_copy_172 : decode cX5_copy 172 = .ok (.iload 4, 2) := by decide +kernel
theorem dX5_copy_174 : decode cX5_copy 174 = .ok (.iadd, 1) := by decide +kernel
theorem dX5_copy_175 : decode cX5_copy 175 = .ok (.iload 6, 2) := by decide +kernel
theorem dX5_copy_177 : decode cX5_copy 177 = .ok (.iadd, 1) := by decide +kernel
theorem dX5_copy_178 : decode cX5_copy 178 = .ok (.aload_n 0, 1) := by decide +kernel
theorem dX5_copy_179 : decode cX5_copy 179 = .ok (.getfield 19, 3) := by decide +kernel
theorem dX5_copy_182 : decode cX5_copy 182 = .ok (.iload 6, 2) := by decide +kernel
theorem dX5_copy_184 : decode cX5_copy 184 = .ok (.iaload, 1) := by decide +kernel
theorem dX5_copy_185 : decode cX5_copy 185 = .ok (.iastore, 1) := by decide +kernel
theorem dX5_copy_186 : decode cX5_copy 186 = .ok (.iinc 6 1, 3) := by decide +kernel
theorem dX5_copy_189 : decode cX5_copy 189 = .ok (.goto (-32), 3) := by decide +kernel
theorem dX5_copy_192 : decode cX5_copy 192 = .ok (.iconst 1, 1) := by decide +kernel
theorem dX5_copy_193 : decode cX5_copy 193 = .ok (.ireturn, 1) := by decide +kernel
theorem dX5_type_0 : decode cX5_type 0 = .ok (.iload_n 1, 1) := by decide +kernel
theorem dX5_type_1 : decode cX5_type 1 = .ok (.i2l, 1) := by decide +kernel
theorem dX5_type_2 : decode cX5_type 2 = .ok (.lconst 0, 1) := by decide +kernel
theorem dX5_type_3 : decode cX5_type 3 = .ok (.ldc2_w 73, 3) := by decide +kernel
theorem dX5_type_6 : decode cX5_type 6 = .ok (.invokestatic 44, 3) := by decide +kernel
theorem dX5_type_9 : decode cX5_type 9 = .ok (.ifCond .ne 6, 3) := by decide +kernel
theorem dX5_type_12 : decode cX5_type 12 = .ok (.bipush (-2), 2) := by decide +kernel
theorem dX5_type_14 : decode cX5_type 14 = .ok (.ireturn, 1) := by decide +kernel
theorem dX5_type_15 : decode cX5_type 15 = .ok (.aload_n 0, 1) := by decide +kernel
theorem dX5_type_16 : decode cX5_type 16 = .ok (.getfield 75, 3) := by decide +kernel
theorem dX5_type_19 : decode cX5_type 19 = .ok (.bipush 60, 2) := by decide +kernel
theorem dX5_type_21 : decode cX5_type 21 = .ok (.if_icmp .ne 6, 3) := by decide +kernel
theorem dX5_type_24 : decode cX5_type 24 = .ok (.bipush (-4), 2) := by decide +kernel
theorem dX5_type_26 : decode cX5_type 26 = .ok (.ireturn, 1) := by decide +kernel
theorem dX5_type_27 : decode cX5_type 27 = .ok (.aload_n 0, 1) := by decide +kernel
theorem dX5_type_28 : decode cX5_type 28 = .ok (.getfield 22, 3) := by decide +kernel
theorem dX5_type_31 : decode cX5_type 31 = .ok (.aload_n 0, 1) := by decide +kernel
theorem dX5_type_32 : decode cX5_type 32 = .ok (.getfield 75, 3) := by decide +kernel
theorem dX5_type_35 : decode cX5_type 35 = .ok (.iload_n 1, 1) := by decide +kernel
theorem dX5_type_36 : decode cX5_type 36 = .ok (.iastore, 1) := by decide +kernel
theorem dX5_type_37 : decode cX5_type 37 = .ok (.aload_n 0, 1) := by decide +kernel
theorem dX5_type_38 : decode cX5_type 38 = .ok (.dup, 1) := by decide +kernel
theorem dX5_type_39 : decode cX5_type 39 = .ok (.getfield 75, 3) := by decide +kernel
theorem dX5_type_42 : decode cX5_type 42 = .ok (.iconst 1, 1) := by decide +kernel
theorem dX5_type_43 : decode cX5_type 43 = .ok (.iadd, 1) := by decide +kernel
theorem dX5_type_44 : decode cX5_type 44 = .ok (.putfield 75, 3) := by decide +kernel
theorem dX5_type_47 : decode cX5_type 47 = .ok (.aload_n 0, 1) := by decide +kernel
theorem dX5_type_48 : decode cX5_type 48 = .ok (.getfield 75, 3) := by decide +kernel
theorem dX5_type_51 : decode cX5_type 51 = .ok (.ireturn, 1) := by decide +kernel
theorem dX5_wipe_0 : decode cX5_wipe 0 = .ok (.aload_n 0, 1) := by decide +kernel
theorem dX5_wipe_1 : decode cX5_wipe 1 = .ok (.getfield 75, 3) := by decide +kernel
theorem dX5_wipe_4 : decode cX5_wipe 4 = .ok (.istore_n 1, 1) := by decide +kernel
theorem dX5_wipe_5 : decode cX5_wipe 5 = .ok (.aload_n 0, 1) := by decide +kernel
theorem dX5_wipe_6 : decode cX5_wipe 6 = .ok (.iconst 0, 1) := by decide +kernel
theorem dX5_wipe_7 : decode cX5_wipe 7 = .ok (.putfield 75, 3) := by decide +kernel
theorem dX5_wipe_10 : decode cX5_wipe 10 = .ok (.iload_n 1, 1) := by decide +kernel
theorem dX5_wipe_11 : decode cX5_wipe 11 = .ok (.ireturn, 1) := by decide +kernel
theorem dX5_here_0 : decode cX5_here 0 = .ok (.aload_n 0, 1) := by decide +kernel
theorem dX5_here_1 : decode cX5_here 1 = .ok (.getfield 78, 3) := by decide +kernel
theorem dX5_here_4 : decode cX5_here 4 = .ok (.aload_n 0, 1) := by decide +kernel
theorem dX5_here_5 : decode cX5_here 5 = .ok (.getfield 75, 3) := by decide +kernel
theorem dX5_here_8 : decode cX5_here 8 = .ok (.if_icmp .ge 15, 3) := by decide +kernel
theorem dX5_here_11 : decode cX5_here 11 = .ok (.aload_n 0, 1) := by decide +kernel
theorem dX5_here_12 : decode cX5_here 12 = .ok (.getfield 22, 3) := by decide +kernel
theorem dX5_here_15 : decode cX5_here 15 = .ok (.aload_n 0, 1) := by decide +kernel
theorem dX5_here_16 : decode cX5_here 16 = .ok (.getfield 78, 3) := by decide +kernel
theorem dX5_here_19 : decode cX5_here 19 = .ok (.iaload, 1) := by decide +kernel
theorem dX5_here_20 : decode cX5_here 20 = .ok (.goto 4, 3) := by decide +kernel
theorem dX5_here_23 : decode cX5_here 23 = .ok (.iconst (-1), 1) := by decide +kernel
theorem dX5_here_24 : decode cX5_here 24 = .ok (.ireturn, 1) := by decide +kernel
theorem dX5_none_0 : decode cX5_none 0 = .ok (.aload_n 0, 1) := by decide +kernel
theorem dX5_none_1 : decode cX5_none 1 = .ok (.iconst 0, 1) := by decide +kernel
theorem dX5_none_2 : decode cX5_none 2 = .ok (.putfield 81, 3) := by decide +kernel
theorem dX5_none_5 : decode cX5_none 5 = .ok (.aload_n 0, 1) := by decide +kernel
theorem dX5_none_6 : decode cX5_none 6 = .ok (.getfield 78, 3) := by decide +kernel
theorem dX5_none_9 : decode cX5_none 9 = .ok (.ireturn, 1) := by decide +kernel
theorem dX5_readsPart_0 : decode cX5_readsPart 0 = .ok (.aload_n 0, 1) := by decide +kernel
theorem dX5_readsPart_1 : decode cX5_readsPart 1 = .ok (.getfield 81, 3) := by decide +kernel
theorem dX5_readsPart_4 : decode cX5_readsPart 4 = .ok (.bipush 12, 2) := by decide +kernel
theorem dX5_readsPart_6 : decode cX5_readsPart 6 = .ok (.if_icmp .eq 21, 3) := by decide +kernel
theorem dX5_readsPart_9 : decode cX5_readsPart 9 = .ok (.aload_n 0, 1) := by decide +kernel
theorem dX5_readsPart_10 : decode cX5_readsPart 10 = .ok (.invokevirtual 84, 3) := by decide +kernel
theorem dX5_readsPart_13 : decode cX5_readsPart 13 = .ok (.bipush 48, 2) := by decide +kernel
theorem dX5_readsPart_15 : decode cX5_readsPart 15 = .ok (.isub, 1) := by decide +kernel
theorem dX5_readsPart_16 : decode cX5_readsPart 16 = .ok (.i2l, 1) := by decide +kernel
theorem dX5_readsPart_17 : decode cX5_readsPart 17 = .ok (.lconst 0, 1) := by decide +kernel
theorem dX5_readsPart_18 : decode cX5_readsPart 18 = .ok (.ldc2_w 88, 3) := by decide +kernel
theorem dX5_readsPart_21 : decode cX5_readsPart 21 = .ok (.invokestatic 44, 3) := by decide +kernel
theorem dX5_readsPart_24 : decode cX5_readsPart 24 = .ok (.ifCond .ne 5, 3) := by decide +kernel
theorem dX5_readsPart_27 : decode cX5_readsPart 27 = .ok (.iconst 0, 1) := by decide +kernel
theorem dX5_readsPart_28 : decode cX5_readsPart 28 = .ok (.ireturn, 1) := by decide +kernel
theorem dX5_readsPart_29 : decode cX5_readsPart 29 = .ok (.iconst 0, 1) := by decide +kernel
theorem dX5_readsPart_30 : decode cX5_readsPart 30 = .ok (.istore_n 1, 1) := by decide +kernel
theorem dX5_readsPart_31 : decode cX5_readsPart 31 = .ok (.iconst (-1), 1) := by decide +kernel
theorem dX5_readsPart_32 : decode cX5_readsPart 32 = .ok (.istore_n 2, 1) := by decide +kernel
theorem dX5_readsPart_33 : decode cX5_readsPart 33 = .ok (.aload_n 0, 1) := by decide +kernel
theorem dX5_readsPart_34 : decode cX5_readsPart 34 = .ok (.getfield 25, 3) := by decide +kernel
theorem dX5_readsPart_37 : decode cX5_readsPart 37 = .ok (.iconst 3, 1) := by decide +kernel
theorem dX5_readsPart_38 : decode cX5_readsPart 38 = .ok (.aload_n 0, 1) := by decide +kernel
theorem dX5_readsPart_39 : decode cX5_readsPart 39 = .ok (.getfield 81, 3) := by decide +kernel
theorem dX5_readsPart_42 : decode cX5_readsPart 42 = .ok (.imul, 1) := by decide +kernel
theorem dX5_readsPart_43 : decode cX5_readsPart 43 = .ok (.aload_n 0, 1) := by decide +kernel
theorem dX5_readsPart_44 : decode cX5_readsPart 44 = .ok (.invokevirtual 84, 3) := by decide +kernel
theorem dX5_readsPart_47 : decode cX5_readsPart 47 = .ok (.bipush 48, 2) := by decide +kernel
theorem dX5_readsPart_49 : decode cX5_readsPart 49 = .ok (.isub, 1) := by decide +kernel
theorem dX5_readsPart_50 : decode cX5_readsPart 50 = .ok (.iastore, 1) := by decide +kernel
theorem dX5_readsPart_51 : decode cX5_readsPart 51 = .ok (.aload_n 0, 1) := by decide +kernel
theorem dX5_readsPart_52 : decode cX5_readsPart 52 = .ok (.dup, 1) := by decide +kernel
theorem dX5_readsPart_53 : decode cX5_readsPart 53 = .ok (.getfield 78, 3) := by decide +kernel
theorem dX5_readsPart_56 : decode cX5_readsPart 56 = .ok (.iconst 1, 1) := by decide +kernel
theorem dX5_readsPart_57 : decode cX5_readsPart 57 = .ok (.iadd, 1) := by decide +kernel
theorem dX5_readsPart_58 : decode cX5_readsPart 58 = .ok (.putfield 78, 3) := by decide +kernel
theorem dX5_readsPart_61 : decode cX5_readsPart 61 = .ok (.aload_n 0, 1) := by decide +kernel
theorem dX5_readsPart_62 : decode cX5_readsPart 62 = .ok (.invokevirtual 84, 3) := by decide +kernel
theorem dX5_readsPart_65 : decode cX5_readsPart 65 = .ok (.bipush 97, 2) := by decide +kernel
theorem dX5_readsPart_67 : decode cX5_readsPart 67 = .ok (.isub, 1) := by decide +kernel
theorem dX5_readsPart_68 : decode cX5_readsPart 68 = .ok (.i2l, 1) := by decide +kernel
theorem dX5_readsPart_69 : decode cX5_readsPart 69 = .ok (.iload_n 2, 1) := by decide +kernel
theorem dX5_readsPart_70 : decode cX5_readsPart 70 = .ok (.iconst 1, 1) := by decide +kernel
theorem dX5_readsPart_71 : decode cX5_readsPart 71 = .ok (.iadd, 1) := by decide +kernel
theorem dX5_readsPart_72 : decode cX5_readsPart 72 = .ok (.i2l, 1) := by decide +kernel
theorem dX5_readsPart_73 : decode cX5_readsPart 73 = .ok (.aload_n 0, 1) := by decide +kernel
theorem dX5_readsPart_74 : decode cX5_readsPart 74 = .ok (.getfield 81, 3) := by decide +kernel
theorem dX5_readsPart_77 : decode cX5_readsPart 77 = .ok (.iconst 1, 1) := by decide +kernel
theorem dX5_readsPart_78 : decode cX5_readsPart 78 = .ok (.isub, 1) := by decide +kernel
theorem dX5_readsPart_79 : decode cX5_readsPart 79 = .ok (.i2l, 1) := by decide +kernel
theorem dX5_readsPart_80 : decode cX5_readsPart 80 = .ok (.invokestatic 44, 3) := by decide +kernel
theorem dX5_readsPart_83 : decode cX5_readsPart 83 = .ok (.ifCond .eq 38, 3) := by decide +kernel
theorem dX5_readsPart_86 : decode cX5_readsPart 86 = .ok (.iload_n 1, 1) := by decide +kernel
theorem dX5_readsPart_87 : decode cX5_readsPart 87 = .ok (.invokestatic 90, 3) := by decide +kernel
theorem dX5_readsPart_90 : decode cX5_readsPart 90 = .ok (.iconst 3, 1) := by decide +kernel
theorem dX5_readsPart_91 : decode cX5_readsPart 91 = .ok (.if_icmp .ge 30, 3) := by decide +kernel
theorem dX5_readsPart_94 : decode cX5_readsPart 94 = .ok (.aload_n 0, 1) := by decide +kernel
theorem dX5_readsPart_95 : decode cX5_readsPart 95 = .ok (.invokevirtual 84, 3) := by decide +kernel
theorem dX5_readsPart_98 : decode cX5_readsPart 98 = .ok (.bipush 97, 2) := by decide +kernel
theorem dX5_readsPart_100 : decode cX5_readsPart 100 = .ok (.isub, 1) := by decide +kernel
theorem dX5_readsPart_101 : decode cX5_readsPart 101 = .ok (.istore_n 2, 1) := by decide +kernel
theorem dX5_readsPart_102 : decode cX5_readsPart 102 = .ok (.iload_n 1, 1) := by decide +kernel
theorem dX5_readsPart_103 : decode cX5_readsPart 103 = .ok (.iconst 1, 1) := by decide +kernel
theorem dX5_readsPart_104 : decode cX5_readsPart 104 = .ok (.iload_n 2, 1) := by decide +kernel
theorem dX5_readsPart_105 : decode cX5_readsPart 105 = .ok (.ishl, 1) := by decide +kernel
theorem dX5_readsPart_106 : decode cX5_readsPart 106 = .ok (.ior, 1) := by decide +kernel
theorem dX5_readsPart_107 : decode cX5_readsPart 107 = .ok (.istore_n 1, 1) := by decide +kernel
theorem dX5_readsPart_108 : decode cX5_readsPart 108 = .ok (.aload_n 0, 1) := by decide +kernel
theorem dX5_readsPart_109 : decode cX5_readsPart 109 = .ok (.dup, 1) := by decide +kernel
theorem dX5_readsPart_110 : decode cX5_readsPart 110 = .ok (.getfield 78, 3) := by decide +kernel
theorem dX5_readsPart_113 : decode cX5_readsPart 113 = .ok (.iconst 1, 1) := by decide +kernel
theorem dX5_readsPart_114 : decode cX5_readsPart 114 = .ok (.iadd, 1) := by decide +kernel
theorem dX5_readsPart_115 : decode cX5_readsPart 115 = .ok (.putfield 78, 3) := by decide +kernel
theorem dX5_readsPart_118 : decode cX5_readsPart 118 = .ok (.goto (-57), 3) := by decide +kernel
theorem dX5_readsPart_121 : decode cX5_readsPart 121 = .ok (.aload_n 0, 1) := by decide +kernel
theorem dX5_readsPart_122 : decode cX5_readsPart 122 = .ok (.invokevirtual 84, 3) := by decide +kernel
theorem dX5_readsPart_125 : decode cX5_readsPart 125 = .ok (.bipush 33, 2) := by decide +kernel
theorem dX5_readsPart_127 : decode cX5_readsPart 127 = .ok (.if_icmp .ne 7, 3) := by decide +kernel
theorem dX5_readsPart_130 : decode cX5_readsPart 130 = .ok (.iconst 1, 1) := by decide +kernel
theorem dX5_readsPart_131 : decode cX5_readsPart 131 = .ok (.goto 4, 3) := by decide +kernel
theorem dX5_readsPart_134 : decode cX5_readsPart 134 = .ok (.iconst 0, 1) := by decide +kernel
theorem dX5_readsPart_135 : decode cX5_readsPart 135 = .ok (.istore_n 3, 1) := by decide +kernel
theorem dX5_readsPart_136 : decode cX5_readsPart 136 = .ok (.aload_n 0, 1) := by decide +kernel
theorem dX5_readsPart_137 : decode cX5_readsPart 137 = .ok (.dup, 1) := by decide +kernel
theorem dX5_readsPart_138 : decode cX5_readsPart 138 = .ok (.getfield 78, 3) := by decide +kernel
theorem dX5_readsPart_141 : decode cX5_readsPart 141 = .ok (.iload_n 3, 1) := by decide +kernel
theorem dX5_readsPart_142 : decode cX5_readsPart 142 = .ok (.ifCond .eq 7, 3) := by decide +kernel
theorem dX5_readsPart_145 : decode cX5_readsPart 145 = .ok (.iconst 1, 1) := by decide +kernel
theorem dX5_readsPart_146 : decode cX5_readsPart 146 = .ok (.goto 4, 3) := by decide +kernel
theorem dX5_readsPart_149 : decode cX5_readsPart 149 = .ok (.iconst 0, 1) := by decide +kernel
theorem dX5_readsPart_150 : decode cX5_readsPart 150 = .ok (.iadd, 1) := by decide +kernel
theorem dX5_readsPart_151 : decode cX5_readsPart 151 = .ok (.putfield 78, 3) := by decide +kernel
theorem dX5_readsPart_154 : decode cX5_readsPart 154 = .ok (.aload_n 0, 1) := by decide +kernel
theorem dX5_readsPart_155 : decode cX5_readsPart 155 = .ok (.getfield 25, 3) := by decide +kernel
theorem dX5_readsPart_158 : decode cX5_readsPart 158 = .ok (.iconst 3, 1) := by decide +kernel
theorem dX5_readsPart_159 : decode cX5_readsPart 159 = .ok (.aload_n 0, 1) := by decide +kernel
theorem dX5_readsPart_160 : decode cX5_readsPart 160 = .ok (.getfield 81, 3) := by decide +kernel
theorem dX5_readsPart_163 : decode cX5_readsPart 163 = .ok (.imul, 1) := by decide +kernel
theorem dX5_readsPart_164 : decode cX5_readsPart 164 = .ok (.iconst 1, 1) := by decide +kernel
theorem dX5_readsPart_165 : decode cX5_readsPart 165 = .ok (.iadd, 1) := by decide +kernel
theorem dX5_readsPart_166 : decode cX5_readsPart 166 = .ok (.iload_n 1, 1) := by decide +kernel
theorem dX5_readsPart_167 : decode cX5_readsPart 167 = .ok (.iastore, 1) := by decide +kernel
theorem dX5_readsPart_168 : decode cX5_readsPart 168 = .ok (.aload_n 0, 1) := by decide +kernel
theorem dX5_readsPart_169 : decode cX5_readsPart 169 = .ok (.getfield 25, 3) := by decide +kernel
theorem dX5_readsPart_172 : decode cX5_readsPart 172 = .ok (.iconst 3, 1) := by decide +kernel
theorem dX5_readsPart_173 : decode cX5_readsPart 173 = .ok (.aload_n 0, 1) := by decide +kernel
theorem dX5_readsPart_174 : decode cX5_readsPart 174 = .ok (.getfield 81, 3) := by decide +kernel
theorem dX5_readsPart_177 : decode cX5_readsPart 177 = .ok (.imul, 1) := by decide +kernel
theorem dX5_readsPart_178 : decode cX5_readsPart 178 = .ok (.iconst 2, 1) := by decide +kernel
theorem dX5_readsPart_179 : decode cX5_readsPart 179 = .ok (.iadd, 1) := by decide +kernel
theorem dX5_readsPart_180 : decode cX5_readsPart 180 = .ok (.iload_n 3, 1) := by decide +kernel
theorem dX5_readsPart_181 : decode cX5_readsPart 181 = .ok (.ifCond .eq 7, 3) := by decide +kernel
theorem dX5_readsPart_184 : decode cX5_readsPart 184 = .ok (.iconst 1, 1) := by decide +kernel
theorem dX5_readsPart_185 : decode cX5_readsPart 185 = .ok (.goto 4, 3) := by decide +kernel
theorem dX5_readsPart_188 : decode cX5_readsPart 188 = .ok (.iconst 0, 1) := by decide +kernel
theorem dX5_readsPart_189 : decode cX5_readsPart 189 = .ok (.iastore, 1) := by decide +kernel
theorem dX5_readsPart_190 : decode cX5_readsPart 190 = .ok (.aload_n 0, 1) := by decide +kernel
theorem dX5_readsPart_191 : decode cX5_readsPart 191 = .ok (.dup, 1) := by decide +kernel
theorem dX5_readsPart_192 : decode cX5_readsPart 192 = .ok (.getfield 81, 3) := by decide +kernel
theorem dX5_readsPart_195 : decode cX5_readsPart 195 = .ok (.iconst 1, 1) := by decide +kernel
theorem dX5_readsPart_196 : decode cX5_readsPart 196 = .ok (.iadd, 1) := by decide +kernel
theorem dX5_readsPart_197 : decode cX5_readsPart 197 = .ok (.putfield 81, 3) := by decide +kernel
theorem dX5_readsPart_200 : decode cX5_readsPart 200 = .ok (.iconst 1, 1) := by decide +kernel
theorem dX5_readsPart_201 : decode cX5_readsPart 201 = .ok (.ireturn, 1) := by decide +kernel
theorem dX5_reads_0 : decode cX5_reads 0 = .ok (.aload_n 0, 1) := by decide +kernel
theorem dX5_reads_1 : decode cX5_reads 1 = .ok (.iconst 0, 1) := by decide +kernel
theorem dX5_reads_2 : decode cX5_reads 2 = .ok (.putfield 78, 3) := by decide +kernel
theorem dX5_reads_5 : decode cX5_reads 5 = .ok (.aload_n 0, 1) := by decide +kernel
theorem dX5_reads_6 : decode cX5_reads 6 = .ok (.iconst 0, 1) := by decide +kernel
theorem dX5_reads_7 : decode cX5_reads 7 = .ok (.putfield 81, 3) := by decide +kernel
theorem dX5_reads_10 : decode cX5_reads 10 = .ok (.aload_n 0, 1) := by decide +kernel
theorem dX5_reads_11 : decode cX5_reads 11 = .ok (.getfield 75, 3) := by decide +kernel
theorem dX5_reads_14 : decode cX5_reads 14 = .ok (.ifCond .le 7, 3) := by decide +kernel
theorem dX5_reads_17 : decode cX5_reads 17 = .ok (.iconst 1, 1) := by decide +kernel
theorem dX5_reads_18 : decode cX5_reads 18 = .ok (.goto 4, 3) := by decide +kernel
theorem dX5_reads_21 : decode cX5_reads 21 = .ok (.iconst 0, 1) := by decide +kernel
theorem dX5_reads_22 : decode cX5_reads 22 = .ok (.istore_n 1, 1) := by decide +kernel
theorem dX5_reads_23 : decode cX5_reads 23 = .ok (.iload_n 1, 1) := by decide +kernel
theorem dX5_reads_24 : decode cX5_reads 24 = .ok (.ifCond .eq 71, 3) := by decide +kernel
theorem dX5_reads_27 : decode cX5_reads 27 = .ok (.aload_n 0, 1) := by decide +kernel
theorem dX5_reads_28 : decode cX5_reads 28 = .ok (.invokevirtual 93, 3) := by decide +kernel
theorem dX5_reads_31 : decode cX5_reads 31 = .ok (.ifCond .ne 8, 3) := by decide +kernel
theorem dX5_reads_34 : decode cX5_reads 34 = .ok (.aload_n 0, 1) := by decide +kernel
theorem dX5_reads_35 : decode cX5_reads 35 = .ok (.invokevirtual 97, 3) := by decide +kernel
theorem dX5_reads_38 : decode cX5_reads 38 = .ok (.ireturn, 1) := by decide +kernel
theorem dX5_reads_39 : decode cX5_reads 39 = .ok (.aload_n 0, 1) := by decide +kernel
theorem dX5_reads_40 : decode cX5_reads 40 = .ok (.getfield 78, 3) := by decide +kernel
theorem dX5_reads_43 : decode cX5_reads 43 = .ok (.aload_n 0, 1) := by decide +kernel
theorem dX5_reads_44 : decode cX5_reads 44 = .ok (.getfield 75, 3) := by decide +kernel
theorem dX5_reads_47 : decode cX5_reads 47 = .ok (.if_icmp .ge 7, 3) := by decide +kernel
theorem dX5_reads_50 : decode cX5_reads 50 = .ok (.iconst 1, 1) := by decide +kernel
theorem dX5_reads_51 : decode cX5_reads 51 = .ok (.goto 4, 3) := by decide +kernel
theorem dX5_reads_54 : decode cX5_reads 54 = .ok (.iconst 0, 1) := by decide +kernel
theorem dX5_reads_55 : decode cX5_reads 55 = .ok (.istore_n 1, 1) := by decide +kernel
theorem dX5_reads_56 : decode cX5_reads 56 = .ok (.iload_n 1, 1) := by decide +kernel
theorem dX5_reads_57 : decode cX5_reads 57 = .ok (.ifCond .eq 17, 3) := by decide +kernel
theorem dX5_reads_60 : decode cX5_reads 60 = .ok (.aload_n 0, 1) := by decide +kernel
theorem dX5_reads_61 : decode cX5_reads 61 = .ok (.invokevirtual 84, 3) := by decide +kernel
theorem dX5_reads_64 : decode cX5_reads 64 = .ok (.bipush 59, 2) := by decide +kernel
theorem dX5_reads_66 : decode cX5_reads 66 = .ok (.if_icmp .eq 8, 3) := by decide +kernel
theorem dX5_reads_69 : decode cX5_reads 69 = .ok (.aload_n 0, 1) := by decide +kernel
theorem dX5_reads_70 : decode cX5_reads 70 = .ok (.invokevirtual 97, 3) := by decide +kernel
theorem dX5_reads_73 : decode cX5_reads 73 = .ok (.ireturn, 1) := by decide +kernel
theorem dX5_reads_74 : decode cX5_reads 74 = .ok (.aload_n 0, 1) := by decide +kernel
theorem dX5_reads_75 : decode cX5_reads 75 = .ok (.dup, 1) := by decide +kernel
theorem dX5_reads_76 : decode cX5_reads 76 = .ok (.getfield 78, 3) := by decide +kernel
theorem dX5_reads_79 : decode cX5_reads 79 = .ok (.iload_n 1, 1) := by decide +kernel
theorem dX5_reads_80 : decode cX5_reads 80 = .ok (.ifCond .eq 7, 3) := by decide +kernel
theorem dX5_reads_83 : decode cX5_reads 83 = .ok (.iconst 1, 1) := by decide +kernel
theorem dX5_reads_84 : decode cX5_reads 84 = .ok (.goto 4, 3) := by decide +kernel
theorem dX5_reads_87 : decode cX5_reads 87 = .ok (.iconst 0, 1) := by decide +kernel
theorem dX5_reads_88 : decode cX5_reads 88 = .ok (.iadd, 1) := by decide +kernel
theorem dX5_reads_89 : decode cX5_reads 89 = .ok (.putfield 78, 3) := by decide +kernel
theorem dX5_reads_92 : decode cX5_reads 92 = .ok (.goto (-69), 3) := by decide +kernel
theorem dX5_reads_95 : decode cX5_reads 95 = .ok (.iconst (-1), 1) := by decide +kernel
theorem dX5_reads_96 : decode cX5_reads 96 = .ok (.ireturn, 1) := by decide +kernel
theorem dX5_fault_0 : decode cX5_fault 0 = .ok (.aload_n 0, 1) := by decide +kernel
theorem dX5_fault_1 : decode cX5_fault 1 = .ok (.invokevirtual 100, 3) := by decide +kernel
theorem dX5_fault_4 : decode cX5_fault 4 = .ok (.ireturn, 1) := by decide +kernel
theorem dX5_isDeed_0 : decode cX5_isDeed 0 = .ok (.aload_n 0, 1) := by decide +kernel
theorem dX5_isDeed_1 : decode cX5_isDeed 1 = .ok (.invokevirtual 100, 3) := by decide +kernel
theorem dX5_isDeed_4 : decode cX5_isDeed 4 = .ok (.pop, 1) := by decide +kernel
theorem dX5_isDeed_5 : decode cX5_isDeed 5 = .ok (.iload_n 1, 1) := by decide +kernel
theorem dX5_isDeed_6 : decode cX5_isDeed 6 = .ok (.i2l, 1) := by decide +kernel
theorem dX5_isDeed_7 : decode cX5_isDeed 7 = .ok (.lconst 0, 1) := by decide +kernel
theorem dX5_isDeed_8 : decode cX5_isDeed 8 = .ok (.aload_n 0, 1) := by decide +kernel
theorem dX5_isDeed_9 : decode cX5_isDeed 9 = .ok (.getfield 81, 3) := by decide +kernel
theorem dX5_isDeed_12 : decode cX5_isDeed 12 = .ok (.iconst 1, 1) := by decide +kernel
theorem dX5_isDeed_13 : decode cX5_isDeed 13 = .ok (.isub, 1) := by decide +kernel
theorem dX5_isDeed_14 : decode cX5_isDeed 14 = .ok (.i2l, 1) := by decide +kernel
theorem dX5_isDeed_15 : decode cX5_isDeed 15 = .ok (.invokestatic 44, 3) := by decide +kernel
theorem dX5_isDeed_18 : decode cX5_isDeed 18 = .ok (.ireturn, 1) := by decide +kernel
theorem dX5_deed_0 : decode cX5_deed 0 = .ok (.aload_n 0, 1) := by decide +kernel
theorem dX5_deed_1 : decode cX5_deed 1 = .ok (.iload_n 1, 1) := by decide +kernel
theorem dX5_deed_2 : decode cX5_deed 2 = .ok (.invokevirtual 103, 3) := by decide +kernel
theorem dX5_deed_5 : decode cX5_deed 5 = .ok (.ifCond .eq 28, 3) := by decide +kernel
theorem dX5_deed_8 : decode cX5_deed 8 = .ok (.iload_n 2, 1) := by decide +kernel
theorem dX5_deed_9 : decode cX5_deed 9 = .ok (.i2l, 1) := by decide +kernel
theorem dX5_deed_10 : decode cX5_deed 10 = .ok (.lconst 0, 1) := by decide +kernel
theorem dX5_deed_11 : decode cX5_deed 11 = .ok (.ldc2_w 58, 3) := by decide +kernel
theorem dX5_deed_14 : decode cX5_deed 14 = .ok (.invokestatic 44, 3) := by decide +kernel
theorem dX5_deed_17 : decode cX5_deed 17 = .ok (.ifCond .eq 16, 3) := by decide +kernel
theorem dX5_deed_20 : decode cX5_deed 20 = .ok (.aload_n 0, 1) := by decide +kernel
theorem dX5_deed_21 : decode cX5_deed 21 = .ok (.getfield 25, 3) := by decide +kernel
theorem dX5_deed_24 : decode cX5_deed 24 = .ok (.iconst 3, 1) := by decide +kernel
theorem dX5_deed_25 : decode cX5_deed 25 = .ok (.iload_n 1, 1) := by decide +kernel
theorem dX5_deed_26 : decode cX5_deed 26 = .ok (.imul, 1) := by decide +kernel
theorem dX5_deed_27 : decode cX5_deed 27 = .ok (.iload_n 2, 1) := by decide +kernel
theorem dX5_deed_28 : decode cX5_deed 28 = .ok (.iadd, 1) := by decide +kernel
theorem dX5_deed_29 : decode cX5_deed 29 = .ok (.iaload, 1) := by decide +kernel
theorem dX5_deed_30 : decode cX5_deed 30 = .ok (.goto 5, 3) := by decide +kernel
theorem dX5_deed_33 : decode cX5_deed 33 = .ok (.bipush (-2), 2) := by decide +kernel
theorem dX5_deed_35 : decode cX5_deed 35 = .ok (.ireturn, 1) := by decide +kernel
theorem dX5_undoes_0 : decode cX5_undoes 0 = .ok (.iload_n 1, 1) := by decide +kernel
theorem dX5_undoes_1 : decode cX5_undoes 1 = .ok (.i2l, 1) := by decide +kernel
theorem dX5_undoes_2 : decode cX5_undoes 2 = .ok (.lconst 0, 1) := by decide +kernel
theorem dX5_undoes_3 : decode cX5_undoes 3 = .ok (.ldc2_w 88, 3) := by decide +kernel
theorem dX5_undoes_6 : decode cX5_undoes 6 = .ok (.invokestatic 44, 3) := by decide +kernel
theorem dX5_undoes_9 : decode cX5_undoes 9 = .ok (.ifCond .eq 15, 3) := by decide +kernel
theorem dX5_undoes_12 : decode cX5_undoes 12 = .ok (.iload_n 2, 1) := by decide +kernel
theorem dX5_undoes_13 : decode cX5_undoes 13 = .ok (.i2l, 1) := by decide +kernel
theorem dX5_undoes_14 : decode cX5_undoes 14 = .ok (.lconst 0, 1) := by decide +kernel
theorem dX5_undoes_15 : decode cX5_undoes 15 = .ok (.ldc2_w 106, 3) := by decide +kernel
theorem dX5_undoes_18 : decode cX5_undoes 18 = .ok (.invokestatic 44, 3) := by decide +kernel
theorem dX5_undoes_21 : decode cX5_undoes 21 = .ok (.ifCond .ne 6, 3) := by decide +kernel
theorem dX5_undoes_24 : decode cX5_undoes 24 = .ok (.bipush (-2), 2) := by decide +kernel
theorem dX5_undoes_26 : decode cX5_undoes 26 = .ok (.ireturn, 1) := by decide +kernel
theorem dX5_undoes_27 : decode cX5_undoes 27 = .ok (.aload_n 0, 1) := by decide +kernel
theorem dX5_undoes_28 : decode cX5_undoes 28 = .ok (.getfield 108, 3) := by decide +kernel
theorem dX5_undoes_31 : decode cX5_undoes 31 = .ok (.bipush 12, 2) := by decide +kernel
theorem dX5_undoes_33 : decode cX5_undoes 33 = .ok (.if_icmp .ne 6, 3) := by decide +kernel
theorem dX5_undoes_36 : decode cX5_undoes 36 = .ok (.bipush (-4), 2) := by decide +kernel
theorem dX5_undoes_38 : decode cX5_undoes 38 = .ok (.ireturn, 1) := by decide +kernel
theorem dX5_undoes_39 : decode cX5_undoes 39 = .ok (.aload_n 0, 1) := by decide +kernel
theorem dX5_undoes_40 : decode cX5_undoes 40 = .ok (.aload_n 0, 1) := by decide +kernel
theorem dX5_undoes_41 : decode cX5_undoes 41 = .ok (.getfield 108, 3) := by decide +kernel
theorem dX5_undoes_44 : decode cX5_undoes 44 = .ok (.iload_n 1, 1) := by decide +kernel
theorem dX5_undoes_45 : decode cX5_undoes 45 = .ok (.iload_n 2, 1) := by decide +kernel
theorem dX5_undoes_46 : decode cX5_undoes 46 = .ok (.invokevirtual 111, 3) := by decide +kernel
theorem dX5_undoes_49 : decode cX5_undoes 49 = .ok (.aload_n 0, 1) := by decide +kernel
theorem dX5_undoes_50 : decode cX5_undoes 50 = .ok (.dup, 1) := by decide +kernel
theorem dX5_undoes_51 : decode cX5_undoes 51 = .ok (.getfield 108, 3) := by decide +kernel
theorem dX5_undoes_54 : decode cX5_undoes 54 = .ok (.iconst 1, 1) := by decide +kernel
theorem dX5_undoes_55 : decode cX5_undoes 55 = .ok (.iadd, 1) := by decide +kernel
theorem dX5_undoes_56 : decode cX5_undoes 56 = .ok (.putfield 108, 3) := by decide +kernel
theorem dX5_undoes_59 : decode cX5_undoes 59 = .ok (.aload_n 0, 1) := by decide +kernel
theorem dX5_undoes_60 : decode cX5_undoes 60 = .ok (.getfield 108, 3) := by decide +kernel
theorem dX5_undoes_63 : decode cX5_undoes 63 = .ok (.ireturn, 1) := by decide +kernel
theorem dX5_tells_0 : decode cX5_tells 0 = .ok (.aload_n 0, 1) := by decide +kernel
theorem dX5_tells_1 : decode cX5_tells 1 = .ok (.getfield 28, 3) := by decide +kernel
theorem dX5_tells_4 : decode cX5_tells 4 = .ok (.iconst 2, 1) := by decide +kernel
theorem dX5_tells_5 : decode cX5_tells 5 = .ok (.iload_n 1, 1) := by decide +kernel
theorem dX5_tells_6 : decode cX5_tells 6 = .ok (.imul, 1) := by decide +kernel
theorem dX5_tells_7 : decode cX5_tells 7 = .ok (.iload_n 2, 1) := by decide +kernel
theorem dX5_tells_8 : decode cX5_tells 8 = .ok (.iastore, 1) := by decide +kernel
theorem dX5_tells_9 : decode cX5_tells 9 = .ok (.aload_n 0, 1) := by decide +kernel
theorem dX5_tells_10 : decode cX5_tells 10 = .ok (.getfield 28, 3) := by decide +kernel
theorem dX5_tells_13 : decode cX5_tells 13 = .ok (.iconst 2, 1) := by decide +kernel
theorem dX5_tells_14 : decode cX5_tells 14 = .ok (.iload_n 1, 1) := by decide +kernel
theorem dX5_tells_15 : decode cX5_tells 15 = .ok (.imul, 1) := by decide +kernel
theorem dX5_tells_16 : decode cX5_tells 16 = .ok (.iconst 1, 1) := by decide +kernel
theorem dX5_tells_17 : decode cX5_tells 17 = .ok (.iadd, 1) := by decide +kernel
theorem dX5_tells_18 : decode cX5_tells 18 = .ok (.iload_n 3, 1) := by decide +kernel
theorem dX5_tells_19 : decode cX5_tells 19 = .ok (.iastore, 1) := by decide +kernel
theorem dX5_tells_20 : decode cX5_tells 20 = .ok (.return_, 1) := by decide +kernel
theorem dX5_read_0 : decode cX5_read 0 = .ok (.iload_n 1, 1) := by decide +kernel
theorem dX5_read_1 : decode cX5_read 1 = .ok (.invokestatic 54, 3) := by decide +kernel
theorem dX5_read_4 : decode cX5_read 4 = .ok (.ifCond .ne 6, 3) := by decide +kernel
theorem dX5_read_7 : decode cX5_read 7 = .ok (.bipush (-2), 2) := by decide +kernel
theorem dX5_read_9 : decode cX5_read 9 = .ok (.ireturn, 1) := by decide +kernel
theorem dX5_read_10 : decode cX5_read 10 = .ok (.aload_n 0, 1) := by decide +kernel
theorem dX5_read_11 : decode cX5_read 11 = .ok (.getfield 7, 3) := by decide +kernel
theorem dX5_read_14 : decode cX5_read 14 = .ok (.iload_n 1, 1) := by decide +kernel
theorem dX5_read_15 : decode cX5_read 15 = .ok (.iaload, 1) := by decide +kernel
theorem dX5_read_16 : decode cX5_read 16 = .ok (.ifCond .ge 9, 3) := by decide +kernel
theorem dX5_read_19 : decode cX5_read 19 = .ok (.aload_n 0, 1) := by decide +kernel
theorem dX5_read_20 : decode cX5_read 20 = .ok (.iconst 1, 1) := by decide +kernel
theorem dX5_read_21 : decode cX5_read 21 = .ok (.invokevirtual 60, 3) := by decide +kernel
theorem dX5_read_24 : decode cX5_read 24 = .ok (.ireturn, 1) := by decide +kernel
theorem dX5_read_25 : decode cX5_read 25 = .ok (.iconst 0, 1) := by decide +kernel
theorem dX5_read_26 : decode cX5_read 26 = .ok (.istore_n 2, 1) := by decide +kernel
theorem dX5_read_27 : decode cX5_read 27 = .ok (.iconst 1, 1) := by decide +kernel
theorem dX5_read_28 : decode cX5_read 28 = .ok (.istore_n 3, 1) := by decide +kernel
theorem dX5_read_29 : decode cX5_read 29 = .ok (.iload_n 3, 1) := by decide +kernel
theorem dX5_read_30 : decode cX5_read 30 = .ok (.ifCond .eq 73, 3) := by decide +kernel
theorem dX5_read_33 : decode cX5_read 33 = .ok (.iconst 2, 1) := by decide +kernel
theorem dX5_read_34 : decode cX5_read 34 = .ok (.iload_n 2, 1) := by decide +kernel
theorem dX5_read_35 : decode cX5_read 35 = .ok (.imul, 1) := by decide +kernel
theorem dX5_read_36 : decode cX5_read 36 = .ok (.iconst 2, 1) := by decide +kernel
theorem dX5_read_37 : decode cX5_read 37 = .ok (.iadd, 1) := by decide +kernel
theorem dX5_read_38 : decode cX5_read 38 = .ok (.aload_n 0, 1) := by decide +kernel
theorem dX5_read_39 : decode cX5_read 39 = .ok (.getfield 13, 3) := by decide +kernel
theorem dX5_read_42 : decode cX5_read 42 = .ok (.iload_n 1, 1) := by decide +kernel
theorem dX5_read_43 : decode cX5_read 43 = .ok (.iaload, 1) := by decide +kernel
theorem dX5_read_44 : decode cX5_read 44 = .ok (.if_icmp .gt 59, 3) := by decide +kernel
theorem dX5_read_47 : decode cX5_read 47 = .ok (.aload_n 0, 1) := by decide +kernel
theorem dX5_read_48 : decode cX5_read 48 = .ok (.aload_n 0, 1) := by decide +kernel
theorem dX5_read_49 : decode cX5_read 49 = .ok (.getfield 16, 3) := by decide +kernel
theorem dX5_read_52 : decode cX5_read 52 = .ok (.bipush 60, 2) := by decide +kernel
theorem dX5_read_54 : decode cX5_read 54 = .ok (.iload_n 1, 1) := by decide +kernel
theorem dX5_read_55 : decode cX5_read 55 = .ok (.imul, 1) := by decide +kernel
theorem dX5_read_56 : decode cX5_read 56 = .ok (.iconst 2, 1) := by decide +kernel
theorem dX5_read_57 : decode cX5_read 57 = .ok (.iload_n 2, 1) := by decide +kernel
theorem dX5_read_58 : decode cX5_read 58 = .ok (.imul, 1) := by decide +kernel
theorem dX5_read_59 : decode cX5_read 59 = .ok (.iadd, 1) := by decide +kernel
theorem dX5_read_60 : decode cX5_read 60 = .ok (.iaload, 1) := by decide +kernel
theorem dX5_read_61 : decode cX5_read 61 = .ok (.aload_n 0, 1) := by decide +kernel
theorem dX5_read_62 : decode cX5_read 62 = .ok (.getfield 16, 3) := by decide +kernel
theorem dX5_read_65 : decode cX5_read 65 = .ok (.bipush 60, 2) := by decide +kernel
theorem dX5_read_67 : decode cX5_read 67 = .ok (.iload_n 1, 1) := by decide +kernel
theorem dX5_read_68 : decode cX5_read 68 = .ok (.imul, 1) := by decide +kernel
theorem dX5_read_69 : decode cX5_read 69 = .ok (.iconst 2, 1) := by decide +kernel
theorem dX5_read_70 : decode cX5_read 70 = .ok (.iload_n 2, 1) := by decide +kernel
theorem dX5_read_71 : decode cX5_read 71 = .ok (.imul, 1) := by decide +kernel
theorem dX5_read_72 : decode cX5_read 72 = .ok (.iadd, 1) := by decide +kernel
theorem dX5_read_73 : decode cX5_read 73 = .ok (.iconst 1, 1) := by decide +kernel
theorem dX5_read_74 : decode cX5_read 74 = .ok (.iadd, 1) := by decide +kernel
theorem dX5_read_75 : decode cX5_read 75 = .ok (.iaload, 1) := by decide +kernel
theorem dX5_read_76 : decode cX5_read 76 = .ok (.invokevirtual 115, 3) := by decide +kernel
theorem dX5_read_79 : decode cX5_read 79 = .ok (.ifCond .lt 7, 3) := by decide +kernel
theorem dX5_read_82 : decode cX5_read 82 = .ok (.iconst 1, 1) := by decide +kernel
theorem dX5_read_83 : decode cX5_read 83 = .ok (.goto 4, 3) := by decide +kernel
theorem dX5_read_86 : decode cX5_read 86 = .ok (.iconst 0, 1) := by decide +kernel
theorem dX5_read_87 : decode cX5_read 87 = .ok (.istore_n 3, 1) := by decide +kernel
theorem dX5_read_88 : decode cX5_read 88 = .ok (.iload_n 2, 1) := by decide +kernel
theorem dX5_read_89 : decode cX5_read 89 = .ok (.iload_n 3, 1) := by decide +kernel
theorem dX5_read_90 : decode cX5_read 90 = .ok (.ifCond .eq 7, 3) := by decide +kernel
theorem dX5_read_93 : decode cX5_read 93 = .ok (.iconst 1, 1) := by decide +kernel
theorem dX5_read_94 : decode cX5_read 94 = .ok (.goto 4, 3) := by decide +kernel
theorem dX5_read_97 : decode cX5_read 97 = .ok (.iconst 0, 1) := by decide +kernel
theorem dX5_read_98 : decode cX5_read 98 = .ok (.iadd, 1) := by decide +kernel
theorem dX5_read_99 : decode cX5_read 99 = .ok (.istore_n 2, 1) := by decide +kernel
theorem dX5_read_100 : decode cX5_read 100 = .ok (.goto (-71), 3) := by decide +kernel
theorem dX5_read_103 : decode cX5_read 103 = .ok (.iload_n 2, 1) := by decide +kernel
theorem dX5_read_104 : decode cX5_read 104 = .ok (.ireturn, 1) := by decide +kernel
theorem dX5_undo_0 : decode cX5_undo 0 = .ok (.aload_n 0, 1) := by decide +kernel
theorem dX5_undo_1 : decode cX5_undo 1 = .ok (.getfield 108, 3) := by decide +kernel
theorem dX5_undo_4 : decode cX5_undo 4 = .ok (.ifCond .ne 6, 3) := by decide +kernel
theorem dX5_undo_7 : decode cX5_undo 7 = .ok (.bipush (-3), 2) := by decide +kernel
theorem dX5_undo_9 : decode cX5_undo 9 = .ok (.ireturn, 1) := by decide +kernel
theorem dX5_undo_10 : decode cX5_undo 10 = .ok (.aload_n 0, 1) := by decide +kernel
theorem dX5_undo_11 : decode cX5_undo 11 = .ok (.dup, 1) := by decide +kernel
theorem dX5_undo_12 : decode cX5_undo 12 = .ok (.getfield 108, 3) := by decide +kernel
theorem dX5_undo_15 : decode cX5_undo 15 = .ok (.iconst 1, 1) := by decide +kernel
theorem dX5_undo_16 : decode cX5_undo 16 = .ok (.isub, 1) := by decide +kernel
theorem dX5_undo_17 : decode cX5_undo 17 = .ok (.putfield 108, 3) := by decide +kernel
theorem dX5_undo_20 : decode cX5_undo 20 = .ok (.aload_n 0, 1) := by decide +kernel
theorem dX5_undo_21 : decode cX5_undo 21 = .ok (.getfield 108, 3) := by decide +kernel
theorem dX5_undo_24 : decode cX5_undo 24 = .ok (.ireturn, 1) := by decide +kernel
theorem dX5_worth_0 : decode cX5_worth 0 = .ok (.iload_n 1, 1) := by decide +kernel
theorem dX5_worth_1 : decode cX5_worth 1 = .ok (.i2l, 1) := by decide +kernel
theorem dX5_worth_2 : decode cX5_worth 2 = .ok (.lconst 0, 1) := by decide +kernel
theorem dX5_worth_3 : decode cX5_worth 3 = .ok (.ldc2_w 88, 3) := by decide +kernel
theorem dX5_worth_6 : decode cX5_worth 6 = .ok (.invokestatic 44, 3) := by decide +kernel
theorem dX5_worth_9 : decode cX5_worth 9 = .ok (.ifCond .eq 29, 3) := by decide +kernel
theorem dX5_worth_12 : decode cX5_worth 12 = .ok (.iload_n 2, 1) := by decide +kernel
theorem dX5_worth_13 : decode cX5_worth 13 = .ok (.i2l, 1) := by decide +kernel
theorem dX5_worth_14 : decode cX5_worth 14 = .ok (.lconst 0, 1) := by decide +kernel
theorem dX5_worth_15 : decode cX5_worth 15 = .ok (.ldc2_w 118, 3) := by decide +kernel
theorem dX5_worth_18 : decode cX5_worth 18 = .ok (.invokestatic 44, 3) := by decide +kernel
theorem dX5_worth_21 : decode cX5_worth 21 = .ok (.ifCond .eq 17, 3) := by decide +kernel
theorem dX5_worth_24 : decode cX5_worth 24 = .ok (.iload_n 3, 1) := by decide +kernel
theorem dX5_worth_25 : decode cX5_worth 25 = .ok (.i2l, 1) := by decide +kernel
theorem dX5_worth_26 : decode cX5_worth 26 = .ok (.ldc2_w 120, 3) := by decide +kernel
theorem dX5_worth_29 : decode cX5_worth 29 = .ok (.ldc2_w 122, 3) := by decide +kernel
theorem dX5_worth_32 : decode cX5_worth 32 = .ok (.invokestatic 44, 3) := by decide +kernel
theorem dX5_worth_35 : decode cX5_worth 35 = .ok (.ifCond .ne 7, 3) := by decide +kernel
theorem dX5_worth_38 : decode cX5_worth 38 = .ok (.sipush (-1002), 3) := by decide +kernel
theorem dX5_worth_41 : decode cX5_worth 41 = .ok (.ireturn, 1) := by decide +kernel
theorem dX5_worth_42 : decode cX5_worth 42 = .ok (.aload_n 0, 1) := by decide +kernel
theorem dX5_worth_43 : decode cX5_worth 43 = .ok (.getfield 31, 3) := by decide +kernel
theorem dX5_worth_46 : decode cX5_worth 46 = .ok (.bipush 12, 2) := by decide +kernel
theorem dX5_worth_48 : decode cX5_worth 48 = .ok (.iload_n 1, 1) := by decide +kernel
theorem dX5_worth_49 : decode cX5_worth 49 = .ok (.imul, 1) := by decide +kernel
theorem dX5_worth_50 : decode cX5_worth 50 = .ok (.iload_n 2, 1) := by decide +kernel
theorem dX5_worth_51 : decode cX5_worth 51 = .ok (.iadd, 1) := by decide +kernel
theorem dX5_worth_52 : decode cX5_worth 52 = .ok (.iaload, 1) := by decide +kernel
theorem dX5_worth_53 : decode cX5_worth 53 = .ok (.istore 4, 2) := by decide +kernel
theorem dX5_worth_55 : decode cX5_worth 55 = .ok (.aload_n 0, 1) := by decide +kernel
theorem dX5_worth_56 : decode cX5_worth 56 = .ok (.getfield 31, 3) := by decide +kernel
theorem dX5_worth_59 : decode cX5_worth 59 = .ok (.bipush 12, 2) := by decide +kernel
theorem dX5_worth_61 : decode cX5_worth 61 = .ok (.iload_n 1, 1) := by decide +kernel
theorem dX5_worth_62 : decode cX5_worth 62 = .ok (.imul, 1) := by decide +kernel
theorem dX5_worth_63 : decode cX5_worth 63 = .ok (.iload_n 2, 1) := by decide +kernel
theorem dX5_worth_64 : decode cX5_worth 64 = .ok (.iadd, 1) := by decide +kernel
theorem dX5_worth_65 : decode cX5_worth 65 = .ok (.iload_n 3, 1) := by decide +kernel
theorem dX5_worth_66 : decode cX5_worth 66 = .ok (.iastore, 1) := by decide +kernel
theorem dX5_worth_67 : decode cX5_worth 67 = .ok (.iload 4, 2) := by decide +kernel
theorem dX5_worth_69 : decode cX5_worth 69 = .ok (.ireturn, 1) := by decide +kernel
theorem dX5_isLawful_0 : decode cX5_isLawful 0 = .ok (.aload_n 0, 1) := by decide +kernel
theorem dX5_isLawful_1 : decode cX5_isLawful 1 = .ok (.getfield 28, 3) := by decide +kernel
theorem dX5_isLawful_4 : decode cX5_isLawful 4 = .ok (.iconst 2, 1) := by decide +kernel
theorem dX5_isLawful_5 : decode cX5_isLawful 5 = .ok (.iload_n 1, 1) := by decide +kernel
theorem dX5_isLawful_6 : decode cX5_isLawful 6 = .ok (.imul, 1) := by decide +kernel
theorem dX5_isLawful_7 : decode cX5_isLawful 7 = .ok (.iaload, 1) := by decide +kernel
theorem dX5_isLawful_8 : decode cX5_isLawful 8 = .ok (.istore_n 2, 1) := by decide +kernel
theorem dX5_isLawful_9 : decode cX5_isLawful 9 = .ok (.aload_n 0, 1) := by decide +kernel
theorem dX5_isLawful_10 : decode cX5_isLawful 10 = .ok (.getfield 28, 3) := by decide +kernel
theorem dX5_isLawful_13 : decode cX5_isLawful 13 = .ok (.iconst 2, 1) := by decide +kernel
theorem dX5_isLawful_14 : decode cX5_isLawful 14 = .ok (.iload_n 1, 1) := by decide +kernel
theorem dX5_isLawful_15 : decode cX5_isLawful 15 = .ok (.imul, 1) := by decide +kernel
theorem dX5_isLawful_16 : decode cX5_isLawful 16 = .ok (.iconst 1, 1) := by decide +kernel
theorem dX5_isLawful_17 : decode cX5_isLawful 17 = .ok (.iadd, 1) := by decide +kernel
theorem dX5_isLawful_18 : decode cX5_isLawful 18 = .ok (.iaload, 1) := by decide +kernel
theorem dX5_isLawful_19 : decode cX5_isLawful 19 = .ok (.istore_n 3, 1) := by decide +kernel
theorem dX5_isLawful_20 : decode cX5_isLawful 20 = .ok (.aload_n 0, 1) := by decide +kernel
theorem dX5_isLawful_21 : decode cX5_isLawful 21 = .ok (.getfield 124, 3) := by decide +kernel
theorem dX5_isLawful_24 : decode cX5_isLawful 24 = .ok (.iload_n 2, 1) := by decide +kernel
theorem dX5_isLawful_25 : decode cX5_isLawful 25 = .ok (.invokestatic 127, 3) := by decide +kernel
theorem dX5_isLawful_28 : decode cX5_isLawful 28 = .ok (.ifCond .eq 5, 3) := by decide +kernel
theorem dX5_isLawful_31 : decode cX5_isLawful 31 = .ok (.iconst 0, 1) := by decide +kernel
theorem dX5_isLawful_32 : decode cX5_isLawful 32 = .ok (.ireturn, 1) := by decide +kernel
theorem dX5_isLawful_33 : decode cX5_isLawful 33 = .ok (.iload_n 3, 1) := by decide +kernel
theorem dX5_isLawful_34 : decode cX5_isLawful 34 = .ok (.bipush 12, 2) := by decide +kernel
theorem dX5_isLawful_36 : decode cX5_isLawful 36 = .ok (.if_icmp .ge 29, 3) := by decide +kernel
theorem dX5_isLawful_39 : decode cX5_isLawful 39 = .ok (.iload_n 3, 1) := by decide +kernel
theorem dX5_isLawful_40 : decode cX5_isLawful 40 = .ok (.aload_n 0, 1) := by decide +kernel
theorem dX5_isLawful_41 : decode cX5_isLawful 41 = .ok (.getfield 81, 3) := by decide +kernel
theorem dX5_isLawful_44 : decode cX5_isLawful 44 = .ok (.if_icmp .ge 19, 3) := by decide +kernel
theorem dX5_isLawful_47 : decode cX5_isLawful 47 = .ok (.aload_n 0, 1) := by decide +kernel
theorem dX5_isLawful_48 : decode cX5_isLawful 48 = .ok (.getfield 25, 3) := by decide +kernel
theorem dX5_isLawful_51 : decode cX5_isLawful 51 = .ok (.iconst 3, 1) := by decide +kernel
theorem dX5_isLawful_52 : decode cX5_isLawful 52 = .ok (.iload_n 3, 1) := by decide +kernel
theorem dX5_isLawful_53 : decode cX5_isLawful 53 = .ok (.imul, 1) := by decide +kernel
theorem dX5_isLawful_54 : decode cX5_isLawful 54 = .ok (.iaload, 1) := by decide +kernel
theorem dX5_isLawful_55 : decode cX5_isLawful 55 = .ok (.iload_n 2, 1) := by decide +kernel
theorem dX5_isLawful_56 : decode cX5_isLawful 56 = .ok (.if_icmp .eq 7, 3) := by decide +kernel
theorem dX5_isLawful_59 : decode cX5_isLawful 59 = .ok (.iconst 1, 1) := by decide +kernel
theorem dX5_isLawful_60 : decode cX5_isLawful 60 = .ok (.goto 4, 3) := by decide +kernel
theorem dX5_isLawful_63 : decode cX5_isLawful 63 = .ok (.iconst 0, 1) := by decide +kernel
theorem dX5_isLawful_64 : decode cX5_isLawful 64 = .ok (.ireturn, 1) := by decide +kernel
theorem dX5_isLawful_65 : decode cX5_isLawful 65 = .ok (.iload_n 3, 1) := by decide +kernel
theorem dX5_isLawful_66 : decode cX5_isLawful 66 = .ok (.bipush 12, 2) := by decide +kernel
theorem dX5_isLawful_68 : decode cX5_isLawful 68 = .ok (.isub, 1) := by decide +kernel
theorem dX5_isLawful_69 : decode cX5_isLawful 69 = .ok (.istore 4, 2) := by decide +kernel
theorem dX5_isLawful_71 : decode cX5_isLawful 71 = .ok (.iload 4, 2) := by decide +kernel
theorem dX5_isLawful_73 : decode cX5_isLawful 73 = .ok (.iload_n 1, 1) := by decide +kernel
theorem dX5_isLawful_74 : decode cX5_isLawful 74 = .ok (.if_icmp .ge 30, 3) := by decide +kernel
theorem dX5_isLawful_77 : decode cX5_isLawful 77 = .ok (.aload_n 0, 1) := by decide +kernel
theorem dX5_isLawful_78 : decode cX5_isLawful 78 = .ok (.getfield 34, 3) := by decide +kernel
theorem dX5_isLawful_81 : decode cX5_isLawful 81 = .ok (.iload 4, 2) := by decide +kernel
theorem dX5_isLawful_83 : decode cX5_isLawful 83 = .ok (.baload, 1) := by decide +kernel
theorem dX5_isLawful_84 : decode cX5_isLawful 84 = .ok (.ifCond .eq 20, 3) := by decide +kernel
theorem dX5_isLawful_87 : decode cX5_isLawful 87 = .ok (.aload_n 0, 1) := by decide +kernel
theorem dX5_isLawful_88 : decode cX5_isLawful 88 = .ok (.getfield 28, 3) := by decide +kernel
theorem dX5_isLawful_91 : decode cX5_isLawful 91 = .ok (.iconst 2, 1) := by decide +kernel
theorem dX5_isLawful_92 : decode cX5_isLawful 92 = .ok (.iload 4, 2) := by decide +kernel
theorem dX5_isLawful_94 : decode cX5_isLawful 94 = .ok (.imul, 1) := by decide +kernel
theorem dX5_isLawful_95 : decode cX5_isLawful 95 = .ok (.iaload, 1) := by decide +kernel
theorem dX5_isLawful_96 : decode cX5_isLawful 96 = .ok (.iload_n 2, 1) := by decide +kernel
theorem dX5_isLawful_97 : decode cX5_isLawful 97 = .ok (.if_icmp .eq 7, 3) := by decide +kernel
theorem dX5_isLawful_100 : decode cX5_isLawful 100 = .ok (.iconst 1, 1) := by decide +kernel
theorem dX5_isLawful_101 : decode cX5_isLawful 101 = .ok (.goto 4, 3) := by decide +kernel
theorem dX5_isLawful_104 : decode cX5_isLawful 104 = .ok (.iconst 0, 1) := by decide +kernel
theorem dX5_isLawful_105 : decode cX5_isLawful 105 = .ok (.ireturn, 1) := by decide +kernel
theorem dX5_judges_0 : decode cX5_judges 0 = .ok (.aload_n 0, 1) := by decide +kernel
theorem dX5_judges_1 : decode cX5_judges 1 = .ok (.iconst 0, 1) := by decide +kernel
theorem dX5_judges_2 : decode cX5_judges 2 = .ok (.putfield 131, 3) := by decide +kernel
theorem dX5_judges_5 : decode cX5_judges 5 = .ok (.aload_n 0, 1) := by decide +kernel
theorem dX5_judges_6 : decode cX5_judges 6 = .ok (.iconst (-1), 1) := by decide +kernel
theorem dX5_judges_7 : decode cX5_judges 7 = .ok (.putfield 134, 3) := by decide +kernel
theorem dX5_judges_10 : decode cX5_judges 10 = .ok (.aload_n 0, 1) := by decide +kernel
theorem dX5_judges_11 : decode cX5_judges 11 = .ok (.iconst 0, 1) := by decide +kernel
theorem dX5_judges_12 : decode cX5_judges 12 = .ok (.putfield 124, 3) := by decide +kernel
theorem dX5_judges_15 : decode cX5_judges 15 = .ok (.iconst 0, 1) := by decide +kernel
theorem dX5_judges_16 : decode cX5_judges 16 = .ok (.istore_n 3, 1) := by decide +kernel
theorem dX5_judges_17 : decode cX5_judges 17 = .ok (.iload_n 3, 1) := by decide +kernel
theorem dX5_judges_18 : decode cX5_judges 18 = .ok (.iload_n 1, 1) := by decide +kernel
theorem dX5_judges_19 : decode cX5_judges 19 = .ok (.if_icmp .ge 117, 3) := by decide +kernel
theorem dX5_judges_22 : decode cX5_judges 22 = .ok (.aload_n 0, 1) := by decide +kernel
theorem dX5_judges_23 : decode cX5_judges 23 = .ok (.getfield 34, 3) := by decide +kernel
theorem dX5_judges_26 : decode cX5_judges 26 = .ok (.iload_n 3, 1) := by decide +kernel
theorem dX5_judges_27 : decode cX5_judges 27 = .ok (.iload_n 3, 1) := by decide +kernel
theorem dX5_judges_28 : decode cX5_judges 28 = .ok (.iload_n 2, 1) := by decide +kernel
theorem dX5_judges_29 : decode cX5_judges 29 = .ok (.if_icmp .eq 15, 3) := by decide +kernel
theorem dX5_judges_32 : decode cX5_judges 32 = .ok (.aload_n 0, 1) := by decide +kernel
theorem dX5_judges_33 : decode cX5_judges 33 = .ok (.iload_n 3, 1) := by decide +kernel
theorem dX5_judges_34 : decode cX5_judges 34 = .ok (.invokevirtual 137, 3) := by decide +kernel
theorem dX5_judges_37 : decode cX5_judges 37 = .ok (.ifCond .eq 7, 3) := by decide +kernel
theorem dX5_judges_40 : decode cX5_judges 40 = .ok (.iconst 1, 1) := by decide +kernel
theorem dX5_judges_41 : decode cX5_judges 41 = .ok (.goto 4, 3) := by decide +kernel
theorem dX5_judges_44 : decode cX5_judges 44 = .ok (.iconst 0, 1) := by decide +kernel
theorem dX5_judges_45 : decode cX5_judges 45 = .ok (.bastore, 1) := by decide +kernel
theorem dX5_judges_46 : decode cX5_judges 46 = .ok (.aload_n 0, 1) := by decide +kernel
theorem dX5_judges_47 : decode cX5_judges 47 = .ok (.dup, 1) := by decide +kernel
theorem dX5_judges_48 : decode cX5_judges 48 = .ok (.getfield 124, 3) := by decide +kernel
theorem dX5_judges_51 : decode cX5_judges 51 = .ok (.aload_n 0, 1) := by decide +kernel
theorem dX5_judges_52 : decode cX5_judges 52 = .ok (.getfield 34, 3) := by decide +kernel
theorem dX5_judges_55 : decode cX5_judges 55 = .ok (.iload_n 3, 1) := by decide +kernel
theorem dX5_judges_56 : decode cX5_judges 56 = .ok (.baload, 1) := by decide +kernel
theorem dX5_judges_57 : decode cX5_judges 57 = .ok (.ifCond .eq 16, 3) := by decide +kernel
theorem dX5_judges_60 : decode cX5_judges 60 = .ok (.iconst 1, 1) := by decide +kernel
theorem dX5_judges_61 : decode cX5_judges 61 = .ok (.aload_n 0, 1) := by decide +kernel
theorem dX5_judges_62 : decode cX5_judges 62 = .ok (.getfield 28, 3) := by decide +kernel
theorem dX5_judges_65 : decode cX5_judges 65 = .ok (.iconst 2, 1) := by decide +kernel
theorem dX5_judges_66 : decode cX5_judges 66 = .ok (.iload_n 3, 1) := by decide +kernel
theorem dX5_judges_67 : decode cX5_judges 67 = .ok (.imul, 1) := by decide +kernel
theorem dX5_judges_68 : decode cX5_judges 68 = .ok (.iaload, 1) := by decide +kernel
theorem dX5_judges_69 : decode cX5_judges 69 = .ok (.ishl, 1) := by decide +kernel
theorem dX5_judges_70 : decode cX5_judges 70 = .ok (.goto 4, 3) := by decide +kernel
theorem dX5_judges_73 : decode cX5_judges 73 = .ok (.iconst 0, 1) := by decide +kernel
theorem dX5_judges_74 : decode cX5_judges 74 = .ok (.ior, 1) := by decide +kernel
theorem dX5_judges_75 : decode cX5_judges 75 = .ok (.putfield 124, 3) := by decide +kernel
theorem dX5_judges_78 : decode cX5_judges 78 = .ok (.aload_n 0, 1) := by decide +kernel
theorem dX5_judges_79 : decode cX5_judges 79 = .ok (.dup, 1) := by decide +kernel
theorem dX5_judges_80 : decode cX5_judges 80 = .ok (.getfield 131, 3) := by decide +kernel
theorem dX5_judges_83 : decode cX5_judges 83 = .ok (.aload_n 0, 1) := by decide +kernel
theorem dX5_judges_84 : decode cX5_judges 84 = .ok (.getfield 34, 3) := by decide +kernel
theorem dX5_judges_87 : decode cX5_judges 87 = .ok (.iload_n 3, 1) := by decide +kernel
theorem dX5_judges_88 : decode cX5_judges 88 = .ok (.baload, 1) := by decide +kernel
theorem dX5_judges_89 : decode cX5_judges 89 = .ok (.ifCond .eq 7, 3) := by decide +kernel
theorem dX5_judges_92 : decode cX5_judges 92 = .ok (.iconst 0, 1) := by decide +kernel
theorem dX5_judges_93 : decode cX5_judges 93 = .ok (.goto 4, 3) := by decide +kernel
theorem dX5_judges_96 : decode cX5_judges 96 = .ok (.iconst 1, 1) := by decide +kernel
theorem dX5_judges_97 : decode cX5_judges 97 = .ok (.iadd, 1) := by decide +kernel
theorem dX5_judges_98 : decode cX5_judges 98 = .ok (.putfield 131, 3) := by decide +kernel
theorem dX5_judges_101 : decode cX5_judges 101 = .ok (.aload_n 0, 1) := by decide +kernel
theorem dX5_judges_102 : decode cX5_judges 102 = .ok (.aload_n 0, 1) := by decide +kernel
theorem dX5_judges_103 : decode cX5_judges 103 = .ok (.getfield 134, 3) := by decide +kernel
theorem dX5_judges_106 : decode cX5_judges 106 = .ok (.iconst (-1), 1) := by decide +kernel
theorem dX5_judges_107 : decode cX5_judges 107 = .ok (.if_icmp .ne 16, 3) := by decide +kernel
theorem dX5_judges_110 : decode cX5_judges 110 = .ok (.aload_n 0, 1) := by decide +kernel
theorem dX5_judges_111 : decode cX5_judges 111 = .ok (.getfield 34, 3) := by decide +kernel
theorem dX5_judges_114 : decode cX5_judges 114 = .ok (.iload_n 3, 1) := by decide +kernel
theorem dX5_judges_115 : decode cX5_judges 115 = .ok (.baload, 1) := by decide +kernel
theorem dX5_judges_116 : decode cX5_judges 116 = .ok (.ifCond .ne 7, 3) := by decide +kernel
theorem dX5_judges_119 : decode cX5_judges 119 = .ok (.iload_n 3, 1) := by decide +kernel
theorem dX5_judges_120 : decode cX5_judges 120 = .ok (.goto 7, 3) := by decide +kernel
theorem dX5_judges_123 : decode cX5_judges 123 = .ok (.aload_n 0, 1) := by decide +kernel
theorem dX5_judges_124 : decode cX5_judges 124 = .ok (.getfield 134, 3) := by decide +kernel
theorem dX5_judges_127 : decode cX5_judges 127 = .ok (.putfield 134, 3) := by decide +kernel
theorem dX5_judges_130 : decode cX5_judges 130 = .ok (.iinc 3 1, 3) := by decide +kernel
theorem dX5_judges_133 : decode cX5_judges 133 = .ok (.goto (-116), 3) := by decide +kernel
theorem dX5_judges_136 : decode cX5_judges 136 = .ok (.return_, 1) := by decide +kernel
theorem dX5_find_0 : decode cX5_find 0 = .ok (.aload_n 0, 1) := by decide +kernel
theorem dX5_find_1 : decode cX5_find 1 = .ok (.invokevirtual 100, 3) := by decide +kernel
theorem dX5_find_4 : decode cX5_find 4 = .ok (.pop, 1) := by decide +kernel
theorem dX5_find_5 : decode cX5_find 5 = .ok (.aload_n 0, 1) := by decide +kernel
theorem dX5_find_6 : decode cX5_find 6 = .ok (.aload_n 0, 1) := by decide +kernel
theorem dX5_find_7 : decode cX5_find 7 = .ok (.getfield 108, 3) := by decide +kernel
theorem dX5_find_10 : decode cX5_find 10 = .ok (.iconst (-1), 1) := by decide +kernel
theorem dX5_find_11 : decode cX5_find 11 = .ok (.invokevirtual 140, 3) := by decide +kernel
theorem dX5_find_14 : decode cX5_find 14 = .ok (.return_, 1) := by decide +kernel
theorem dX5_judged_0 : decode cX5_judged 0 = .ok (.aload_n 0, 1) := by decide +kernel
theorem dX5_judged_1 : decode cX5_judged 1 = .ok (.invokevirtual 144, 3) := by decide +kernel
theorem dX5_judged_4 : decode cX5_judged 4 = .ok (.aload_n 0, 1) := by decide +kernel
theorem dX5_judged_5 : decode cX5_judged 5 = .ok (.getfield 134, 3) := by decide +kernel
theorem dX5_judged_8 : decode cX5_judged 8 = .ok (.ireturn, 1) := by decide +kernel
theorem dX5_holding_0 : decode cX5_holding 0 = .ok (.iconst 0, 1) := by decide +kernel
theorem dX5_holding_1 : decode cX5_holding 1 = .ok (.istore_n 2, 1) := by decide +kernel
theorem dX5_holding_2 : decode cX5_holding 2 = .ok (.iconst 0, 1) := by decide +kernel
theorem dX5_holding_3 : decode cX5_holding 3 = .ok (.istore_n 3, 1) := by decide +kernel
theorem dX5_holding_4 : decode cX5_holding 4 = .ok (.iload_n 1, 1) := by decide +kernel
theorem dX5_holding_5 : decode cX5_holding 5 = .ok (.iconst 1, 1) := by decide +kernel
theorem dX5_holding_6 : decode cX5_holding 6 = .ok (.isub, 1) := by decide +kernel
theorem dX5_holding_7 : decode cX5_holding 7 = .ok (.istore 4, 2) := by decide +kernel
theorem dX5_holding_9 : decode cX5_holding 9 = .ok (.iload 4, 2) := by decide +kernel
theorem dX5_holding_11 : decode cX5_holding 11 = .ok (.ifCond .lt 74, 3) := by decide +kernel
theorem dX5_holding_14 : decode cX5_holding 14 = .ok (.aload_n 0, 1) := by decide +kernel
theorem dX5_holding_15 : decode cX5_holding 15 = .ok (.getfield 34, 3) := by decide +kernel
theorem dX5_holding_18 : decode cX5_holding 18 = .ok (.iload 4, 2) := by decide +kernel
theorem dX5_holding_20 : decode cX5_holding 20 = .ok (.baload, 1) := by decide +kernel
theorem dX5_holding_21 : decode cX5_holding 21 = .ok (.ifCond .eq 58, 3) := by decide +kernel
theorem dX5_holding_24 : decode cX5_holding 24 = .ok (.iload_n 2, 1) := by decide +kernel
theorem dX5_holding_25 : decode cX5_holding 25 = .ok (.iload 4, 2) := by decide +kernel
theorem dX5_holding_27 : decode cX5_holding 27 = .ok (.invokestatic 127, 3) := by decide +kernel
theorem dX5_holding_30 : decode cX5_holding 30 = .ok (.ifCond .ne 49, 3) := by decide +kernel
theorem dX5_holding_33 : decode cX5_holding 33 = .ok (.iload_n 3, 1) := by decide +kernel
theorem dX5_holding_34 : decode cX5_holding 34 = .ok (.iconst 1, 1) := by decide +kernel
theorem dX5_holding_35 : decode cX5_holding 35 = .ok (.iload 4, 2) := by decide +kernel
theorem dX5_holding_37 : decode cX5_holding 37 = .ok (.ishl, 1) := by decide +kernel
theorem dX5_holding_38 : decode cX5_holding 38 = .ok (.ior, 1) := by decide +kernel
theorem dX5_holding_39 : decode cX5_holding 39 = .ok (.istore_n 3, 1) := by decide +kernel
theorem dX5_holding_40 : decode cX5_holding 40 = .ok (.iload_n 2, 1) := by decide +kernel
theorem dX5_holding_41 : decode cX5_holding 41 = .ok (.aload_n 0, 1) := by decide +kernel
theorem dX5_holding_42 : decode cX5_holding 42 = .ok (.getfield 28, 3) := by decide +kernel
theorem dX5_holding_45 : decode cX5_holding 45 = .ok (.iconst 2, 1) := by decide +kernel
theorem dX5_holding_46 : decode cX5_holding 46 = .ok (.iload 4, 2) := by decide +kernel
theorem dX5_holding_48 : decode cX5_holding 48 = .ok (.imul, 1) := by decide +kernel
theorem dX5_holding_49 : decode cX5_holding 49 = .ok (.iconst 1, 1) := by decide +kernel
theorem dX5_holding_50 : decode cX5_holding 50 = .ok (.iadd, 1) := by decide +kernel
theorem dX5_holding_51 : decode cX5_holding 51 = .ok (.iaload, 1) := by decide +kernel
theorem dX5_holding_52 : decode cX5_holding 52 = .ok (.bipush 12, 2) := by decide +kernel
theorem dX5_holding_54 : decode cX5_holding 54 = .ok (.if_icmp .ge 7, 3) := by decide +kernel
theorem dX5_holding_57 : decode cX5_holding 57 = .ok (.iconst 0, 1) := by decide +kernel
theorem dX5_holding_58 : decode cX5_holding 58 = .ok (.goto 19, 3) := by decide +kernel
theorem dX5_holding_61 : decode cX5_holding 61 = .ok (.iconst 1, 1) := by decide +kernel
theorem dX5_holding_62 : decode cX5_holding 62 = .ok (.aload_n 0, 1) := by decide +kernel
theorem dX5_holding_63 : decode cX5_holding 63 = .ok (.getfield 28, 3) := by decide +kernel
theorem dX5_holding_66 : decode cX5_holding 66 = .ok (.iconst 2, 1) := by decide +kernel
theorem dX5_holding_67 : decode cX5_holding 67 = .ok (.iload 4, 2) := by decide +kernel
theorem dX5_holding_69 : decode cX5_holding 69 = .ok (.imul, 1) := by decide +kernel
theorem dX5_holding_70 : decode cX5_holding 70 = .ok (.iconst 1, 1) := by decide +kernel
theorem dX5_holding_71 : decode cX5_holding 71 = .ok (.iadd, 1) := by decide +kernel
theorem dX5_holding_72 : decode cX5_holding 72 = .ok (.iaload, 1) := by decide +kernel
theorem dX5_holding_73 : decode cX5_holding 73 = .ok (.bipush 12, 2) := by decide +kernel
theorem dX5_holding_75 : decode cX5_holding 75 = .ok (.isub, 1) := by decide +kernel
theorem dX5_holding_76 : decode cX5_holding 76 = .ok (.ishl, 1) := by decide +kernel
theorem dX5_holding_77 : decode cX5_holding 77 = .ok (.ior, 1) := by decide +kernel
theorem dX5_holding_78 : decode cX5_holding 78 = .ok (.istore_n 2, 1) := by decide +kernel
theorem dX5_holding_79 : decode cX5_holding 79 = .ok (.iinc 4 (-1), 3) := by decide +kernel
theorem dX5_holding_82 : decode cX5_holding 82 = .ok (.goto (-73), 3) := by decide +kernel
theorem dX5_holding_85 : decode cX5_holding 85 = .ok (.iload_n 3, 1) := by decide +kernel
theorem dX5_holding_86 : decode cX5_holding 86 = .ok (.ireturn, 1) := by decide +kernel
theorem dX5_struck_0 : decode cX5_struck 0 = .ok (.aload_n 0, 1) := by decide +kernel
theorem dX5_struck_1 : decode cX5_struck 1 = .ok (.iload_n 1, 1) := by decide +kernel
theorem dX5_struck_2 : decode cX5_struck 2 = .ok (.invokevirtual 147, 3) := by decide +kernel
theorem dX5_struck_5 : decode cX5_struck 5 = .ok (.istore_n 2, 1) := by decide +kernel
theorem dX5_struck_6 : decode cX5_struck 6 = .ok (.iconst 0, 1) := by decide +kernel
theorem dX5_struck_7 : decode cX5_struck 7 = .ok (.istore_n 3, 1) := by decide +kernel
theorem dX5_struck_8 : decode cX5_struck 8 = .ok (.iconst 0, 1) := by decide +kernel
theorem dX5_struck_9 : decode cX5_struck 9 = .ok (.istore 4, 2) := by decide +kernel
theorem dX5_struck_11 : decode cX5_struck 11 = .ok (.iload 4, 2) := by decide +kernel
theorem dX5_struck_13 : decode cX5_struck 13 = .ok (.iload_n 1, 1) := by decide +kernel
theorem dX5_struck_14 : decode cX5_struck 14 = .ok (.if_icmp .ge 54, 3) := by decide +kernel
theorem dX5_struck_17 : decode cX5_struck 17 = .ok (.iload_n 3, 1) := by decide +kernel
theorem dX5_struck_18 : decode cX5_struck 18 = .ok (.iload_n 2, 1) := by decide +kernel
theorem dX5_struck_19 : decode cX5_struck 19 = .ok (.iload 4, 2) := by decide +kernel
theorem dX5_struck_21 : decode cX5_struck 21 = .ok (.invokestatic 127, 3) := by decide +kernel
theorem dX5_struck_24 : decode cX5_struck 24 = .ok (.ifCond .eq 35, 3) := by decide +kernel
theorem dX5_struck_27 : decode cX5_struck 27 = .ok (.aload_n 0, 1) := by decide +kernel
theorem dX5_struck_28 : decode cX5_struck 28 = .ok (.getfield 28, 3) := by decide +kernel
theorem dX5_struck_31 : decode cX5_struck 31 = .ok (.iconst 2, 1) := by decide +kernel
theorem dX5_struck_32 : decode cX5_struck 32 = .ok (.iload 4, 2) := by decide +kernel
theorem dX5_struck_34 : decode cX5_struck 34 = .ok (.imul, 1) := by decide +kernel
theorem dX5_struck_35 : decode cX5_struck 35 = .ok (.iconst 1, 1) := by decide +kernel
theorem dX5_struck_36 : decode cX5_struck 36 = .ok (.iadd, 1) := by decide +kernel
theorem dX5_struck_37 : decode cX5_struck 37 = .ok (.iaload, 1) := by decide +kernel
theorem dX5_struck_38 : decode cX5_struck 38 = .ok (.bipush 12, 2) := by decide +kernel
theorem dX5_struck_40 : decode cX5_struck 40 = .ok (.if_icmp .ge 19, 3) := by decide +kernel
theorem dX5_struck_43 : decode cX5_struck 43 = .ok (.iconst 1, 1) := by decide +kernel
theorem dX5_struck_44 : decode cX5_struck 44 = .ok (.aload_n 0, 1) := by decide +kernel
theorem dX5_struck_45 : decode cX5_struck 45 = .ok (.getfield 28, 3) := by decide +kernel
theorem dX5_struck_48 : decode cX5_struck 48 = .ok (.iconst 2, 1) := by decide +kernel
theorem dX5_struck_49 : decode cX5_struck 49 = .ok (.iload 4, 2) := by decide +kernel
theorem dX5_struck_51 : decode cX5_struck 51 = .ok (.imul, 1) := by decide +kernel
theorem dX5_struck_52 : decode cX5_struck 52 = .ok (.iconst 1, 1) := by decide +kernel
theorem dX5_struck_53 : decode cX5_struck 53 = .ok (.iadd, 1) := by decide +kernel
theorem dX5_struck_54 : decode cX5_struck 54 = .ok (.iaload, 1) := by decide +kernel
theorem dX5_struck_55 : decode cX5_struck 55 = .ok (.ishl, 1) := by decide +kernel
theorem dX5_struck_56 : decode cX5_struck 56 = .ok (.goto 4, 3) := by decide +kernel
theorem dX5_struck_59 : decode cX5_struck 59 = .ok (.iconst 0, 1) := by decide +kernel
theorem dX5_struck_60 : decode cX5_struck 60 = .ok (.ior, 1) := by decide +kernel
theorem dX5_struck_61 : decode cX5_struck 61 = .ok (.istore_n 3, 1) := by decide +kernel
theorem dX5_struck_62 : decode cX5_struck 62 = .ok (.iinc 4 1, 3) := by decide +kernel
theorem dX5_struck_65 : decode cX5_struck 65 = .ok (.goto (-54), 3) := by decide +kernel
theorem dX5_struck_68 : decode cX5_struck 68 = .ok (.iload_n 3, 1) := by decide +kernel
theorem dX5_struck_69 : decode cX5_struck 69 = .ok (.ireturn, 1) := by decide +kernel
theorem dX5_standing_0 : decode cX5_standing 0 = .ok (.aload_n 0, 1) := by decide +kernel
theorem dX5_standing_1 : decode cX5_standing 1 = .ok (.iload_n 1, 1) := by decide +kernel
theorem dX5_standing_2 : decode cX5_standing 2 = .ok (.invokevirtual 150, 3) := by decide +kernel
theorem dX5_standing_5 : decode cX5_standing 5 = .ok (.istore_n 2, 1) := by decide +kernel
theorem dX5_standing_6 : decode cX5_standing 6 = .ok (.iconst 0, 1) := by decide +kernel
theorem dX5_standing_7 : decode cX5_standing 7 = .ok (.istore_n 3, 1) := by decide +kernel
theorem dX5_standing_8 : decode cX5_standing 8 = .ok (.iload_n 3, 1) := by decide +kernel
theorem dX5_standing_9 : decode cX5_standing 9 = .ok (.aload_n 0, 1) := by decide +kernel
theorem dX5_standing_10 : decode cX5_standing 10 = .ok (.getfield 81, 3) := by decide +kernel
theorem dX5_standing_13 : decode cX5_standing 13 = .ok (.if_icmp .ge 47, 3) := by decide +kernel
theorem dX5_standing_16 : decode cX5_standing 16 = .ok (.iload_n 2, 1) := by decide +kernel
theorem dX5_standing_17 : decode cX5_standing 17 = .ok (.aload_n 0, 1) := by decide +kernel
theorem dX5_standing_18 : decode cX5_standing 18 = .ok (.getfield 25, 3) := by decide +kernel
theorem dX5_standing_21 : decode cX5_standing 21 = .ok (.iconst 3, 1) := by decide +kernel
theorem dX5_standing_22 : decode cX5_standing 22 = .ok (.iload_n 3, 1) := by decide +kernel
theorem dX5_standing_23 : decode cX5_standing 23 = .ok (.imul, 1) := by decide +kernel
theorem dX5_standing_24 : decode cX5_standing 24 = .ok (.iconst 2, 1) := by decide +kernel
theorem dX5_standing_25 : decode cX5_standing 25 = .ok (.iadd, 1) := by decide +kernel
theorem dX5_standing_26 : decode cX5_standing 26 = .ok (.iaload, 1) := by decide +kernel
theorem dX5_standing_27 : decode cX5_standing 27 = .ok (.ifCond .ne 24, 3) := by decide +kernel
theorem dX5_standing_30 : decode cX5_standing 30 = .ok (.aload_n 0, 1) := by decide +kernel
theorem dX5_standing_31 : decode cX5_standing 31 = .ok (.getfield 25, 3) := by decide +kernel
theorem dX5_standing_34 : decode cX5_standing 34 = .ok (.iconst 3, 1) := by decide +kernel
theorem dX5_standing_35 : decode cX5_standing 35 = .ok (.iload_n 3, 1) := by decide +kernel
theorem dX5_standing_36 : decode cX5_standing 36 = .ok (.imul, 1) := by decide +kernel
theorem dX5_standing_37 : decode cX5_standing 37 = .ok (.iconst 1, 1) := by decide +kernel
theorem dX5_standing_38 : decode cX5_standing 38 = .ok (.iadd, 1) := by decide +kernel
theorem dX5_standing_39 : decode cX5_standing 39 = .ok (.iaload, 1) := by decide +kernel
theorem dX5_standing_40 : decode cX5_standing 40 = .ok (.iload_n 2, 1) := by decide +kernel
theorem dX5_standing_41 : decode cX5_standing 41 = .ok (.iand, 1) := by decide +kernel
theorem dX5_standing_42 : decode cX5_standing 42 = .ok (.ifCond .eq 9, 3) := by decide +kernel
theorem dX5_standing_45 : decode cX5_standing 45 = .ok (.iconst 1, 1) := by decide +kernel
theorem dX5_standing_46 : decode cX5_standing 46 = .ok (.iload_n 3, 1) := by decide +kernel
theorem dX5_standing_47 : decode cX5_standing 47 = .ok (.ishl, 1) := by decide +kernel
theorem dX5_standing_48 : decode cX5_standing 48 = .ok (.goto 4, 3) := by decide +kernel
theorem dX5_standing_51 : decode cX5_standing 51 = .ok (.iconst 0, 1) := by decide +kernel
theorem dX5_standing_52 : decode cX5_standing 52 = .ok (.ior, 1) := by decide +kernel
theorem dX5_standing_53 : decode cX5_standing 53 = .ok (.istore_n 2, 1) := by decide +kernel
theorem dX5_standing_54 : decode cX5_standing 54 = .ok (.iinc 3 1, 3) := by decide +kernel
theorem dX5_standing_57 : decode cX5_standing 57 = .ok (.goto (-49), 3) := by decide +kernel
theorem dX5_standing_60 : decode cX5_standing 60 = .ok (.iconst 1, 1) := by decide +kernel
theorem dX5_standing_61 : decode cX5_standing 61 = .ok (.aload_n 0, 1) := by decide +kernel
theorem dX5_standing_62 : decode cX5_standing 62 = .ok (.getfield 81, 3) := by decide +kernel
theorem dX5_standing_65 : decode cX5_standing 65 = .ok (.ishl, 1) := by decide +kernel
theorem dX5_standing_66 : decode cX5_standing 66 = .ok (.iconst 1, 1) := by decide +kernel
theorem dX5_standing_67 : decode cX5_standing 67 = .ok (.isub, 1) := by decide +kernel
theorem dX5_standing_68 : decode cX5_standing 68 = .ok (.iload_n 2, 1) := by decide +kernel
theorem dX5_standing_69 : decode cX5_standing 69 = .ok (.iconst (-1), 1) := by decide +kernel
theorem dX5_standing_70 : decode cX5_standing 70 = .ok (.ixor, 1) := by decide +kernel
theorem dX5_standing_71 : decode cX5_standing 71 = .ok (.iand, 1) := by decide +kernel
theorem dX5_standing_72 : decode cX5_standing 72 = .ok (.ireturn, 1) := by decide +kernel
theorem dX5_holds_0 : decode cX5_holds 0 = .ok (.aload_n 0, 1) := by decide +kernel
theorem dX5_holds_1 : decode cX5_holds 1 = .ok (.invokevirtual 144, 3) := by decide +kernel
theorem dX5_holds_4 : decode cX5_holds 4 = .ok (.iload_n 1, 1) := by decide +kernel
theorem dX5_holds_5 : decode cX5_holds 5 = .ok (.i2l, 1) := by decide +kernel
theorem dX5_holds_6 : decode cX5_holds 6 = .ok (.lconst 0, 1) := by decide +kernel
theorem dX5_holds_7 : decode cX5_holds 7 = .ok (.aload_n 0, 1) := by decide +kernel
theorem dX5_holds_8 : decode cX5_holds 8 = .ok (.getfield 108, 3) := by decide +kernel
theorem dX5_holds_11 : decode cX5_holds 11 = .ok (.iconst 1, 1) := by decide +kernel
theorem dX5_holds_12 : decode cX5_holds 12 = .ok (.isub, 1) := by decide +kernel
theorem dX5_holds_13 : decode cX5_holds 13 = .ok (.i2l, 1) := by decide +kernel
theorem dX5_holds_14 : decode cX5_holds 14 = .ok (.invokestatic 44, 3) := by decide +kernel
theorem dX5_holds_17 : decode cX5_holds 17 = .ok (.ifCond .eq 18, 3) := by decide +kernel
theorem dX5_holds_20 : decode cX5_holds 20 = .ok (.aload_n 0, 1) := by decide +kernel
theorem dX5_holds_21 : decode cX5_holds 21 = .ok (.aload_n 0, 1) := by decide +kernel
theorem dX5_holds_22 : decode cX5_holds 22 = .ok (.getfield 108, 3) := by decide +kernel
theorem dX5_holds_25 : decode cX5_holds 25 = .ok (.invokevirtual 147, 3) := by decide +kernel
theorem dX5_holds_28 : decode cX5_holds 28 = .ok (.iload_n 1, 1) := by decide +kernel
theorem dX5_holds_29 : decode cX5_holds 29 = .ok (.ishr, 1) := by decide +kernel
theorem dX5_holds_30 : decode cX5_holds 30 = .ok (.iconst 1, 1) := by decide +kernel
theorem dX5_holds_31 : decode cX5_holds 31 = .ok (.iand, 1) := by decide +kernel
theorem dX5_holds_32 : decode cX5_holds 32 = .ok (.goto 5, 3) := by decide +kernel
theorem dX5_holds_35 : decode cX5_holds 35 = .ok (.bipush (-2), 2) := by decide +kernel
theorem dX5_holds_37 : decode cX5_holds 37 = .ok (.ireturn, 1) := by decide +kernel
theorem dX5_stateOf_0 : decode cX5_stateOf 0 = .ok (.aload_n 0, 1) := by decide +kernel
theorem dX5_stateOf_1 : decode cX5_stateOf 1 = .ok (.iload_n 1, 1) := by decide +kernel
theorem dX5_stateOf_2 : decode cX5_stateOf 2 = .ok (.iconst (-1), 1) := by decide +kernel
theorem dX5_stateOf_3 : decode cX5_stateOf 3 = .ok (.invokevirtual 140, 3) := by decide +kernel
theorem dX5_stateOf_6 : decode cX5_stateOf 6 = .ok (.iload_n 2, 1) := by decide +kernel
theorem dX5_stateOf_7 : decode cX5_stateOf 7 = .ok (.ifCond .ne 11, 3) := by decide +kernel
theorem dX5_stateOf_10 : decode cX5_stateOf 10 = .ok (.aload_n 0, 1) := by decide +kernel
theorem dX5_stateOf_11 : decode cX5_stateOf 11 = .ok (.iload_n 1, 1) := by decide +kernel
theorem dX5_stateOf_12 : decode cX5_stateOf 12 = .ok (.invokevirtual 153, 3) := by decide +kernel
theorem dX5_stateOf_15 : decode cX5_stateOf 15 = .ok (.goto 12, 3) := by decide +kernel
theorem dX5_stateOf_18 : decode cX5_stateOf 18 = .ok (.bipush 63, 2) := by decide +kernel
theorem dX5_stateOf_20 : decode cX5_stateOf 20 = .ok (.aload_n 0, 1) := by decide +kernel
theorem dX5_stateOf_21 : decode cX5_stateOf 21 = .ok (.getfield 124, 3) := by decide +kernel
theorem dX5_stateOf_24 : decode cX5_stateOf 24 = .ok (.iconst (-1), 1) := by decide +kernel
theorem dX5_stateOf_25 : decode cX5_stateOf 25 = .ok (.ixor, 1) := by decide +kernel
theorem dX5_stateOf_26 : decode cX5_stateOf 26 = .ok (.iand, 1) := by decide +kernel
theorem dX5_stateOf_27 : decode cX5_stateOf 27 = .ok (.ireturn, 1) := by decide +kernel
theorem dX5_state_0 : decode cX5_state 0 = .ok (.aload_n 0, 1) := by decide +kernel
theorem dX5_state_1 : decode cX5_state 1 = .ok (.invokevirtual 100, 3) := by decide +kernel
theorem dX5_state_4 : decode cX5_state 4 = .ok (.pop, 1) := by decide +kernel
theorem dX5_state_5 : decode cX5_state 5 = .ok (.iload_n 1, 1) := by decide +kernel
theorem dX5_state_6 : decode cX5_state 6 = .ok (.i2l, 1) := by decide +kernel
theorem dX5_state_7 : decode cX5_state 7 = .ok (.lconst 0, 1) := by decide +kernel
theorem dX5_state_8 : decode cX5_state 8 = .ok (.aload_n 0, 1) := by decide +kernel
theorem dX5_state_9 : decode cX5_state 9 = .ok (.getfield 108, 3) := by decide +kernel
theorem dX5_state_12 : decode cX5_state 12 = .ok (.i2l, 1) := by decide +kernel
theorem dX5_state_13 : decode cX5_state 13 = .ok (.invokestatic 44, 3) := by decide +kernel
theorem dX5_state_16 : decode cX5_state 16 = .ok (.ifCond .eq 19, 3) := by decide +kernel
theorem dX5_state_19 : decode cX5_state 19 = .ok (.iload_n 2, 1) := by decide +kernel
theorem dX5_state_20 : decode cX5_state 20 = .ok (.invokestatic 156, 3) := by decide +kernel
theorem dX5_state_23 : decode cX5_state 23 = .ok (.ifCond .eq 12, 3) := by decide +kernel
theorem dX5_state_26 : decode cX5_state 26 = .ok (.aload_n 0, 1) := by decide +kernel
theorem dX5_state_27 : decode cX5_state 27 = .ok (.iload_n 1, 1) := by decide +kernel
theorem dX5_state_28 : decode cX5_state 28 = .ok (.iload_n 2, 1) := by decide +kernel
theorem dX5_state_29 : decode cX5_state 29 = .ok (.invokevirtual 159, 3) := by decide +kernel
theorem dX5_state_32 : decode cX5_state 32 = .ok (.goto 5, 3) := by decide +kernel
theorem dX5_state_35 : decode cX5_state 35 = .ok (.bipush (-2), 2) := by decide +kernel
theorem dX5_state_37 : decode cX5_state 37 = .ok (.ireturn, 1) := by decide +kernel
theorem dX5_rootOf_0 : decode cX5_rootOf 0 = .ok (.aload_n 0, 1) := by decide +kernel
theorem dX5_rootOf_1 : decode cX5_rootOf 1 = .ok (.aload_n 0, 1) := by decide +kernel
theorem dX5_rootOf_2 : decode cX5_rootOf 2 = .ok (.getfield 108, 3) := by decide +kernel
theorem dX5_rootOf_5 : decode cX5_rootOf 5 = .ok (.invokevirtual 150, 3) := by decide +kernel
theorem dX5_rootOf_8 : decode cX5_rootOf 8 = .ok (.istore_n 2, 1) := by decide +kernel
theorem dX5_rootOf_9 : decode cX5_rootOf 9 = .ok (.iconst 0, 1) := by decide +kernel
theorem dX5_rootOf_10 : decode cX5_rootOf 10 = .ok (.istore_n 3, 1) := by decide +kernel
theorem dX5_rootOf_11 : decode cX5_rootOf 11 = .ok (.iload_n 3, 1) := by decide +kernel
theorem dX5_rootOf_12 : decode cX5_rootOf 12 = .ok (.iload_n 1, 1) := by decide +kernel
theorem dX5_rootOf_13 : decode cX5_rootOf 13 = .ok (.if_icmp .gt 127, 3) := by decide +kernel
theorem dX5_rootOf_16 : decode cX5_rootOf 16 = .ok (.iload_n 2, 1) := by decide +kernel
theorem dX5_rootOf_17 : decode cX5_rootOf 17 = .ok (.iload_n 3, 1) := by decide +kernel
theorem dX5_rootOf_18 : decode cX5_rootOf 18 = .ok (.invokestatic 127, 3) := by decide +kernel
theorem dX5_rootOf_21 : decode cX5_rootOf 21 = .ok (.ifCond .eq 7, 3) := by decide +kernel
theorem dX5_rootOf_24 : decode cX5_rootOf 24 = .ok (.iload_n 3, 1) := by decide +kernel
theorem dX5_rootOf_25 : decode cX5_rootOf 25 = .ok (.goto 5, 3) := by decide +kernel
theorem dX5_rootOf_28 : decode cX5_rootOf 28 = .ok (.bipush 12, 2) := by decide +kernel
theorem dX5_rootOf_30 : decode cX5_rootOf 30 = .ok (.istore 4, 2) := by decide +kernel
theorem dX5_rootOf_32 : decode cX5_rootOf 32 = .ok (.iconst 0, 1) := by decide +kernel
theorem dX5_rootOf_33 : decode cX5_rootOf 33 = .ok (.istore 5, 2) := by decide +kernel
theorem dX5_rootOf_35 : decode cX5_rootOf 35 = .ok (.iload 5, 2) := by decide +kernel
theorem dX5_rootOf_37 : decode cX5_rootOf 37 = .ok (.iload_n 3, 1) := by decide +kernel
theorem dX5_rootOf_38 : decode cX5_rootOf 38 = .ok (.if_icmp .ge 77, 3) := by decide +kernel
theorem dX5_rootOf_41 : decode cX5_rootOf 41 = .ok (.aload_n 0, 1) := by decide +kernel
theorem dX5_rootOf_42 : decode cX5_rootOf 42 = .ok (.getfield 25, 3) := by decide +kernel
theorem dX5_rootOf_45 : decode cX5_rootOf 45 = .ok (.iconst 3, 1) := by decide +kernel
theorem dX5_rootOf_46 : decode cX5_rootOf 46 = .ok (.iload_n 3, 1) := by decide +kernel
theorem dX5_rootOf_47 : decode cX5_rootOf 47 = .ok (.imul, 1) := by decide +kernel
theorem dX5_rootOf_48 : decode cX5_rootOf 48 = .ok (.iconst 2, 1) := by decide +kernel
theorem dX5_rootOf_49 : decode cX5_rootOf 49 = .ok (.iadd, 1) := by decide +kernel
theorem dX5_rootOf_50 : decode cX5_rootOf 50 = .ok (.iaload, 1) := by decide +kernel
theorem dX5_rootOf_51 : decode cX5_rootOf 51 = .ok (.ifCond .ne 64, 3) := by decide +kernel
theorem dX5_rootOf_54 : decode cX5_rootOf 54 = .ok (.aload_n 0, 1) := by decide +kernel
theorem dX5_rootOf_55 : decode cX5_rootOf 55 = .ok (.getfield 25, 3) := by decide +kernel
theorem dX5_rootOf_58 : decode cX5_rootOf 58 = .ok (.iconst 3, 1) := by decide +kernel
theorem dX5_rootOf_59 : decode cX5_rootOf 59 = .ok (.iload_n 3, 1) := by decide +kernel
theorem dX5_rootOf_60 : decode cX5_rootOf 60 = .ok (.imul, 1) := by decide +kernel
theorem dX5_rootOf_61 : decode cX5_rootOf 61 = .ok (.iconst 1, 1) := by decide +kernel
theorem dX5_rootOf_62 : decode cX5_rootOf 62 = .ok (.iadd, 1) := by decide +kernel
theorem dX5_rootOf_63 : decode cX5_rootOf 63 = .ok (.iaload, 1) := by decide +kernel
theorem dX5_rootOf_64 : decode cX5_rootOf 64 = .ok (.iload 5, 2) := by decide +kernel
theorem dX5_rootOf_66 : decode cX5_rootOf 66 = .ok (.invokestatic 127, 3) := by decide +kernel
theorem dX5_rootOf_69 : decode cX5_rootOf 69 = .ok (.ifCond .eq 36, 3) := by decide +kernel
theorem dX5_rootOf_72 : decode cX5_rootOf 72 = .ok (.aload_n 0, 1) := by decide +kernel
theorem dX5_rootOf_73 : decode cX5_rootOf 73 = .ok (.getfield 38, 3) := by decide +kernel
theorem dX5_rootOf_76 : decode cX5_rootOf 76 = .ok (.iload 5, 2) := by decide +kernel
theorem dX5_rootOf_78 : decode cX5_rootOf 78 = .ok (.iaload, 1) := by decide +kernel
theorem dX5_rootOf_79 : decode cX5_rootOf 79 = .ok (.iconst (-1), 1) := by decide +kernel
theorem dX5_rootOf_80 : decode cX5_rootOf 80 = .ok (.if_icmp .eq 25, 3) := by decide +kernel
theorem dX5_rootOf_83 : decode cX5_rootOf 83 = .ok (.aload_n 0, 1) := by decide +kernel
theorem dX5_rootOf_84 : decode cX5_rootOf 84 = .ok (.getfield 38, 3) := by decide +kernel
theorem dX5_rootOf_87 : decode cX5_rootOf 87 = .ok (.iload 5, 2) := by decide +kernel
theorem dX5_rootOf_89 : decode cX5_rootOf 89 = .ok (.iaload, 1) := by decide +kernel
theorem dX5_rootOf_90 : decode cX5_rootOf 90 = .ok (.iload 4, 2) := by decide +kernel
theorem dX5_rootOf_92 : decode cX5_rootOf 92 = .ok (.if_icmp .ge 13, 3) := by decide +kernel
theorem dX5_rootOf_95 : decode cX5_rootOf 95 = .ok (.aload_n 0, 1) := by decide +kernel
theorem dX5_rootOf_96 : decode cX5_rootOf 96 = .ok (.getfield 38, 3) := by decide +kernel
theorem dX5_rootOf_99 : decode cX5_rootOf 99 = .ok (.iload 5, 2) := by decide +kernel
theorem dX5_rootOf_101 : decode cX5_rootOf 101 = .ok (.iaload, 1) := by decide +kernel
theorem dX5_rootOf_102 : decode cX5_rootOf 102 = .ok (.goto 5, 3) := by decide +kernel
theorem dX5_rootOf_105 : decode cX5_rootOf 105 = .ok (.iload 4, 2) := by decide +kernel
theorem dX5_rootOf_107 : decode cX5_rootOf 107 = .ok (.istore 4, 2) := by decide +kernel
theorem dX5_rootOf_109 : decode cX5_rootOf 109 = .ok (.iinc 5 1, 3) := by decide +kernel
theorem dX5_rootOf_112 : decode cX5_rootOf 112 = .ok (.goto (-77), 3) := by decide +kernel
theorem dX5_rootOf_115 : decode cX5_rootOf 115 = .ok (.aload_n 0, 1) := by decide +kernel
theorem dX5_rootOf_116 : decode cX5_rootOf 116 = .ok (.getfield 38, 3) := by decide +kernel
theorem dX5_rootOf_119 : decode cX5_rootOf 119 = .ok (.iload_n 3, 1) := by decide +kernel
theorem dX5_rootOf_120 : decode cX5_rootOf 120 = .ok (.iload 4, 2) := by decide +kernel
theorem dX5_rootOf_122 : decode cX5_rootOf 122 = .ok (.bipush 12, 2) := by decide +kernel
theorem dX5_rootOf_124 : decode cX5_rootOf 124 = .ok (.if_icmp .ne 7, 3) := by decide +kernel
theorem dX5_rootOf_127 : decode cX5_rootOf 127 = .ok (.iconst (-1), 1) := by decide +kernel
theorem dX5_rootOf_128 : decode cX5_rootOf 128 = .ok (.goto 5, 3) := by decide +kernel
theorem dX5_rootOf_131 : decode cX5_rootOf 131 = .ok (.iload 4, 2) := by decide +kernel
theorem dX5_rootOf_133 : decode cX5_rootOf 133 = .ok (.iastore, 1) := by decide +kernel
theorem dX5_rootOf_134 : decode cX5_rootOf 134 = .ok (.iinc 3 1, 3) := by decide +kernel
theorem dX5_rootOf_137 : decode cX5_rootOf 137 = .ok (.goto (-126), 3) := by decide +kernel
theorem dX5_rootOf_140 : decode cX5_rootOf 140 = .ok (.aload_n 0, 1) := by decide +kernel
theorem dX5_rootOf_141 : decode cX5_rootOf 141 = .ok (.getfield 38, 3) := by decide +kernel
theorem dX5_rootOf_144 : decode cX5_rootOf 144 = .ok (.iload_n 1, 1) := by decide +kernel
theorem dX5_rootOf_145 : decode cX5_rootOf 145 = .ok (.iaload, 1) := by decide +kernel
theorem dX5_rootOf_146 : decode cX5_rootOf 146 = .ok (.ireturn, 1) := by decide +kernel
theorem dX5_root_0 : decode cX5_root 0 = .ok (.aload_n 0, 1) := by decide +kernel
theorem dX5_root_1 : decode cX5_root 1 = .ok (.invokevirtual 144, 3) := by decide +kernel
theorem dX5_root_4 : decode cX5_root 4 = .ok (.iload_n 1, 1) := by decide +kernel
theorem dX5_root_5 : decode cX5_root 5 = .ok (.i2l, 1) := by decide +kernel
theorem dX5_root_6 : decode cX5_root 6 = .ok (.lconst 0, 1) := by decide +kernel
theorem dX5_root_7 : decode cX5_root 7 = .ok (.aload_n 0, 1) := by decide +kernel
theorem dX5_root_8 : decode cX5_root 8 = .ok (.getfield 81, 3) := by decide +kernel
theorem dX5_root_11 : decode cX5_root 11 = .ok (.iconst 1, 1) := by decide +kernel
theorem dX5_root_12 : decode cX5_root 12 = .ok (.isub, 1) := by decide +kernel
theorem dX5_root_13 : decode cX5_root 13 = .ok (.i2l, 1) := by decide +kernel
theorem dX5_root_14 : decode cX5_root 14 = .ok (.invokestatic 44, 3) := by decide +kernel
theorem dX5_root_17 : decode cX5_root 17 = .ok (.ifCond .eq 11, 3) := by decide +kernel
theorem dX5_root_20 : decode cX5_root 20 = .ok (.aload_n 0, 1) := by decide +kernel
theorem dX5_root_21 : decode cX5_root 21 = .ok (.iload_n 1, 1) := by decide +kernel
theorem dX5_root_22 : decode cX5_root 22 = .ok (.invokevirtual 162, 3) := by decide +kernel
theorem dX5_root_25 : decode cX5_root 25 = .ok (.goto 5, 3) := by decide +kernel
theorem dX5_root_28 : decode cX5_root 28 = .ok (.bipush (-2), 2) := by decide +kernel
theorem dX5_root_30 : decode cX5_root 30 = .ok (.ireturn, 1) := by decide +kernel
theorem dX5_byOf_0 : decode cX5_byOf 0 = .ok (.aload_n 0, 1) := by decide +kernel
theorem dX5_byOf_1 : decode cX5_byOf 1 = .ok (.iload_n 1, 1) := by decide +kernel
theorem dX5_byOf_2 : decode cX5_byOf 2 = .ok (.iconst 0, 1) := by decide +kernel
theorem dX5_byOf_3 : decode cX5_byOf 3 = .ok (.invokevirtual 159, 3) := by decide +kernel
theorem dX5_byOf_6 : decode cX5_byOf 6 = .ok (.aload_n 0, 1) := by decide +kernel
theorem dX5_byOf_7 : decode cX5_byOf 7 = .ok (.iload_n 1, 1) := by decide +kernel
theorem dX5_byOf_8 : decode cX5_byOf 8 = .ok (.iconst 1, 1) := by decide +kernel
theorem dX5_byOf_9 : decode cX5_byOf 9 = .ok (.iadd, 1) := by decide +kernel
theorem dX5_byOf_10 : decode cX5_byOf 10 = .ok (.iconst 0, 1) := by decide +kernel
theorem dX5_byOf_11 : decode cX5_byOf 11 = .ok (.invokevirtual 159, 3) := by decide +kernel
theorem dX5_byOf_14 : decode cX5_byOf 14 = .ok (.ixor, 1) := by decide +kernel
theorem dX5_byOf_15 : decode cX5_byOf 15 = .ok (.ireturn, 1) := by decide +kernel
theorem dX5_by_0 : decode cX5_by 0 = .ok (.aload_n 0, 1) := by decide +kernel
theorem dX5_by_1 : decode cX5_by 1 = .ok (.invokevirtual 100, 3) := by decide +kernel
theorem dX5_by_4 : decode cX5_by 4 = .ok (.pop, 1) := by decide +kernel
theorem dX5_by_5 : decode cX5_by 5 = .ok (.iload_n 1, 1) := by decide +kernel
theorem dX5_by_6 : decode cX5_by 6 = .ok (.i2l, 1) := by decide +kernel
theorem dX5_by_7 : decode cX5_by 7 = .ok (.lconst 0, 1) := by decide +kernel
theorem dX5_by_8 : decode cX5_by 8 = .ok (.aload_n 0, 1) := by decide +kernel
theorem dX5_by_9 : decode cX5_by 9 = .ok (.getfield 108, 3) := by decide +kernel
theorem dX5_by_12 : decode cX5_by 12 = .ok (.iconst 1, 1) := by decide +kernel
theorem dX5_by_13 : decode cX5_by 13 = .ok (.isub, 1) := by decide +kernel
theorem dX5_by_14 : decode cX5_by 14 = .ok (.i2l, 1) := by decide +kernel
theorem dX5_by_15 : decode cX5_by 15 = .ok (.invokestatic 44, 3) := by decide +kernel
theorem dX5_by_18 : decode cX5_by 18 = .ok (.ifCond .eq 11, 3) := by decide +kernel
theorem dX5_by_21 : decode cX5_by 21 = .ok (.aload_n 0, 1) := by decide +kernel
theorem dX5_by_22 : decode cX5_by 22 = .ok (.iload_n 1, 1) := by decide +kernel
theorem dX5_by_23 : decode cX5_by 23 = .ok (.invokevirtual 165, 3) := by decide +kernel
theorem dX5_by_26 : decode cX5_by 26 = .ok (.goto 5, 3) := by decide +kernel
theorem dX5_by_29 : decode cX5_by 29 = .ok (.bipush (-2), 2) := by decide +kernel
theorem dX5_by_31 : decode cX5_by 31 = .ok (.ireturn, 1) := by decide +kernel
theorem dX5_least_0 : decode cX5_least 0 = .ok (.iconst 0, 1) := by decide +kernel
theorem dX5_least_1 : decode cX5_least 1 = .ok (.istore_n 1, 1) := by decide +kernel
theorem dX5_least_2 : decode cX5_least 2 = .ok (.iload_n 1, 1) := by decide +kernel
theorem dX5_least_3 : decode cX5_least 3 = .ok (.bipush 12, 2) := by decide +kernel
theorem dX5_least_5 : decode cX5_least 5 = .ok (.if_icmp .ge 17, 3) := by decide +kernel
theorem dX5_least_8 : decode cX5_least 8 = .ok (.iload_n 0, 1) := by decide +kernel
theorem dX5_least_9 : decode cX5_least 9 = .ok (.iload_n 1, 1) := by decide +kernel
theorem dX5_least_10 : decode cX5_least 10 = .ok (.invokestatic 127, 3) := by decide +kernel
theorem dX5_least_13 : decode cX5_least 13 = .ok (.ifCond .ne 9, 3) := by decide +kernel
theorem dX5_least_16 : decode cX5_least 16 = .ok (.iinc 1 1, 3) := by decide +kernel
theorem dX5_least_19 : decode cX5_least 19 = .ok (.goto (-17), 3) := by decide +kernel
theorem dX5_least_22 : decode cX5_least 22 = .ok (.iload_n 1, 1) := by decide +kernel
theorem dX5_least_23 : decode cX5_least 23 = .ok (.bipush 12, 2) := by decide +kernel
theorem dX5_least_25 : decode cX5_least 25 = .ok (.if_icmp .ne 7, 3) := by decide +kernel
theorem dX5_least_28 : decode cX5_least 28 = .ok (.iconst (-1), 1) := by decide +kernel
theorem dX5_least_29 : decode cX5_least 29 = .ok (.goto 4, 3) := by decide +kernel
theorem dX5_least_32 : decode cX5_least 32 = .ok (.iload_n 1, 1) := by decide +kernel
theorem dX5_least_33 : decode cX5_least 33 = .ok (.ireturn, 1) := by decide +kernel
theorem dX5_withoutOf_0 : decode cX5_withoutOf 0 = .ok (.aload_n 0, 1) := by decide +kernel
theorem dX5_withoutOf_1 : decode cX5_withoutOf 1 = .ok (.aload_n 0, 1) := by decide +kernel
theorem dX5_withoutOf_2 : decode cX5_withoutOf 2 = .ok (.getfield 108, 3) := by decide +kernel
theorem dX5_withoutOf_5 : decode cX5_withoutOf 5 = .ok (.iconst 0, 1) := by decide +kernel
theorem dX5_withoutOf_6 : decode cX5_withoutOf 6 = .ok (.invokevirtual 159, 3) := by decide +kernel
theorem dX5_withoutOf_9 : decode cX5_withoutOf 9 = .ok (.istore_n 3, 1) := by decide +kernel
theorem dX5_withoutOf_10 : decode cX5_withoutOf 10 = .ok (.aload_n 0, 1) := by decide +kernel
theorem dX5_withoutOf_11 : decode cX5_withoutOf 11 = .ok (.aload_n 0, 1) := by decide +kernel
theorem dX5_withoutOf_12 : decode cX5_withoutOf 12 = .ok (.getfield 108, 3) := by decide +kernel
theorem dX5_withoutOf_15 : decode cX5_withoutOf 15 = .ok (.iload_n 1, 1) := by decide +kernel
theorem dX5_withoutOf_16 : decode cX5_withoutOf 16 = .ok (.invokevirtual 140, 3) := by decide +kernel
theorem dX5_withoutOf_19 : decode cX5_withoutOf 19 = .ok (.aload_n 0, 1) := by decide +kernel
theorem dX5_withoutOf_20 : decode cX5_withoutOf 20 = .ok (.aload_n 0, 1) := by decide +kernel
theorem dX5_withoutOf_21 : decode cX5_withoutOf 21 = .ok (.getfield 108, 3) := by decide +kernel
theorem dX5_withoutOf_24 : decode cX5_withoutOf 24 = .ok (.invokevirtual 153, 3) := by decide +kernel
theorem dX5_withoutOf_27 : decode cX5_withoutOf 27 = .ok (.istore 4, 2) := by decide +kernel
theorem dX5_withoutOf_29 : decode cX5_withoutOf 29 = .ok (.iload_n 2, 1) := by decide +kernel
theorem dX5_withoutOf_30 : decode cX5_withoutOf 30 = .ok (.ifCond .ne 8, 3) := by decide +kernel
theorem dX5_withoutOf_33 : decode cX5_withoutOf 33 = .ok (.iload 4, 2) := by decide +kernel
theorem dX5_withoutOf_35 : decode cX5_withoutOf 35 = .ok (.goto 10, 3) := by decide +kernel
theorem dX5_withoutOf_38 : decode cX5_withoutOf 38 = .ok (.iload_n 3, 1) := by decide +kernel
theorem dX5_withoutOf_39 : decode cX5_withoutOf 39 = .ok (.iload 4, 2) := by decide +kernel
theorem dX5_withoutOf_41 : decode cX5_withoutOf 41 = .ok (.ixor, 1) := by decide +kernel
theorem dX5_withoutOf_42 : decode cX5_withoutOf 42 = .ok (.invokestatic 168, 3) := by decide +kernel
theorem dX5_withoutOf_45 : decode cX5_withoutOf 45 = .ok (.ireturn, 1) := by decide +kernel
theorem dX5_without_0 : decode cX5_without 0 = .ok (.aload_n 0, 1) := by decide +kernel
theorem dX5_without_1 : decode cX5_without 1 = .ok (.invokevirtual 100, 3) := by decide +kernel
theorem dX5_without_4 : decode cX5_without 4 = .ok (.pop, 1) := by decide +kernel
theorem dX5_without_5 : decode cX5_without 5 = .ok (.iload_n 1, 1) := by decide +kernel
theorem dX5_without_6 : decode cX5_without 6 = .ok (.i2l, 1) := by decide +kernel
theorem dX5_without_7 : decode cX5_without 7 = .ok (.lconst 0, 1) := by decide +kernel
theorem dX5_without_8 : decode cX5_without 8 = .ok (.aload_n 0, 1) := by decide +kernel
theorem dX5_without_9 : decode cX5_without 9 = .ok (.getfield 108, 3) := by decide +kernel
theorem dX5_without_12 : decode cX5_without 12 = .ok (.iconst 1, 1) := by decide +kernel
theorem dX5_without_13 : decode cX5_without 13 = .ok (.isub, 1) := by decide +kernel
theorem dX5_without_14 : decode cX5_without 14 = .ok (.i2l, 1) := by decide +kernel
theorem dX5_without_15 : decode cX5_without 15 = .ok (.invokestatic 44, 3) := by decide +kernel
theorem dX5_without_18 : decode cX5_without 18 = .ok (.ifCond .eq 19, 3) := by decide +kernel
theorem dX5_without_21 : decode cX5_without 21 = .ok (.iload_n 2, 1) := by decide +kernel
theorem dX5_without_22 : decode cX5_without 22 = .ok (.invokestatic 156, 3) := by decide +kernel
theorem dX5_without_25 : decode cX5_without 25 = .ok (.ifCond .eq 12, 3) := by decide +kernel
theorem dX5_without_28 : decode cX5_without 28 = .ok (.aload_n 0, 1) := by decide +kernel
theorem dX5_without_29 : decode cX5_without 29 = .ok (.iload_n 1, 1) := by decide +kernel
theorem dX5_without_30 : decode cX5_without 30 = .ok (.iload_n 2, 1) := by decide +kernel
theorem dX5_without_31 : decode cX5_without 31 = .ok (.invokevirtual 171, 3) := by decide +kernel
theorem dX5_without_34 : decode cX5_without 34 = .ok (.goto 5, 3) := by decide +kernel
theorem dX5_without_37 : decode cX5_without 37 = .ok (.bipush (-2), 2) := by decide +kernel
theorem dX5_without_39 : decode cX5_without 39 = .ok (.ireturn, 1) := by decide +kernel
theorem dX5_adds_0 : decode cX5_adds 0 = .ok (.iload_n 1, 1) := by decide +kernel
theorem dX5_adds_1 : decode cX5_adds 1 = .ok (.bipush 12, 2) := by decide +kernel
theorem dX5_adds_3 : decode cX5_adds 3 = .ok (.if_icmp .lt 5, 3) := by decide +kernel
theorem dX5_adds_6 : decode cX5_adds 6 = .ok (.iconst 0, 1) := by decide +kernel
theorem dX5_adds_7 : decode cX5_adds 7 = .ok (.ireturn, 1) := by decide +kernel
theorem dX5_adds_8 : decode cX5_adds 8 = .ok (.aload_n 0, 1) := by decide +kernel
theorem dX5_adds_9 : decode cX5_adds 9 = .ok (.iload_n 1, 1) := by decide +kernel
theorem dX5_adds_10 : decode cX5_adds 10 = .ok (.iload_n 2, 1) := by decide +kernel
theorem dX5_adds_11 : decode cX5_adds 11 = .ok (.bipush 24, 2) := by decide +kernel
theorem dX5_adds_13 : decode cX5_adds 13 = .ok (.idiv, 1) := by decide +kernel
theorem dX5_adds_14 : decode cX5_adds 14 = .ok (.iload_n 2, 1) := by decide +kernel
theorem dX5_adds_15 : decode cX5_adds 15 = .ok (.bipush 24, 2) := by decide +kernel
theorem dX5_adds_17 : decode cX5_adds 17 = .ok (.irem, 1) := by decide +kernel
theorem dX5_adds_18 : decode cX5_adds 18 = .ok (.invokevirtual 111, 3) := by decide +kernel
theorem dX5_adds_21 : decode cX5_adds 21 = .ok (.aload_n 0, 1) := by decide +kernel
theorem dX5_adds_22 : decode cX5_adds 22 = .ok (.iload_n 1, 1) := by decide +kernel
theorem dX5_adds_23 : decode cX5_adds 23 = .ok (.iconst (-1), 1) := by decide +kernel
theorem dX5_adds_24 : decode cX5_adds 24 = .ok (.invokevirtual 140, 3) := by decide +kernel
theorem dX5_adds_27 : decode cX5_adds 27 = .ok (.aload_n 0, 1) := by decide +kernel
theorem dX5_adds_28 : decode cX5_adds 28 = .ok (.getfield 34, 3) := by decide +kernel
theorem dX5_adds_31 : decode cX5_adds 31 = .ok (.iload_n 1, 1) := by decide +kernel
theorem dX5_adds_32 : decode cX5_adds 32 = .ok (.aload_n 0, 1) := by decide +kernel
theorem dX5_adds_33 : decode cX5_adds 33 = .ok (.iload_n 1, 1) := by decide +kernel
theorem dX5_adds_34 : decode cX5_adds 34 = .ok (.invokevirtual 137, 3) := by decide +kernel
theorem dX5_adds_37 : decode cX5_adds 37 = .ok (.bastore, 1) := by decide +kernel
theorem dX5_adds_38 : decode cX5_adds 38 = .ok (.aload_n 0, 1) := by decide +kernel
theorem dX5_adds_39 : decode cX5_adds 39 = .ok (.getfield 34, 3) := by decide +kernel
theorem dX5_adds_42 : decode cX5_adds 42 = .ok (.iload_n 1, 1) := by decide +kernel
theorem dX5_adds_43 : decode cX5_adds 43 = .ok (.baload, 1) := by decide +kernel
theorem dX5_adds_44 : decode cX5_adds 44 = .ok (.ireturn, 1) := by decide +kernel
theorem dX5_isSo_0 : decode cX5_isSo 0 = .ok (.aload_n 0, 1) := by decide +kernel
theorem dX5_isSo_1 : decode cX5_isSo 1 = .ok (.iload_n 1, 1) := by decide +kernel
theorem dX5_isSo_2 : decode cX5_isSo 2 = .ok (.invokevirtual 153, 3) := by decide +kernel
theorem dX5_isSo_5 : decode cX5_isSo 5 = .ok (.istore 4, 2) := by decide +kernel
theorem dX5_isSo_7 : decode cX5_isSo 7 = .ok (.iconst 1, 1) := by decide +kernel
theorem dX5_isSo_8 : decode cX5_isSo 8 = .ok (.aload_n 0, 1) := by decide +kernel
theorem dX5_isSo_9 : decode cX5_isSo 9 = .ok (.getfield 81, 3) := by decide +kernel
theorem dX5_isSo_12 : decode cX5_isSo 12 = .ok (.ishl, 1) := by decide +kernel
theorem dX5_isSo_13 : decode cX5_isSo 13 = .ok (.iconst 1, 1) := by decide +kernel
theorem dX5_isSo_14 : decode cX5_isSo 14 = .ok (.isub, 1) := by decide +kernel
theorem dX5_isSo_15 : decode cX5_isSo 15 = .ok (.istore 5, 2) := by decide +kernel
theorem dX5_isSo_17 : decode cX5_isSo 17 = .ok (.iload_n 2, 1) := by decide +kernel
theorem dX5_isSo_18 : decode cX5_isSo 18 = .ok (.iload 5, 2) := by decide +kernel
theorem dX5_isSo_20 : decode cX5_isSo 20 = .ok (.iand, 1) := by decide +kernel
theorem dX5_isSo_21 : decode cX5_isSo 21 = .ok (.iload 4, 2) := by decide +kernel
theorem dX5_isSo_23 : decode cX5_isSo 23 = .ok (.iconst (-1), 1) := by decide +kernel
theorem dX5_isSo_24 : decode cX5_isSo 24 = .ok (.ixor, 1) := by decide +kernel
theorem dX5_isSo_25 : decode cX5_isSo 25 = .ok (.iand, 1) := by decide +kernel
theorem dX5_isSo_26 : decode cX5_isSo 26 = .ok (.ifCond .ne 14, 3) := by decide +kernel
theorem dX5_isSo_29 : decode cX5_isSo 29 = .ok (.iload_n 3, 1) := by decide +kernel
theorem dX5_isSo_30 : decode cX5_isSo 30 = .ok (.iload 4, 2) := by decide +kernel
theorem dX5_isSo_32 : decode cX5_isSo 32 = .ok (.iand, 1) := by decide +kernel
theorem dX5_isSo_33 : decode cX5_isSo 33 = .ok (.ifCond .ne 7, 3) := by decide +kernel
theorem dX5_isSo_36 : decode cX5_isSo 36 = .ok (.iconst 1, 1) := by decide +kernel
theorem dX5_isSo_37 : decode cX5_isSo 37 = .ok (.goto 4, 3) := by decide +kernel
theorem dX5_isSo_40 : decode cX5_isSo 40 = .ok (.iconst 0, 1) := by decide +kernel
theorem dX5_isSo_41 : decode cX5_isSo 41 = .ok (.ireturn, 1) := by decide +kernel
theorem dX5_canBe_0 : decode cX5_canBe 0 = .ok (.iconst 0, 1) := by decide +kernel
theorem dX5_canBe_1 : decode cX5_canBe 1 = .ok (.istore 4, 2) := by decide +kernel
theorem dX5_canBe_3 : decode cX5_canBe 3 = .ok (.iconst 0, 1) := by decide +kernel
theorem dX5_canBe_4 : decode cX5_canBe 4 = .ok (.istore 5, 2) := by decide +kernel
theorem dX5_canBe_6 : decode cX5_canBe 6 = .ok (.iload 5, 2) := by decide +kernel
theorem dX5_canBe_8 : decode cX5_canBe 8 = .ok (.sipush 144, 3) := by decide +kernel
theorem dX5_canBe_11 : decode cX5_canBe 11 = .ok (.if_icmp .ge 43, 3) := by decide +kernel
theorem dX5_canBe_14 : decode cX5_canBe 14 = .ok (.iload 4, 2) := by decide +kernel
theorem dX5_canBe_16 : decode cX5_canBe 16 = .ok (.ifCond .ne 38, 3) := by decide +kernel
theorem dX5_canBe_19 : decode cX5_canBe 19 = .ok (.aload_n 0, 1) := by decide +kernel
theorem dX5_canBe_20 : decode cX5_canBe 20 = .ok (.iload_n 1, 1) := by decide +kernel
theorem dX5_canBe_21 : decode cX5_canBe 21 = .ok (.iload 5, 2) := by decide +kernel
theorem dX5_canBe_23 : decode cX5_canBe 23 = .ok (.invokevirtual 174, 3) := by decide +kernel
theorem dX5_canBe_26 : decode cX5_canBe 26 = .ok (.ifCond .eq 19, 3) := by decide +kernel
theorem dX5_canBe_29 : decode cX5_canBe 29 = .ok (.aload_n 0, 1) := by decide +kernel
theorem dX5_canBe_30 : decode cX5_canBe 30 = .ok (.iload_n 1, 1) := by decide +kernel
theorem dX5_canBe_31 : decode cX5_canBe 31 = .ok (.iconst 1, 1) := by decide +kernel
theorem dX5_canBe_32 : decode cX5_canBe 32 = .ok (.iadd, 1) := by decide +kernel
theorem dX5_canBe_33 : decode cX5_canBe 33 = .ok (.iload_n 2, 1) := by decide +kernel
theorem dX5_canBe_34 : decode cX5_canBe 34 = .ok (.iload_n 3, 1) := by decide +kernel
theorem dX5_canBe_35 : decode cX5_canBe 35 = .ok (.invokevirtual 177, 3) := by decide +kernel
theorem dX5_canBe_38 : decode cX5_canBe 38 = .ok (.ifCond .eq 7, 3) := by decide +kernel
theorem dX5_canBe_41 : decode cX5_canBe 41 = .ok (.iconst 1, 1) := by decide +kernel
theorem dX5_canBe_42 : decode cX5_canBe 42 = .ok (.goto 4, 3) := by decide +kernel
theorem dX5_canBe_45 : decode cX5_canBe 45 = .ok (.iconst 0, 1) := by decide +kernel
theorem dX5_canBe_46 : decode cX5_canBe 46 = .ok (.istore 4, 2) := by decide +kernel
theorem dX5_canBe_48 : decode cX5_canBe 48 = .ok (.iinc 5 1, 3) := by decide +kernel
theorem dX5_canBe_51 : decode cX5_canBe 51 = .ok (.goto (-45), 3) := by decide +kernel
theorem dX5_canBe_54 : decode cX5_canBe 54 = .ok (.iload 4, 2) := by decide +kernel
theorem dX5_canBe_56 : decode cX5_canBe 56 = .ok (.ireturn, 1) := by decide +kernel
theorem dX5_fewestOf_0 : decode cX5_fewestOf 0 = .ok (.aload_n 0, 1) := by decide +kernel
theorem dX5_fewestOf_1 : decode cX5_fewestOf 1 = .ok (.aload_n 0, 1) := by decide +kernel
theorem dX5_fewestOf_2 : decode cX5_fewestOf 2 = .ok (.getfield 108, 3) := by decide +kernel
theorem dX5_fewestOf_5 : decode cX5_fewestOf 5 = .ok (.iconst (-1), 1) := by decide +kernel
theorem dX5_fewestOf_6 : decode cX5_fewestOf 6 = .ok (.invokevirtual 140, 3) := by decide +kernel
theorem dX5_fewestOf_9 : decode cX5_fewestOf 9 = .ok (.aload_n 0, 1) := by decide +kernel
theorem dX5_fewestOf_10 : decode cX5_fewestOf 10 = .ok (.aload_n 0, 1) := by decide +kernel
theorem dX5_fewestOf_11 : decode cX5_fewestOf 11 = .ok (.getfield 108, 3) := by decide +kernel
theorem dX5_fewestOf_14 : decode cX5_fewestOf 14 = .ok (.iload_n 1, 1) := by decide +kernel
theorem dX5_fewestOf_15 : decode cX5_fewestOf 15 = .ok (.iload_n 2, 1) := by decide +kernel
theorem dX5_fewestOf_16 : decode cX5_fewestOf 16 = .ok (.invokevirtual 177, 3) := by decide +kernel
theorem dX5_fewestOf_19 : decode cX5_fewestOf 19 = .ok (.ifCond .eq 14, 3) := by decide +kernel
theorem dX5_fewestOf_22 : decode cX5_fewestOf 22 = .ok (.iload 4, 2) := by decide +kernel
theorem dX5_fewestOf_24 : decode cX5_fewestOf 24 = .ok (.ifCond .ne 7, 3) := by decide +kernel
theorem dX5_fewestOf_27 : decode cX5_fewestOf 27 = .ok (.iconst 0, 1) := by decide +kernel
theorem dX5_fewestOf_28 : decode cX5_fewestOf 28 = .ok (.goto 4, 3) := by decide +kernel
theorem dX5_fewestOf_31 : decode cX5_fewestOf 31 = .ok (.iconst (-1), 1) := by decide +kernel
theorem dX5_fewestOf_32 : decode cX5_fewestOf 32 = .ok (.ireturn, 1) := by decide +kernel
theorem dX5_fewestOf_33 : decode cX5_fewestOf 33 = .ok (.iconst 1, 1) := by decide +kernel
theorem dX5_fewestOf_34 : decode cX5_fewestOf 34 = .ok (.istore 5, 2) := by decide +kernel
theorem dX5_fewestOf_36 : decode cX5_fewestOf 36 = .ok (.iload 5, 2) := by decide +kernel
theorem dX5_fewestOf_38 : decode cX5_fewestOf 38 = .ok (.iload_n 3, 1) := by decide +kernel
theorem dX5_fewestOf_39 : decode cX5_fewestOf 39 = .ok (.if_icmp .gt 91, 3) := by decide +kernel
theorem dX5_fewestOf_42 : decode cX5_fewestOf 42 = .ok (.iconst 0, 1) := by decide +kernel
theorem dX5_fewestOf_43 : decode cX5_fewestOf 43 = .ok (.istore 6, 2) := by decide +kernel
theorem dX5_fewestOf_45 : decode cX5_fewestOf 45 = .ok (.iload 6, 2) := by decide +kernel
theorem dX5_fewestOf_47 : decode cX5_fewestOf 47 = .ok (.sipush 144, 3) := by decide +kernel
theorem dX5_fewestOf_50 : decode cX5_fewestOf 50 = .ok (.if_icmp .ge 74, 3) := by decide +kernel
theorem dX5_fewestOf_53 : decode cX5_fewestOf 53 = .ok (.aload_n 0, 1) := by decide +kernel
theorem dX5_fewestOf_54 : decode cX5_fewestOf 54 = .ok (.aload_n 0, 1) := by decide +kernel
theorem dX5_fewestOf_55 : decode cX5_fewestOf 55 = .ok (.getfield 108, 3) := by decide +kernel
theorem dX5_fewestOf_58 : decode cX5_fewestOf 58 = .ok (.iload 6, 2) := by decide +kernel
theorem dX5_fewestOf_60 : decode cX5_fewestOf 60 = .ok (.invokevirtual 174, 3) := by decide +kernel
theorem dX5_fewestOf_63 : decode cX5_fewestOf 63 = .ok (.ifCond .eq 55, 3) := by decide +kernel
theorem dX5_fewestOf_66 : decode cX5_fewestOf 66 = .ok (.iload 5, 2) := by decide +kernel
theorem dX5_fewestOf_68 : decode cX5_fewestOf 68 = .ok (.iconst 1, 1) := by decide +kernel
theorem dX5_fewestOf_69 : decode cX5_fewestOf 69 = .ok (.if_icmp .ne 21, 3) := by decide +kernel
theorem dX5_fewestOf_72 : decode cX5_fewestOf 72 = .ok (.aload_n 0, 1) := by decide +kernel
theorem dX5_fewestOf_73 : decode cX5_fewestOf 73 = .ok (.aload_n 0, 1) := by decide +kernel
theorem dX5_fewestOf_74 : decode cX5_fewestOf 74 = .ok (.getfield 108, 3) := by decide +kernel
theorem dX5_fewestOf_77 : decode cX5_fewestOf 77 = .ok (.iconst 1, 1) := by decide +kernel
theorem dX5_fewestOf_78 : decode cX5_fewestOf 78 = .ok (.iadd, 1) := by decide +kernel
theorem dX5_fewestOf_79 : decode cX5_fewestOf 79 = .ok (.iload_n 1, 1) := by decide +kernel
theorem dX5_fewestOf_80 : decode cX5_fewestOf 80 = .ok (.iload_n 2, 1) := by decide +kernel
theorem dX5_fewestOf_81 : decode cX5_fewestOf 81 = .ok (.invokevirtual 177, 3) := by decide +kernel
theorem dX5_fewestOf_84 : decode cX5_fewestOf 84 = .ok (.ifCond .eq 34, 3) := by decide +kernel
theorem dX5_fewestOf_87 : decode cX5_fewestOf 87 = .ok (.goto 18, 3) := by decide +kernel
theorem dX5_fewestOf_90 : decode cX5_fewestOf 90 = .ok (.aload_n 0, 1) := by decide +kernel
theorem dX5_fewestOf_91 : decode cX5_fewestOf 91 = .ok (.aload_n 0, 1) := by decide +kernel
theorem dX5_fewestOf_92 : decode cX5_fewestOf 92 = .ok (.getfield 108, 3) := by decide +kernel
theorem dX5_fewestOf_95 : decode cX5_fewestOf 95 = .ok (.iconst 1, 1) := by decide +kernel
theorem dX5_fewestOf_96 : decode cX5_fewestOf 96 = .ok (.iadd, 1) := by decide +kernel
theorem dX5_fewestOf_97 : decode cX5_fewestOf 97 = .ok (.iload_n 1, 1) := by decide +kernel
theorem dX5_fewestOf_98 : decode cX5_fewestOf 98 = .ok (.iload_n 2, 1) := by decide +kernel
theorem dX5_fewestOf_99 : decode cX5_fewestOf 99 = .ok (.invokevirtual 181, 3) := by decide +kernel
theorem dX5_fewestOf_102 : decode cX5_fewestOf 102 = .ok (.ifCond .eq 16, 3) := by decide +kernel
theorem dX5_fewestOf_105 : decode cX5_fewestOf 105 = .ok (.iload 4, 2) := by decide +kernel
theorem dX5_fewestOf_107 : decode cX5_fewestOf 107 = .ok (.ifCond .ne 8, 3) := by decide +kernel
theorem dX5_fewestOf_110 : decode cX5_fewestOf 110 = .ok (.iload 5, 2) := by decide +kernel
theorem dX5_fewestOf_112 : decode cX5_fewestOf 112 = .ok (.goto 5, 3) := by decide +kernel
theorem dX5_fewestOf_115 : decode cX5_fewestOf 115 = .ok (.iload 6, 2) := by decide +kernel
theorem dX5_fewestOf_117 : decode cX5_fewestOf 117 = .ok (.ireturn, 1) := by decide +kernel
theorem dX5_fewestOf_118 : decode cX5_fewestOf 118 = .ok (.iinc 6 1, 3) := by decide +kernel
theorem dX5_fewestOf_121 : decode cX5_fewestOf 121 = .ok (.goto (-76), 3) := by decide +kernel
theorem dX5_fewestOf_124 : decode cX5_fewestOf 124 = .ok (.iinc 5 1, 3) := by decide +kernel
theorem dX5_fewestOf_127 : decode cX5_fewestOf 127 = .ok (.goto (-91), 3) := by decide +kernel
theorem dX5_fewestOf_130 : decode cX5_fewestOf 130 = .ok (.iconst (-1), 1) := by decide +kernel
theorem dX5_fewestOf_131 : decode cX5_fewestOf 131 = .ok (.ireturn, 1) := by decide +kernel
theorem dX5_fewest_0 : decode cX5_fewest 0 = .ok (.aload_n 0, 1) := by decide +kernel
theorem dX5_fewest_1 : decode cX5_fewest 1 = .ok (.invokevirtual 100, 3) := by decide +kernel
theorem dX5_fewest_4 : decode cX5_fewest 4 = .ok (.pop, 1) := by decide +kernel
theorem dX5_fewest_5 : decode cX5_fewest 5 = .ok (.iload_n 1, 1) := by decide +kernel
theorem dX5_fewest_6 : decode cX5_fewest 6 = .ok (.i2l, 1) := by decide +kernel
theorem dX5_fewest_7 : decode cX5_fewest 7 = .ok (.lconst 0, 1) := by decide +kernel
theorem dX5_fewest_8 : decode cX5_fewest 8 = .ok (.ldc2_w 184, 3) := by decide +kernel
theorem dX5_fewest_11 : decode cX5_fewest 11 = .ok (.invokestatic 44, 3) := by decide +kernel
theorem dX5_fewest_14 : decode cX5_fewest 14 = .ok (.ifCond .eq 37, 3) := by decide +kernel
theorem dX5_fewest_17 : decode cX5_fewest 17 = .ok (.iload_n 2, 1) := by decide +kernel
theorem dX5_fewest_18 : decode cX5_fewest 18 = .ok (.i2l, 1) := by decide +kernel
theorem dX5_fewest_19 : decode cX5_fewest 19 = .ok (.lconst 0, 1) := by decide +kernel
theorem dX5_fewest_20 : decode cX5_fewest 20 = .ok (.ldc2_w 184, 3) := by decide +kernel
theorem dX5_fewest_23 : decode cX5_fewest 23 = .ok (.invokestatic 44, 3) := by decide +kernel
theorem dX5_fewest_26 : decode cX5_fewest 26 = .ok (.ifCond .eq 25, 3) := by decide +kernel
theorem dX5_fewest_29 : decode cX5_fewest 29 = .ok (.iload_n 1, 1) := by decide +kernel
theorem dX5_fewest_30 : decode cX5_fewest 30 = .ok (.iload_n 2, 1) := by decide +kernel
theorem dX5_fewest_31 : decode cX5_fewest 31 = .ok (.iand, 1) := by decide +kernel
theorem dX5_fewest_32 : decode cX5_fewest 32 = .ok (.ifCond .ne 19, 3) := by decide +kernel
theorem dX5_fewest_35 : decode cX5_fewest 35 = .ok (.iload_n 3, 1) := by decide +kernel
theorem dX5_fewest_36 : decode cX5_fewest 36 = .ok (.i2l, 1) := by decide +kernel
theorem dX5_fewest_37 : decode cX5_fewest 37 = .ok (.lconst 0, 1) := by decide +kernel
theorem dX5_fewest_38 : decode cX5_fewest 38 = .ok (.ldc2_w 58, 3) := by decide +kernel
theorem dX5_fewest_41 : decode cX5_fewest 41 = .ok (.invokestatic 44, 3) := by decide +kernel
theorem dX5_fewest_44 : decode cX5_fewest 44 = .ok (.ifCond .eq 7, 3) := by decide +kernel
theorem dX5_fewest_47 : decode cX5_fewest 47 = .ok (.iconst 1, 1) := by decide +kernel
theorem dX5_fewest_48 : decode cX5_fewest 48 = .ok (.goto 4, 3) := by decide +kernel
theorem dX5_fewest_51 : decode cX5_fewest 51 = .ok (.iconst 0, 1) := by decide +kernel
theorem dX5_fewest_52 : decode cX5_fewest 52 = .ok (.istore 5, 2) := by decide +kernel
theorem dX5_fewest_54 : decode cX5_fewest 54 = .ok (.iload 5, 2) := by decide +kernel
theorem dX5_fewest_56 : decode cX5_fewest 56 = .ok (.ifCond .eq 23, 3) := by decide +kernel
theorem dX5_fewest_59 : decode cX5_fewest 59 = .ok (.iload 4, 2) := by decide +kernel
theorem dX5_fewest_61 : decode cX5_fewest 61 = .ok (.invokestatic 156, 3) := by decide +kernel
theorem dX5_fewest_64 : decode cX5_fewest 64 = .ok (.ifCond .eq 15, 3) := by decide +kernel
theorem dX5_fewest_67 : decode cX5_fewest 67 = .ok (.aload_n 0, 1) := by decide +kernel
theorem dX5_fewest_68 : decode cX5_fewest 68 = .ok (.iload_n 1, 1) := by decide +kernel
theorem dX5_fewest_69 : decode cX5_fewest 69 = .ok (.iload_n 2, 1) := by decide +kernel
theorem dX5_fewest_70 : decode cX5_fewest 70 = .ok (.iload_n 3, 1) := by decide +kernel
theorem dX5_fewest_71 : decode cX5_fewest 71 = .ok (.iload 4, 2) := by decide +kernel
theorem dX5_fewest_73 : decode cX5_fewest 73 = .ok (.invokevirtual 186, 3) := by decide +kernel
theorem dX5_fewest_76 : decode cX5_fewest 76 = .ok (.goto 5, 3) := by decide +kernel
theorem dX5_fewest_79 : decode cX5_fewest 79 = .ok (.bipush (-2), 2) := by decide +kernel
theorem dX5_fewest_81 : decode cX5_fewest 81 = .ok (.ireturn, 1) := by decide +kernel
theorem dX5_afterAny_0 : decode cX5_afterAny 0 = .ok (.iload_n 2, 1) := by decide +kernel
theorem dX5_afterAny_1 : decode cX5_afterAny 1 = .ok (.istore_n 3, 1) := by decide +kernel
theorem dX5_afterAny_2 : decode cX5_afterAny 2 = .ok (.iconst 0, 1) := by decide +kernel
theorem dX5_afterAny_3 : decode cX5_afterAny 3 = .ok (.istore 4, 2) := by decide +kernel
theorem dX5_afterAny_5 : decode cX5_afterAny 5 = .ok (.iload 4, 2) := by decide +kernel
theorem dX5_afterAny_7 : decode cX5_afterAny 7 = .ok (.sipush 144, 3) := by decide +kernel
theorem dX5_afterAny_10 : decode cX5_afterAny 10 = .ok (.if_icmp .ge 35, 3) := by decide +kernel
theorem dX5_afterAny_13 : decode cX5_afterAny 13 = .ok (.iload_n 3, 1) := by decide +kernel
theorem dX5_afterAny_14 : decode cX5_afterAny 14 = .ok (.aload_n 0, 1) := by decide +kernel
theorem dX5_afterAny_15 : decode cX5_afterAny 15 = .ok (.iload_n 1, 1) := by decide +kernel
theorem dX5_afterAny_16 : decode cX5_afterAny 16 = .ok (.iload 4, 2) := by decide +kernel
theorem dX5_afterAny_18 : decode cX5_afterAny 18 = .ok (.invokevirtual 174, 3) := by decide +kernel
theorem dX5_afterAny_21 : decode cX5_afterAny 21 = .ok (.ifCond .eq 13, 3) := by decide +kernel
theorem dX5_afterAny_24 : decode cX5_afterAny 24 = .ok (.aload_n 0, 1) := by decide +kernel
theorem dX5_afterAny_25 : decode cX5_afterAny 25 = .ok (.iload_n 1, 1) := by decide +kernel
theorem dX5_afterAny_26 : decode cX5_afterAny 26 = .ok (.iconst 1, 1) := by decide +kernel
theorem dX5_afterAny_27 : decode cX5_afterAny 27 = .ok (.iadd, 1) := by decide +kernel
theorem dX5_afterAny_28 : decode cX5_afterAny 28 = .ok (.invokevirtual 153, 3) := by decide +kernel
theorem dX5_afterAny_31 : decode cX5_afterAny 31 = .ok (.goto 6, 3) := by decide +kernel
theorem dX5_afterAny_34 : decode cX5_afterAny 34 = .ok (.sipush 4095, 3) := by decide +kernel
theorem dX5_afterAny_37 : decode cX5_afterAny 37 = .ok (.iand, 1) := by decide +kernel
theorem dX5_afterAny_38 : decode cX5_afterAny 38 = .ok (.istore_n 3, 1) := by decide +kernel
theorem dX5_afterAny_39 : decode cX5_afterAny 39 = .ok (.iinc 4 1, 3) := by decide +kernel
theorem dX5_afterAny_42 : decode cX5_afterAny 42 = .ok (.goto (-37), 3) := by decide +kernel
theorem dX5_afterAny_45 : decode cX5_afterAny 45 = .ok (.iload_n 3, 1) := by decide +kernel
theorem dX5_afterAny_46 : decode cX5_afterAny 46 = .ok (.ireturn, 1) := by decide +kernel
theorem dX5_safeOf_0 : decode cX5_safeOf 0 = .ok (.aload_n 0, 1) := by decide +kernel
theorem dX5_safeOf_1 : decode cX5_safeOf 1 = .ok (.aload_n 0, 1) := by decide +kernel
theorem dX5_safeOf_2 : decode cX5_safeOf 2 = .ok (.getfield 108, 3) := by decide +kernel
theorem dX5_safeOf_5 : decode cX5_safeOf 5 = .ok (.iconst 0, 1) := by decide +kernel
theorem dX5_safeOf_6 : decode cX5_safeOf 6 = .ok (.invokevirtual 159, 3) := by decide +kernel
theorem dX5_safeOf_9 : decode cX5_safeOf 9 = .ok (.istore_n 2, 1) := by decide +kernel
theorem dX5_safeOf_10 : decode cX5_safeOf 10 = .ok (.iload_n 1, 1) := by decide +kernel
theorem dX5_safeOf_11 : decode cX5_safeOf 11 = .ok (.ifCond .le 13, 3) := by decide +kernel
theorem dX5_safeOf_14 : decode cX5_safeOf 14 = .ok (.aload_n 0, 1) := by decide +kernel
theorem dX5_safeOf_15 : decode cX5_safeOf 15 = .ok (.aload_n 0, 1) := by decide +kernel
theorem dX5_safeOf_16 : decode cX5_safeOf 16 = .ok (.getfield 108, 3) := by decide +kernel
theorem dX5_safeOf_19 : decode cX5_safeOf 19 = .ok (.iload_n 2, 1) := by decide +kernel
theorem dX5_safeOf_20 : decode cX5_safeOf 20 = .ok (.invokevirtual 190, 3) := by decide +kernel
theorem dX5_safeOf_23 : decode cX5_safeOf 23 = .ok (.istore_n 2, 1) := by decide +kernel
theorem dX5_safeOf_24 : decode cX5_safeOf 24 = .ok (.iconst 0, 1) := by decide +kernel
theorem dX5_safeOf_25 : decode cX5_safeOf 25 = .ok (.istore_n 3, 1) := by decide +kernel
theorem dX5_safeOf_26 : decode cX5_safeOf 26 = .ok (.iload_n 3, 1) := by decide +kernel
theorem dX5_safeOf_27 : decode cX5_safeOf 27 = .ok (.sipush 144, 3) := by decide +kernel
theorem dX5_safeOf_30 : decode cX5_safeOf 30 = .ok (.if_icmp .ge 38, 3) := by decide +kernel
theorem dX5_safeOf_33 : decode cX5_safeOf 33 = .ok (.iload_n 1, 1) := by decide +kernel
theorem dX5_safeOf_34 : decode cX5_safeOf 34 = .ok (.iconst 1, 1) := by decide +kernel
theorem dX5_safeOf_35 : decode cX5_safeOf 35 = .ok (.if_icmp .le 33, 3) := by decide +kernel
theorem dX5_safeOf_38 : decode cX5_safeOf 38 = .ok (.aload_n 0, 1) := by decide +kernel
theorem dX5_safeOf_39 : decode cX5_safeOf 39 = .ok (.aload_n 0, 1) := by decide +kernel
theorem dX5_safeOf_40 : decode cX5_safeOf 40 = .ok (.getfield 108, 3) := by decide +kernel
theorem dX5_safeOf_43 : decode cX5_safeOf 43 = .ok (.iload_n 3, 1) := by decide +kernel
theorem dX5_safeOf_44 : decode cX5_safeOf 44 = .ok (.invokevirtual 174, 3) := by decide +kernel
theorem dX5_safeOf_47 : decode cX5_safeOf 47 = .ok (.ifCond .eq 15, 3) := by decide +kernel
theorem dX5_safeOf_50 : decode cX5_safeOf 50 = .ok (.aload_n 0, 1) := by decide +kernel
theorem dX5_safeOf_51 : decode cX5_safeOf 51 = .ok (.aload_n 0, 1) := by decide +kernel
theorem dX5_safeOf_52 : decode cX5_safeOf 52 = .ok (.getfield 108, 3) := by decide +kernel
theorem dX5_safeOf_55 : decode cX5_safeOf 55 = .ok (.iconst 1, 1) := by decide +kernel
theorem dX5_safeOf_56 : decode cX5_safeOf 56 = .ok (.iadd, 1) := by decide +kernel
theorem dX5_safeOf_57 : decode cX5_safeOf 57 = .ok (.iload_n 2, 1) := by decide +kernel
theorem dX5_safeOf_58 : decode cX5_safeOf 58 = .ok (.invokevirtual 190, 3) := by decide +kernel
theorem dX5_safeOf_61 : decode cX5_safeOf 61 = .ok (.istore_n 2, 1) := by decide +kernel
theorem dX5_safeOf_62 : decode cX5_safeOf 62 = .ok (.iinc 3 1, 3) := by decide +kernel
theorem dX5_safeOf_65 : decode cX5_safeOf 65 = .ok (.goto (-39), 3) := by decide +kernel
theorem dX5_safeOf_68 : decode cX5_safeOf 68 = .ok (.iload_n 2, 1) := by decide +kernel
theorem dX5_safeOf_69 : decode cX5_safeOf 69 = .ok (.ireturn, 1) := by decide +kernel
theorem dX5_safe_0 : decode cX5_safe 0 = .ok (.aload_n 0, 1) := by decide +kernel
theorem dX5_safe_1 : decode cX5_safe 1 = .ok (.invokevirtual 100, 3) := by decide +kernel
theorem dX5_safe_4 : decode cX5_safe 4 = .ok (.pop, 1) := by decide +kernel
theorem dX5_safe_5 : decode cX5_safe 5 = .ok (.iload_n 1, 1) := by decide +kernel
theorem dX5_safe_6 : decode cX5_safe 6 = .ok (.i2l, 1) := by decide +kernel
theorem dX5_safe_7 : decode cX5_safe 7 = .ok (.lconst 0, 1) := by decide +kernel
theorem dX5_safe_8 : decode cX5_safe 8 = .ok (.ldc2_w 58, 3) := by decide +kernel
theorem dX5_safe_11 : decode cX5_safe 11 = .ok (.invokestatic 44, 3) := by decide +kernel
theorem dX5_safe_14 : decode cX5_safe 14 = .ok (.ifCond .eq 11, 3) := by decide +kernel
theorem dX5_safe_17 : decode cX5_safe 17 = .ok (.aload_n 0, 1) := by decide +kernel
theorem dX5_safe_18 : decode cX5_safe 18 = .ok (.iload_n 1, 1) := by decide +kernel
theorem dX5_safe_19 : decode cX5_safe 19 = .ok (.invokevirtual 193, 3) := by decide +kernel
theorem dX5_safe_22 : decode cX5_safe 22 = .ok (.goto 5, 3) := by decide +kernel
theorem dX5_safe_25 : decode cX5_safe 25 = .ok (.bipush (-2), 2) := by decide +kernel
theorem dX5_safe_27 : decode cX5_safe 27 = .ok (.ireturn, 1) := by decide +kernel
theorem dX5_worthOf_0 : decode cX5_worthOf 0 = .ok (.iconst 0, 1) := by decide +kernel
theorem dX5_worthOf_1 : decode cX5_worthOf 1 = .ok (.istore_n 3, 1) := by decide +kernel
theorem dX5_worthOf_2 : decode cX5_worthOf 2 = .ok (.iconst 0, 1) := by decide +kernel
theorem dX5_worthOf_3 : decode cX5_worthOf 3 = .ok (.istore 4, 2) := by decide +kernel
theorem dX5_worthOf_5 : decode cX5_worthOf 5 = .ok (.iload 4, 2) := by decide +kernel
theorem dX5_worthOf_7 : decode cX5_worthOf 7 = .ok (.bipush 12, 2) := by decide +kernel
theorem dX5_worthOf_9 : decode cX5_worthOf 9 = .ok (.if_icmp .ge 37, 3) := by decide +kernel
theorem dX5_worthOf_12 : decode cX5_worthOf 12 = .ok (.iload_n 3, 1) := by decide +kernel
theorem dX5_worthOf_13 : decode cX5_worthOf 13 = .ok (.iload_n 2, 1) := by decide +kernel
theorem dX5_worthOf_14 : decode cX5_worthOf 14 = .ok (.iload 4, 2) := by decide +kernel
theorem dX5_worthOf_16 : decode cX5_worthOf 16 = .ok (.invokestatic 127, 3) := by decide +kernel
theorem dX5_worthOf_19 : decode cX5_worthOf 19 = .ok (.ifCond .eq 18, 3) := by decide +kernel
theorem dX5_worthOf_22 : decode cX5_worthOf 22 = .ok (.aload_n 0, 1) := by decide +kernel
theorem dX5_worthOf_23 : decode cX5_worthOf 23 = .ok (.getfield 31, 3) := by decide +kernel
theorem dX5_worthOf_26 : decode cX5_worthOf 26 = .ok (.bipush 12, 2) := by decide +kernel
theorem dX5_worthOf_28 : decode cX5_worthOf 28 = .ok (.iload_n 1, 1) := by decide +kernel
theorem dX5_worthOf_29 : decode cX5_worthOf 29 = .ok (.imul, 1) := by decide +kernel
theorem dX5_worthOf_30 : decode cX5_worthOf 30 = .ok (.iload 4, 2) := by decide +kernel
theorem dX5_worthOf_32 : decode cX5_worthOf 32 = .ok (.iadd, 1) := by decide +kernel
theorem dX5_worthOf_33 : decode cX5_worthOf 33 = .ok (.iaload, 1) := by decide +kernel
theorem dX5_worthOf_34 : decode cX5_worthOf 34 = .ok (.goto 4, 3) := by decide +kernel
theorem dX5_worthOf_37 : decode cX5_worthOf 37 = .ok (.iconst 0, 1) := by decide +kernel
theorem dX5_worthOf_38 : decode cX5_worthOf 38 = .ok (.iadd, 1) := by decide +kernel
theorem dX5_worthOf_39 : decode cX5_worthOf 39 = .ok (.istore_n 3, 1) := by decide +kernel
theorem dX5_worthOf_40 : decode cX5_worthOf 40 = .ok (.iinc 4 1, 3) := by decide +kernel
theorem dX5_worthOf_43 : decode cX5_worthOf 43 = .ok (.goto (-38), 3) := by decide +kernel
theorem dX5_worthOf_46 : decode cX5_worthOf 46 = .ok (.iload_n 3, 1) := by decide +kernel
theorem dX5_worthOf_47 : decode cX5_worthOf 47 = .ok (.ireturn, 1) := by decide +kernel
theorem dX5_answers_0 : decode cX5_answers 0 = .ok (.aload_n 0, 1) := by decide +kernel
theorem dX5_answers_1 : decode cX5_answers 1 = .ok (.iload_n 1, 1) := by decide +kernel
theorem dX5_answers_2 : decode cX5_answers 2 = .ok (.iconst (-1), 1) := by decide +kernel
theorem dX5_answers_3 : decode cX5_answers 3 = .ok (.invokevirtual 140, 3) := by decide +kernel
theorem dX5_answers_6 : decode cX5_answers 6 = .ok (.aload_n 0, 1) := by decide +kernel
theorem dX5_answers_7 : decode cX5_answers 7 = .ok (.aload_n 0, 1) := by decide +kernel
theorem dX5_answers_8 : decode cX5_answers 8 = .ok (.iload_n 1, 1) := by decide +kernel
theorem dX5_answers_9 : decode cX5_answers 9 = .ok (.invokevirtual 153, 3) := by decide +kernel
theorem dX5_answers_12 : decode cX5_answers 12 = .ok (.putfield 196, 3) := by decide +kernel
theorem dX5_answers_15 : decode cX5_answers 15 = .ok (.aload_n 0, 1) := by decide +kernel
theorem dX5_answers_16 : decode cX5_answers 16 = .ok (.iconst (-1), 1) := by decide +kernel
theorem dX5_answers_17 : decode cX5_answers 17 = .ok (.putfield 199, 3) := by decide +kernel
theorem dX5_answers_20 : decode cX5_answers 20 = .ok (.iconst 0, 1) := by decide +kernel
theorem dX5_answers_21 : decode cX5_answers 21 = .ok (.istore_n 3, 1) := by decide +kernel
theorem dX5_answers_22 : decode cX5_answers 22 = .ok (.iload_n 3, 1) := by decide +kernel
theorem dX5_answers_23 : decode cX5_answers 23 = .ok (.bipush 24, 2) := by decide +kernel
theorem dX5_answers_25 : decode cX5_answers 25 = .ok (.if_icmp .ge 62, 3) := by decide +kernel
theorem dX5_answers_28 : decode cX5_answers 28 = .ok (.aload_n 0, 1) := by decide +kernel
theorem dX5_answers_29 : decode cX5_answers 29 = .ok (.iload_n 1, 1) := by decide +kernel
theorem dX5_answers_30 : decode cX5_answers 30 = .ok (.bipush 24, 2) := by decide +kernel
theorem dX5_answers_32 : decode cX5_answers 32 = .ok (.iload_n 2, 1) := by decide +kernel
theorem dX5_answers_33 : decode cX5_answers 33 = .ok (.imul, 1) := by decide +kernel
theorem dX5_answers_34 : decode cX5_answers 34 = .ok (.iload_n 3, 1) := by decide +kernel
theorem dX5_answers_35 : decode cX5_answers 35 = .ok (.iadd, 1) := by decide +kernel
theorem dX5_answers_36 : decode cX5_answers 36 = .ok (.invokevirtual 174, 3) := by decide +kernel
theorem dX5_answers_39 : decode cX5_answers 39 = .ok (.ifCond .eq 42, 3) := by decide +kernel
theorem dX5_answers_42 : decode cX5_answers 42 = .ok (.aload_n 0, 1) := by decide +kernel
theorem dX5_answers_43 : decode cX5_answers 43 = .ok (.iload_n 1, 1) := by decide +kernel
theorem dX5_answers_44 : decode cX5_answers 44 = .ok (.iconst 1, 1) := by decide +kernel
theorem dX5_answers_45 : decode cX5_answers 45 = .ok (.iadd, 1) := by decide +kernel
theorem dX5_answers_46 : decode cX5_answers 46 = .ok (.invokevirtual 153, 3) := by decide +kernel
theorem dX5_answers_49 : decode cX5_answers 49 = .ok (.istore 4, 2) := by decide +kernel
theorem dX5_answers_51 : decode cX5_answers 51 = .ok (.aload_n 0, 1) := by decide +kernel
theorem dX5_answers_52 : decode cX5_answers 52 = .ok (.iload_n 2, 1) := by decide +kernel
theorem dX5_answers_53 : decode cX5_answers 53 = .ok (.iload 4, 2) := by decide +kernel
theorem dX5_answers_55 : decode cX5_answers 55 = .ok (.invokevirtual 202, 3) := by decide +kernel
theorem dX5_answers_58 : decode cX5_answers 58 = .ok (.aload_n 0, 1) := by decide +kernel
theorem dX5_answers_59 : decode cX5_answers 59 = .ok (.iload_n 2, 1) := by decide +kernel
theorem dX5_answers_60 : decode cX5_answers 60 = .ok (.aload_n 0, 1) := by decide +kernel
theorem dX5_answers_61 : decode cX5_answers 61 = .ok (.getfield 196, 3) := by decide +kernel
theorem dX5_answers_64 : decode cX5_answers 64 = .ok (.invokevirtual 202, 3) := by decide +kernel
theorem dX5_answers_67 : decode cX5_answers 67 = .ok (.if_icmp .le 14, 3) := by decide +kernel
theorem dX5_answers_70 : decode cX5_answers 70 = .ok (.aload_n 0, 1) := by decide +kernel
theorem dX5_answers_71 : decode cX5_answers 71 = .ok (.iload 4, 2) := by decide +kernel
theorem dX5_answers_73 : decode cX5_answers 73 = .ok (.putfield 196, 3) := by decide +kernel
theorem dX5_answers_76 : decode cX5_answers 76 = .ok (.aload_n 0, 1) := by decide +kernel
theorem dX5_answers_77 : decode cX5_answers 77 = .ok (.iload_n 3, 1) := by decide +kernel
theorem dX5_answers_78 : decode cX5_answers 78 = .ok (.putfield 199, 3) := by decide +kernel
theorem dX5_answers_81 : decode cX5_answers 81 = .ok (.iinc 3 1, 3) := by decide +kernel
theorem dX5_answers_84 : decode cX5_answers 84 = .ok (.goto (-62), 3) := by decide +kernel
theorem dX5_answers_87 : decode cX5_answers 87 = .ok (.return_, 1) := by decide +kernel
theorem dX5_lastOf_0 : decode cX5_lastOf 0 = .ok (.aload_n 0, 1) := by decide +kernel
theorem dX5_lastOf_1 : decode cX5_lastOf 1 = .ok (.aload_n 0, 1) := by decide +kernel
theorem dX5_lastOf_2 : decode cX5_lastOf 2 = .ok (.getfield 108, 3) := by decide +kernel
theorem dX5_lastOf_5 : decode cX5_lastOf 5 = .ok (.iload_n 2, 1) := by decide +kernel
theorem dX5_lastOf_6 : decode cX5_lastOf 6 = .ok (.invokevirtual 205, 3) := by decide +kernel
theorem dX5_lastOf_9 : decode cX5_lastOf 9 = .ok (.aload_n 0, 1) := by decide +kernel
theorem dX5_lastOf_10 : decode cX5_lastOf 10 = .ok (.getfield 196, 3) := by decide +kernel
theorem dX5_lastOf_13 : decode cX5_lastOf 13 = .ok (.istore 4, 2) := by decide +kernel
theorem dX5_lastOf_15 : decode cX5_lastOf 15 = .ok (.iconst (-1), 1) := by decide +kernel
theorem dX5_lastOf_16 : decode cX5_lastOf 16 = .ok (.istore 5, 2) := by decide +kernel
theorem dX5_lastOf_18 : decode cX5_lastOf 18 = .ok (.aload_n 0, 1) := by decide +kernel
theorem dX5_lastOf_19 : decode cX5_lastOf 19 = .ok (.getfield 199, 3) := by decide +kernel
theorem dX5_lastOf_22 : decode cX5_lastOf 22 = .ok (.istore 6, 2) := by decide +kernel
theorem dX5_lastOf_24 : decode cX5_lastOf 24 = .ok (.iconst 0, 1) := by decide +kernel
theorem dX5_lastOf_25 : decode cX5_lastOf 25 = .ok (.istore 7, 2) := by decide +kernel
theorem dX5_lastOf_27 : decode cX5_lastOf 27 = .ok (.iload 7, 2) := by decide +kernel
theorem dX5_lastOf_29 : decode cX5_lastOf 29 = .ok (.bipush 24, 2) := by decide +kernel
theorem dX5_lastOf_31 : decode cX5_lastOf 31 = .ok (.if_icmp .ge 73, 3) := by decide +kernel
theorem dX5_lastOf_34 : decode cX5_lastOf 34 = .ok (.aload_n 0, 1) := by decide +kernel
theorem dX5_lastOf_35 : decode cX5_lastOf 35 = .ok (.aload_n 0, 1) := by decide +kernel
theorem dX5_lastOf_36 : decode cX5_lastOf 36 = .ok (.getfield 108, 3) := by decide +kernel
theorem dX5_lastOf_39 : decode cX5_lastOf 39 = .ok (.bipush 24, 2) := by decide +kernel
theorem dX5_lastOf_41 : decode cX5_lastOf 41 = .ok (.iload_n 1, 1) := by decide +kernel
theorem dX5_lastOf_42 : decode cX5_lastOf 42 = .ok (.imul, 1) := by decide +kernel
theorem dX5_lastOf_43 : decode cX5_lastOf 43 = .ok (.iload 7, 2) := by decide +kernel
theorem dX5_lastOf_45 : decode cX5_lastOf 45 = .ok (.iadd, 1) := by decide +kernel
theorem dX5_lastOf_46 : decode cX5_lastOf 46 = .ok (.invokevirtual 174, 3) := by decide +kernel
theorem dX5_lastOf_49 : decode cX5_lastOf 49 = .ok (.ifCond .eq 49, 3) := by decide +kernel
theorem dX5_lastOf_52 : decode cX5_lastOf 52 = .ok (.aload_n 0, 1) := by decide +kernel
theorem dX5_lastOf_53 : decode cX5_lastOf 53 = .ok (.aload_n 0, 1) := by decide +kernel
theorem dX5_lastOf_54 : decode cX5_lastOf 54 = .ok (.getfield 108, 3) := by decide +kernel
theorem dX5_lastOf_57 : decode cX5_lastOf 57 = .ok (.iconst 1, 1) := by decide +kernel
theorem dX5_lastOf_58 : decode cX5_lastOf 58 = .ok (.iadd, 1) := by decide +kernel
theorem dX5_lastOf_59 : decode cX5_lastOf 59 = .ok (.iload_n 2, 1) := by decide +kernel
theorem dX5_lastOf_60 : decode cX5_lastOf 60 = .ok (.invokevirtual 205, 3) := by decide +kernel
theorem dX5_lastOf_63 : decode cX5_lastOf 63 = .ok (.aload_n 0, 1) := by decide +kernel
theorem dX5_lastOf_64 : decode cX5_lastOf 64 = .ok (.iload_n 1, 1) := by decide +kernel
theorem dX5_lastOf_65 : decode cX5_lastOf 65 = .ok (.aload_n 0, 1) := by decide +kernel
theorem dX5_lastOf_66 : decode cX5_lastOf 66 = .ok (.getfield 196, 3) := by decide +kernel
theorem dX5_lastOf_69 : decode cX5_lastOf 69 = .ok (.invokevirtual 202, 3) := by decide +kernel
theorem dX5_lastOf_72 : decode cX5_lastOf 72 = .ok (.aload_n 0, 1) := by decide +kernel
theorem dX5_lastOf_73 : decode cX5_lastOf 73 = .ok (.iload_n 1, 1) := by decide +kernel
theorem dX5_lastOf_74 : decode cX5_lastOf 74 = .ok (.iload 4, 2) := by decide +kernel
theorem dX5_lastOf_76 : decode cX5_lastOf 76 = .ok (.invokevirtual 202, 3) := by decide +kernel
theorem dX5_lastOf_79 : decode cX5_lastOf 79 = .ok (.if_icmp .le 19, 3) := by decide +kernel
theorem dX5_lastOf_82 : decode cX5_lastOf 82 = .ok (.aload_n 0, 1) := by decide +kernel
theorem dX5_lastOf_83 : decode cX5_lastOf 83 = .ok (.getfield 196, 3) := by decide +kernel
theorem dX5_lastOf_86 : decode cX5_lastOf 86 = .ok (.istore 4, 2) := by decide +kernel
theorem dX5_lastOf_88 : decode cX5_lastOf 88 = .ok (.iload 7, 2) := by decide +kernel
theorem dX5_lastOf_90 : decode cX5_lastOf 90 = .ok (.istore 5, 2) := by decide +kernel
theorem dX5_lastOf_92 : decode cX5_lastOf 92 = .ok (.aload_n 0, 1) := by decide +kernel
theorem dX5_lastOf_93 : decode cX5_lastOf 93 = .ok (.getfield 199, 3) := by decide +kernel
theorem dX5_lastOf_96 : decode cX5_lastOf 96 = .ok (.istore 6, 2) := by decide +kernel
theorem dX5_lastOf_98 : decode cX5_lastOf 98 = .ok (.iinc 7 1, 3) := by decide +kernel
theorem dX5_lastOf_101 : decode cX5_lastOf 101 = .ok (.goto (-74), 3) := by decide +kernel
theorem dX5_lastOf_104 : decode cX5_lastOf 104 = .ok (.iload_n 3, 1) := by decide +kernel
theorem dX5_lastOf_105 : decode cX5_lastOf 105 = .ok (.ifCond .ne 13, 3) := by decide +kernel
theorem dX5_lastOf_108 : decode cX5_lastOf 108 = .ok (.aload_n 0, 1) := by decide +kernel
theorem dX5_lastOf_109 : decode cX5_lastOf 109 = .ok (.iload_n 1, 1) := by decide +kernel
theorem dX5_lastOf_110 : decode cX5_lastOf 110 = .ok (.iload 4, 2) := by decide +kernel
theorem dX5_lastOf_112 : decode cX5_lastOf 112 = .ok (.invokevirtual 202, 3) := by decide +kernel
theorem dX5_lastOf_115 : decode cX5_lastOf 115 = .ok (.goto 30, 3) := by decide +kernel
theorem dX5_lastOf_118 : decode cX5_lastOf 118 = .ok (.iload_n 3, 1) := by decide +kernel
theorem dX5_lastOf_119 : decode cX5_lastOf 119 = .ok (.iconst 1, 1) := by decide +kernel
theorem dX5_lastOf_120 : decode cX5_lastOf 120 = .ok (.if_icmp .ne 13, 3) := by decide +kernel
theorem dX5_lastOf_123 : decode cX5_lastOf 123 = .ok (.aload_n 0, 1) := by decide +kernel
theorem dX5_lastOf_124 : decode cX5_lastOf 124 = .ok (.iload_n 2, 1) := by decide +kernel
theorem dX5_lastOf_125 : decode cX5_lastOf 125 = .ok (.iload 4, 2) := by decide +kernel
theorem dX5_lastOf_127 : decode cX5_lastOf 127 = .ok (.invokevirtual 202, 3) := by decide +kernel
theorem dX5_lastOf_130 : decode cX5_lastOf 130 = .ok (.goto 15, 3) := by decide +kernel
theorem dX5_lastOf_133 : decode cX5_lastOf 133 = .ok (.iload_n 3, 1) := by decide +kernel
theorem dX5_lastOf_134 : decode cX5_lastOf 134 = .ok (.iconst 2, 1) := by decide +kernel
theorem dX5_lastOf_135 : decode cX5_lastOf 135 = .ok (.if_icmp .ne 8, 3) := by decide +kernel
theorem dX5_lastOf_138 : decode cX5_lastOf 138 = .ok (.iload 5, 2) := by decide +kernel
theorem dX5_lastOf_140 : decode cX5_lastOf 140 = .ok (.goto 5, 3) := by decide +kernel
theorem dX5_lastOf_143 : decode cX5_lastOf 143 = .ok (.iload 6, 2) := by decide +kernel
theorem dX5_lastOf_145 : decode cX5_lastOf 145 = .ok (.ireturn, 1) := by decide +kernel
theorem dX5_last_0 : decode cX5_last 0 = .ok (.aload_n 0, 1) := by decide +kernel
theorem dX5_last_1 : decode cX5_last 1 = .ok (.invokevirtual 100, 3) := by decide +kernel
theorem dX5_last_4 : decode cX5_last 4 = .ok (.pop, 1) := by decide +kernel
theorem dX5_last_5 : decode cX5_last 5 = .ok (.iload_n 1, 1) := by decide +kernel
theorem dX5_last_6 : decode cX5_last 6 = .ok (.i2l, 1) := by decide +kernel
theorem dX5_last_7 : decode cX5_last 7 = .ok (.lconst 0, 1) := by decide +kernel
theorem dX5_last_8 : decode cX5_last 8 = .ok (.ldc2_w 88, 3) := by decide +kernel
theorem dX5_last_11 : decode cX5_last 11 = .ok (.invokestatic 44, 3) := by decide +kernel
theorem dX5_last_14 : decode cX5_last 14 = .ok (.ifCond .eq 42, 3) := by decide +kernel
theorem dX5_last_17 : decode cX5_last 17 = .ok (.iload_n 2, 1) := by decide +kernel
theorem dX5_last_18 : decode cX5_last 18 = .ok (.i2l, 1) := by decide +kernel
theorem dX5_last_19 : decode cX5_last 19 = .ok (.lconst 0, 1) := by decide +kernel
theorem dX5_last_20 : decode cX5_last 20 = .ok (.ldc2_w 88, 3) := by decide +kernel
theorem dX5_last_23 : decode cX5_last 23 = .ok (.invokestatic 44, 3) := by decide +kernel
theorem dX5_last_26 : decode cX5_last 26 = .ok (.ifCond .eq 30, 3) := by decide +kernel
theorem dX5_last_29 : decode cX5_last 29 = .ok (.iload_n 1, 1) := by decide +kernel
theorem dX5_last_30 : decode cX5_last 30 = .ok (.iload_n 2, 1) := by decide +kernel
theorem dX5_last_31 : decode cX5_last 31 = .ok (.if_icmp .eq 25, 3) := by decide +kernel
theorem dX5_last_34 : decode cX5_last 34 = .ok (.iload_n 3, 1) := by decide +kernel
theorem dX5_last_35 : decode cX5_last 35 = .ok (.i2l, 1) := by decide +kernel
theorem dX5_last_36 : decode cX5_last 36 = .ok (.lconst 0, 1) := by decide +kernel
theorem dX5_last_37 : decode cX5_last 37 = .ok (.ldc2_w 52, 3) := by decide +kernel
theorem dX5_last_40 : decode cX5_last 40 = .ok (.invokestatic 44, 3) := by decide +kernel
theorem dX5_last_43 : decode cX5_last 43 = .ok (.ifCond .eq 13, 3) := by decide +kernel
theorem dX5_last_46 : decode cX5_last 46 = .ok (.aload_n 0, 1) := by decide +kernel
theorem dX5_last_47 : decode cX5_last 47 = .ok (.iload_n 1, 1) := by decide +kernel
theorem dX5_last_48 : decode cX5_last 48 = .ok (.iload_n 2, 1) := by decide +kernel
theorem dX5_last_49 : decode cX5_last 49 = .ok (.iload_n 3, 1) := by decide +kernel
theorem dX5_last_50 : decode cX5_last 50 = .ok (.invokevirtual 208, 3) := by decide +kernel
theorem dX5_last_53 : decode cX5_last 53 = .ok (.goto 6, 3) := by decide +kernel
theorem dX5_last_56 : decode cX5_last 56 = .ok (.sipush (-1002), 3) := by decide +kernel
theorem dX5_last_59 : decode cX5_last 59 = .ok (.ireturn, 1) := by decide +kernel
theorem dX5_seen_0 : decode cX5_seen 0 = .ok (.iload_n 1, 1) := by decide +kernel
theorem dX5_seen_1 : decode cX5_seen 1 = .ok (.i2l, 1) := by decide +kernel
theorem dX5_seen_2 : decode cX5_seen 2 = .ok (.lconst 0, 1) := by decide +kernel
theorem dX5_seen_3 : decode cX5_seen 3 = .ok (.ldc2_w 118, 3) := by decide +kernel
theorem dX5_seen_6 : decode cX5_seen 6 = .ok (.invokestatic 44, 3) := by decide +kernel
theorem dX5_seen_9 : decode cX5_seen 9 = .ok (.ifCond .eq 10, 3) := by decide +kernel
theorem dX5_seen_12 : decode cX5_seen 12 = .ok (.iload_n 2, 1) := by decide +kernel
theorem dX5_seen_13 : decode cX5_seen 13 = .ok (.invokestatic 156, 3) := by decide +kernel
theorem dX5_seen_16 : decode cX5_seen 16 = .ok (.ifCond .ne 6, 3) := by decide +kernel
theorem dX5_seen_19 : decode cX5_seen 19 = .ok (.bipush (-2), 2) := by decide +kernel
theorem dX5_seen_21 : decode cX5_seen 21 = .ok (.ireturn, 1) := by decide +kernel
theorem dX5_seen_22 : decode cX5_seen 22 = .ok (.aload_n 0, 1) := by decide +kernel
theorem dX5_seen_23 : decode cX5_seen 23 = .ok (.getfield 211, 3) := by decide +kernel
theorem dX5_seen_26 : decode cX5_seen 26 = .ok (.bipush 8, 2) := by decide +kernel
theorem dX5_seen_28 : decode cX5_seen 28 = .ok (.if_icmp .ne 6, 3) := by decide +kernel
theorem dX5_seen_31 : decode cX5_seen 31 = .ok (.bipush (-4), 2) := by decide +kernel
theorem dX5_seen_33 : decode cX5_seen 33 = .ok (.ireturn, 1) := by decide +kernel
theorem dX5_seen_34 : decode cX5_seen 34 = .ok (.aload_n 0, 1) := by decide +kernel
theorem dX5_seen_35 : decode cX5_seen 35 = .ok (.getfield 41, 3) := by decide +kernel
theorem dX5_seen_38 : decode cX5_seen 38 = .ok (.iconst 2, 1) := by decide +kernel
theorem dX5_seen_39 : decode cX5_seen 39 = .ok (.aload_n 0, 1) := by decide +kernel
theorem dX5_seen_40 : decode cX5_seen 40 = .ok (.getfield 211, 3) := by decide +kernel
theorem dX5_seen_43 : decode cX5_seen 43 = .ok (.imul, 1) := by decide +kernel
theorem dX5_seen_44 : decode cX5_seen 44 = .ok (.iload_n 1, 1) := by decide +kernel
theorem dX5_seen_45 : decode cX5_seen 45 = .ok (.iastore, 1) := by decide +kernel
theorem dX5_seen_46 : decode cX5_seen 46 = .ok (.aload_n 0, 1) := by decide +kernel
theorem dX5_seen_47 : decode cX5_seen 47 = .ok (.getfield 41, 3) := by decide +kernel
theorem dX5_seen_50 : decode cX5_seen 50 = .ok (.iconst 2, 1) := by decide +kernel
theorem dX5_seen_51 : decode cX5_seen 51 = .ok (.aload_n 0, 1) := by decide +kernel
theorem dX5_seen_52 : decode cX5_seen 52 = .ok (.getfield 211, 3) := by decide +kernel
theorem dX5_seen_55 : decode cX5_seen 55 = .ok (.imul, 1) := by decide +kernel
theorem dX5_seen_56 : decode cX5_seen 56 = .ok (.iconst 1, 1) := by decide +kernel
theorem dX5_seen_57 : decode cX5_seen 57 = .ok (.iadd, 1) := by decide +kernel
theorem dX5_seen_58 : decode cX5_seen 58 = .ok (.iload_n 2, 1) := by decide +kernel
theorem dX5_seen_59 : decode cX5_seen 59 = .ok (.iastore, 1) := by decide +kernel
theorem dX5_seen_60 : decode cX5_seen 60 = .ok (.aload_n 0, 1) := by decide +kernel
theorem dX5_seen_61 : decode cX5_seen 61 = .ok (.dup, 1) := by decide +kernel
theorem dX5_seen_62 : decode cX5_seen 62 = .ok (.getfield 211, 3) := by decide +kernel
theorem dX5_seen_65 : decode cX5_seen 65 = .ok (.iconst 1, 1) := by decide +kernel
theorem dX5_seen_66 : decode cX5_seen 66 = .ok (.iadd, 1) := by decide +kernel
theorem dX5_seen_67 : decode cX5_seen 67 = .ok (.putfield 211, 3) := by decide +kernel
theorem dX5_seen_70 : decode cX5_seen 70 = .ok (.aload_n 0, 1) := by decide +kernel
theorem dX5_seen_71 : decode cX5_seen 71 = .ok (.getfield 211, 3) := by decide +kernel
theorem dX5_seen_74 : decode cX5_seen 74 = .ok (.ireturn, 1) := by decide +kernel
theorem dX5_forget_0 : decode cX5_forget 0 = .ok (.aload_n 0, 1) := by decide +kernel
theorem dX5_forget_1 : decode cX5_forget 1 = .ok (.getfield 211, 3) := by decide +kernel
theorem dX5_forget_4 : decode cX5_forget 4 = .ok (.istore_n 1, 1) := by decide +kernel
theorem dX5_forget_5 : decode cX5_forget 5 = .ok (.aload_n 0, 1) := by decide +kernel
theorem dX5_forget_6 : decode cX5_forget 6 = .ok (.iconst 0, 1) := by decide +kernel
theorem dX5_forget_7 : decode cX5_forget 7 = .ok (.putfield 211, 3) := by decide +kernel
theorem dX5_forget_10 : decode cX5_forget 10 = .ok (.iload_n 1, 1) := by decide +kernel
theorem dX5_forget_11 : decode cX5_forget 11 = .ok (.ireturn, 1) := by decide +kernel
theorem dX5_oftenNow_0 : decode cX5_oftenNow 0 = .ok (.iconst 0, 1) := by decide +kernel
theorem dX5_oftenNow_1 : decode cX5_oftenNow 1 = .ok (.istore_n 1, 1) := by decide +kernel
theorem dX5_oftenNow_2 : decode cX5_oftenNow 2 = .ok (.iconst 0, 1) := by decide +kernel
theorem dX5_oftenNow_3 : decode cX5_oftenNow 3 = .ok (.istore_n 2, 1) := by decide +kernel
theorem dX5_oftenNow_4 : decode cX5_oftenNow 4 = .ok (.iload_n 2, 1) := by decide +kernel
theorem dX5_oftenNow_5 : decode cX5_oftenNow 5 = .ok (.aload_n 0, 1) := by decide +kernel
theorem dX5_oftenNow_6 : decode cX5_oftenNow 6 = .ok (.getfield 108, 3) := by decide +kernel
theorem dX5_oftenNow_9 : decode cX5_oftenNow 9 = .ok (.if_icmp .gt 91, 3) := by decide +kernel
theorem dX5_oftenNow_12 : decode cX5_oftenNow 12 = .ok (.aload_n 0, 1) := by decide +kernel
theorem dX5_oftenNow_13 : decode cX5_oftenNow 13 = .ok (.iload_n 2, 1) := by decide +kernel
theorem dX5_oftenNow_14 : decode cX5_oftenNow 14 = .ok (.iconst 0, 1) := by decide +kernel
theorem dX5_oftenNow_15 : decode cX5_oftenNow 15 = .ok (.invokevirtual 159, 3) := by decide +kernel
theorem dX5_oftenNow_18 : decode cX5_oftenNow 18 = .ok (.istore_n 3, 1) := by decide +kernel
theorem dX5_oftenNow_19 : decode cX5_oftenNow 19 = .ok (.iconst 1, 1) := by decide +kernel
theorem dX5_oftenNow_20 : decode cX5_oftenNow 20 = .ok (.istore 4, 2) := by decide +kernel
theorem dX5_oftenNow_22 : decode cX5_oftenNow 22 = .ok (.iconst 0, 1) := by decide +kernel
theorem dX5_oftenNow_23 : decode cX5_oftenNow 23 = .ok (.istore 5, 2) := by decide +kernel
theorem dX5_oftenNow_25 : decode cX5_oftenNow 25 = .ok (.iload 5, 2) := by decide +kernel
theorem dX5_oftenNow_27 : decode cX5_oftenNow 27 = .ok (.aload_n 0, 1) := by decide +kernel
theorem dX5_oftenNow_28 : decode cX5_oftenNow 28 = .ok (.getfield 211, 3) := by decide +kernel
theorem dX5_oftenNow_31 : decode cX5_oftenNow 31 = .ok (.if_icmp .ge 48, 3) := by decide +kernel
theorem dX5_oftenNow_34 : decode cX5_oftenNow 34 = .ok (.iload 4, 2) := by decide +kernel
theorem dX5_oftenNow_36 : decode cX5_oftenNow 36 = .ok (.ifCond .eq 34, 3) := by decide +kernel
theorem dX5_oftenNow_39 : decode cX5_oftenNow 39 = .ok (.iload_n 3, 1) := by decide +kernel
theorem dX5_oftenNow_40 : decode cX5_oftenNow 40 = .ok (.aload_n 0, 1) := by decide +kernel
theorem dX5_oftenNow_41 : decode cX5_oftenNow 41 = .ok (.getfield 41, 3) := by decide +kernel
theorem dX5_oftenNow_44 : decode cX5_oftenNow 44 = .ok (.iconst 2, 1) := by decide +kernel
theorem dX5_oftenNow_45 : decode cX5_oftenNow 45 = .ok (.iload 5, 2) := by decide +kernel
theorem dX5_oftenNow_47 : decode cX5_oftenNow 47 = .ok (.imul, 1) := by decide +kernel
theorem dX5_oftenNow_48 : decode cX5_oftenNow 48 = .ok (.iaload, 1) := by decide +kernel
theorem dX5_oftenNow_49 : decode cX5_oftenNow 49 = .ok (.ishr, 1) := by decide +kernel
theorem dX5_oftenNow_50 : decode cX5_oftenNow 50 = .ok (.iconst 1, 1) := by decide +kernel
theorem dX5_oftenNow_51 : decode cX5_oftenNow 51 = .ok (.iand, 1) := by decide +kernel
theorem dX5_oftenNow_52 : decode cX5_oftenNow 52 = .ok (.aload_n 0, 1) := by decide +kernel
theorem dX5_oftenNow_53 : decode cX5_oftenNow 53 = .ok (.getfield 41, 3) := by decide +kernel
theorem dX5_oftenNow_56 : decode cX5_oftenNow 56 = .ok (.iconst 2, 1) := by decide +kernel
theorem dX5_oftenNow_57 : decode cX5_oftenNow 57 = .ok (.iload 5, 2) := by decide +kernel
theorem dX5_oftenNow_59 : decode cX5_oftenNow 59 = .ok (.imul, 1) := by decide +kernel
theorem dX5_oftenNow_60 : decode cX5_oftenNow 60 = .ok (.iconst 1, 1) := by decide +kernel
theorem dX5_oftenNow_61 : decode cX5_oftenNow 61 = .ok (.iadd, 1) := by decide +kernel
theorem dX5_oftenNow_62 : decode cX5_oftenNow 62 = .ok (.iaload, 1) := by decide +kernel
theorem dX5_oftenNow_63 : decode cX5_oftenNow 63 = .ok (.if_icmp .ne 7, 3) := by decide +kernel
theorem dX5_oftenNow_66 : decode cX5_oftenNow 66 = .ok (.iconst 1, 1) := by decide +kernel
theorem dX5_oftenNow_67 : decode cX5_oftenNow 67 = .ok (.goto 4, 3) := by decide +kernel
theorem dX5_oftenNow_70 : decode cX5_oftenNow 70 = .ok (.iconst 0, 1) := by decide +kernel
theorem dX5_oftenNow_71 : decode cX5_oftenNow 71 = .ok (.istore 4, 2) := by decide +kernel
theorem dX5_oftenNow_73 : decode cX5_oftenNow 73 = .ok (.iinc 5 1, 3) := by decide +kernel
theorem dX5_oftenNow_76 : decode cX5_oftenNow 76 = .ok (.goto (-51), 3) := by decide +kernel
theorem dX5_oftenNow_79 : decode cX5_oftenNow 79 = .ok (.iload_n 1, 1) := by decide +kernel
theorem dX5_oftenNow_80 : decode cX5_oftenNow 80 = .ok (.iload 4, 2) := by decide +kernel
theorem dX5_oftenNow_82 : decode cX5_oftenNow 82 = .ok (.ifCond .eq 9, 3) := by decide +kernel
theorem dX5_oftenNow_85 : decode cX5_oftenNow 85 = .ok (.iconst 1, 1) := by decide +kernel
theorem dX5_oftenNow_86 : decode cX5_oftenNow 86 = .ok (.iload_n 2, 1) := by decide +kernel
theorem dX5_oftenNow_87 : decode cX5_oftenNow 87 = .ok (.ishl, 1) := by decide +kernel
theorem dX5_oftenNow_88 : decode cX5_oftenNow 88 = .ok (.goto 4, 3) := by decide +kernel
theorem dX5_oftenNow_91 : decode cX5_oftenNow 91 = .ok (.iconst 0, 1) := by decide +kernel
theorem dX5_oftenNow_92 : decode cX5_oftenNow 92 = .ok (.ior, 1) := by decide +kernel
theorem dX5_oftenNow_93 : decode cX5_oftenNow 93 = .ok (.istore_n 1, 1) := by decide +kernel
theorem dX5_oftenNow_94 : decode cX5_oftenNow 94 = .ok (.iinc 2 1, 3) := by decide +kernel
theorem dX5_oftenNow_97 : decode cX5_oftenNow 97 = .ok (.goto (-93), 3) := by decide +kernel
theorem dX5_oftenNow_100 : decode cX5_oftenNow 100 = .ok (.iload_n 1, 1) := by decide +kernel
theorem dX5_oftenNow_101 : decode cX5_oftenNow 101 = .ok (.ireturn, 1) := by decide +kernel
theorem dX5_often_0 : decode cX5_often 0 = .ok (.aload_n 0, 1) := by decide +kernel
theorem dX5_often_1 : decode cX5_often 1 = .ok (.invokevirtual 100, 3) := by decide +kernel
theorem dX5_often_4 : decode cX5_often 4 = .ok (.pop, 1) := by decide +kernel
theorem dX5_often_5 : decode cX5_often 5 = .ok (.aload_n 0, 1) := by decide +kernel
theorem dX5_often_6 : decode cX5_often 6 = .ok (.invokevirtual 214, 3) := by decide +kernel
theorem dX5_often_9 : decode cX5_often 9 = .ok (.ireturn, 1) := by decide +kernel
theorem dX5_lot_0 : decode cX5_lot 0 = .ok (.aload_n 0, 1) := by decide +kernel
theorem dX5_lot_1 : decode cX5_lot 1 = .ok (.ldc 217, 2) := by decide +kernel
theorem dX5_lot_3 : decode cX5_lot 3 = .ok (.aload_n 0, 1) := by decide +kernel
theorem dX5_lot_4 : decode cX5_lot 4 = .ok (.getfield 218, 3) := by decide +kernel
theorem dX5_lot_7 : decode cX5_lot 7 = .ok (.imul, 1) := by decide +kernel
theorem dX5_lot_8 : decode cX5_lot 8 = .ok (.sipush 12345, 3) := by decide +kernel
theorem dX5_lot_11 : decode cX5_lot 11 = .ok (.iadd, 1) := by decide +kernel
theorem dX5_lot_12 : decode cX5_lot 12 = .ok (.putfield 218, 3) := by decide +kernel
theorem dX5_lot_15 : decode cX5_lot 15 = .ok (.aload_n 0, 1) := by decide +kernel
theorem dX5_lot_16 : decode cX5_lot 16 = .ok (.getfield 218, 3) := by decide +kernel
theorem dX5_lot_19 : decode cX5_lot 19 = .ok (.bipush 16, 2) := by decide +kernel
theorem dX5_lot_21 : decode cX5_lot 21 = .ok (.iushr, 1) := by decide +kernel
theorem dX5_lot_22 : decode cX5_lot 22 = .ok (.iload_n 1, 1) := by decide +kernel
theorem dX5_lot_23 : decode cX5_lot 23 = .ok (.irem, 1) := by decide +kernel
theorem dX5_lot_24 : decode cX5_lot 24 = .ok (.ireturn, 1) := by decide +kernel
theorem dX5_among_0 : decode cX5_among 0 = .ok (.iload_n 1, 1) := by decide +kernel
theorem dX5_among_1 : decode cX5_among 1 = .ok (.istore_n 2, 1) := by decide +kernel
theorem dX5_among_2 : decode cX5_among 2 = .ok (.iconst 0, 1) := by decide +kernel
theorem dX5_among_3 : decode cX5_among 3 = .ok (.istore_n 3, 1) := by decide +kernel
theorem dX5_among_4 : decode cX5_among 4 = .ok (.iload_n 0, 1) := by decide +kernel
theorem dX5_among_5 : decode cX5_among 5 = .ok (.iload_n 3, 1) := by decide +kernel
theorem dX5_among_6 : decode cX5_among 6 = .ok (.invokestatic 127, 3) := by decide +kernel
theorem dX5_among_9 : decode cX5_among 9 = .ok (.ifCond .eq 7, 3) := by decide +kernel
theorem dX5_among_12 : decode cX5_among 12 = .ok (.iload_n 2, 1) := by decide +kernel
theorem dX5_among_13 : decode cX5_among 13 = .ok (.ifCond .le 25, 3) := by decide +kernel
theorem dX5_among_16 : decode cX5_among 16 = .ok (.iload_n 2, 1) := by decide +kernel
theorem dX5_among_17 : decode cX5_among 17 = .ok (.iload_n 0, 1) := by decide +kernel
theorem dX5_among_18 : decode cX5_among 18 = .ok (.iload_n 3, 1) := by decide +kernel
theorem dX5_among_19 : decode cX5_among 19 = .ok (.invokestatic 127, 3) := by decide +kernel
theorem dX5_among_22 : decode cX5_among 22 = .ok (.ifCond .eq 7, 3) := by decide +kernel
theorem dX5_among_25 : decode cX5_among 25 = .ok (.iconst 1, 1) := by decide +kernel
theorem dX5_among_26 : decode cX5_among 26 = .ok (.goto 4, 3) := by decide +kernel
theorem dX5_among_29 : decode cX5_among 29 = .ok (.iconst 0, 1) := by decide +kernel
theorem dX5_among_30 : decode cX5_among 30 = .ok (.isub, 1) := by decide +kernel
theorem dX5_among_31 : decode cX5_among 31 = .ok (.istore_n 2, 1) := by decide +kernel
theorem dX5_among_32 : decode cX5_among 32 = .ok (.iinc 3 1, 3) := by decide +kernel
theorem dX5_among_35 : decode cX5_among 35 = .ok (.goto (-31), 3) := by decide +kernel
theorem dX5_among_38 : decode cX5_among 38 = .ok (.iload_n 3, 1) := by decide +kernel
theorem dX5_among_39 : decode cX5_among 39 = .ok (.ireturn, 1) := by decide +kernel
theorem dX5_ofOthers_0 : decode cX5_ofOthers 0 = .ok (.iconst 0, 1) := by decide +kernel
theorem dX5_ofOthers_1 : decode cX5_ofOthers 1 = .ok (.istore_n 2, 1) := by decide +kernel
theorem dX5_ofOthers_2 : decode cX5_ofOthers 2 = .ok (.iconst 0, 1) := by decide +kernel
theorem dX5_ofOthers_3 : decode cX5_ofOthers 3 = .ok (.istore_n 3, 1) := by decide +kernel
theorem dX5_ofOthers_4 : decode cX5_ofOthers 4 = .ok (.iload_n 3, 1) := by decide +kernel
theorem dX5_ofOthers_5 : decode cX5_ofOthers 5 = .ok (.aload_n 0, 1) := by decide +kernel
theorem dX5_ofOthers_6 : decode cX5_ofOthers 6 = .ok (.getfield 81, 3) := by decide +kernel
theorem dX5_ofOthers_9 : decode cX5_ofOthers 9 = .ok (.if_icmp .ge 31, 3) := by decide +kernel
theorem dX5_ofOthers_12 : decode cX5_ofOthers 12 = .ok (.iload_n 2, 1) := by decide +kernel
theorem dX5_ofOthers_13 : decode cX5_ofOthers 13 = .ok (.aload_n 0, 1) := by decide +kernel
theorem dX5_ofOthers_14 : decode cX5_ofOthers 14 = .ok (.getfield 25, 3) := by decide +kernel
theorem dX5_ofOthers_17 : decode cX5_ofOthers 17 = .ok (.iconst 3, 1) := by decide +kernel
theorem dX5_ofOthers_18 : decode cX5_ofOthers 18 = .ok (.iload_n 3, 1) := by decide +kernel
theorem dX5_ofOthers_19 : decode cX5_ofOthers 19 = .ok (.imul, 1) := by decide +kernel
theorem dX5_ofOthers_20 : decode cX5_ofOthers 20 = .ok (.iaload, 1) := by decide +kernel
theorem dX5_ofOthers_21 : decode cX5_ofOthers 21 = .ok (.iload_n 1, 1) := by decide +kernel
theorem dX5_ofOthers_22 : decode cX5_ofOthers 22 = .ok (.if_icmp .eq 9, 3) := by decide +kernel
theorem dX5_ofOthers_25 : decode cX5_ofOthers 25 = .ok (.iconst 1, 1) := by decide +kernel
theorem dX5_ofOthers_26 : decode cX5_ofOthers 26 = .ok (.iload_n 3, 1) := by decide +kernel
theorem dX5_ofOthers_27 : decode cX5_ofOthers 27 = .ok (.ishl, 1) := by decide +kernel
theorem dX5_ofOthers_28 : decode cX5_ofOthers 28 = .ok (.goto 4, 3) := by decide +kernel
theorem dX5_ofOthers_31 : decode cX5_ofOthers 31 = .ok (.iconst 0, 1) := by decide +kernel
theorem dX5_ofOthers_32 : decode cX5_ofOthers 32 = .ok (.ior, 1) := by decide +kernel
theorem dX5_ofOthers_33 : decode cX5_ofOthers 33 = .ok (.istore_n 2, 1) := by decide +kernel
theorem dX5_ofOthers_34 : decode cX5_ofOthers 34 = .ok (.iinc 3 1, 3) := by decide +kernel
theorem dX5_ofOthers_37 : decode cX5_ofOthers 37 = .ok (.goto (-33), 3) := by decide +kernel
theorem dX5_ofOthers_40 : decode cX5_ofOthers 40 = .ok (.iload_n 2, 1) := by decide +kernel
theorem dX5_ofOthers_41 : decode cX5_ofOthers 41 = .ok (.ireturn, 1) := by decide +kernel
theorem dX5_drawnOf_0 : decode cX5_drawnOf 0 = .ok (.aload_n 0, 1) := by decide +kernel
theorem dX5_drawnOf_1 : decode cX5_drawnOf 1 = .ok (.iload_n 1, 1) := by decide +kernel
theorem dX5_drawnOf_2 : decode cX5_drawnOf 2 = .ok (.putfield 218, 3) := by decide +kernel
theorem dX5_drawnOf_5 : decode cX5_drawnOf 5 = .ok (.iconst 0, 1) := by decide +kernel
theorem dX5_drawnOf_6 : decode cX5_drawnOf 6 = .ok (.istore 4, 2) := by decide +kernel
theorem dX5_drawnOf_8 : decode cX5_drawnOf 8 = .ok (.iconst 1, 1) := by decide +kernel
theorem dX5_drawnOf_9 : decode cX5_drawnOf 9 = .ok (.istore 5, 2) := by decide +kernel
theorem dX5_drawnOf_11 : decode cX5_drawnOf 11 = .ok (.iload 5, 2) := by decide +kernel
theorem dX5_drawnOf_13 : decode cX5_drawnOf 13 = .ok (.ifCond .eq 147, 3) := by decide +kernel
theorem dX5_drawnOf_16 : decode cX5_drawnOf 16 = .ok (.iload 4, 2) := by decide +kernel
theorem dX5_drawnOf_18 : decode cX5_drawnOf 18 = .ok (.iload_n 2, 1) := by decide +kernel
theorem dX5_drawnOf_19 : decode cX5_drawnOf 19 = .ok (.if_icmp .ge 141, 3) := by decide +kernel
theorem dX5_drawnOf_22 : decode cX5_drawnOf 22 = .ok (.aload_n 0, 1) := by decide +kernel
theorem dX5_drawnOf_23 : decode cX5_drawnOf 23 = .ok (.getfield 108, 3) := by decide +kernel
theorem dX5_drawnOf_26 : decode cX5_drawnOf 26 = .ok (.iload 4, 2) := by decide +kernel
theorem dX5_drawnOf_28 : decode cX5_drawnOf 28 = .ok (.iadd, 1) := by decide +kernel
theorem dX5_drawnOf_29 : decode cX5_drawnOf 29 = .ok (.bipush 12, 2) := by decide +kernel
theorem dX5_drawnOf_31 : decode cX5_drawnOf 31 = .ok (.if_icmp .ge 129, 3) := by decide +kernel
theorem dX5_drawnOf_34 : decode cX5_drawnOf 34 = .ok (.aload_n 0, 1) := by decide +kernel
theorem dX5_drawnOf_35 : decode cX5_drawnOf 35 = .ok (.aload_n 0, 1) := by decide +kernel
theorem dX5_drawnOf_36 : decode cX5_drawnOf 36 = .ok (.getfield 108, 3) := by decide +kernel
theorem dX5_drawnOf_39 : decode cX5_drawnOf 39 = .ok (.iload 4, 2) := by decide +kernel
theorem dX5_drawnOf_41 : decode cX5_drawnOf 41 = .ok (.iadd, 1) := by decide +kernel
theorem dX5_drawnOf_42 : decode cX5_drawnOf 42 = .ok (.iconst (-1), 1) := by decide +kernel
theorem dX5_drawnOf_43 : decode cX5_drawnOf 43 = .ok (.invokevirtual 140, 3) := by decide +kernel
theorem dX5_drawnOf_46 : decode cX5_drawnOf 46 = .ok (.bipush 63, 2) := by decide +kernel
theorem dX5_drawnOf_48 : decode cX5_drawnOf 48 = .ok (.aload_n 0, 1) := by decide +kernel
theorem dX5_drawnOf_49 : decode cX5_drawnOf 49 = .ok (.getfield 124, 3) := by decide +kernel
theorem dX5_drawnOf_52 : decode cX5_drawnOf 52 = .ok (.iconst (-1), 1) := by decide +kernel
theorem dX5_drawnOf_53 : decode cX5_drawnOf 53 = .ok (.ixor, 1) := by decide +kernel
theorem dX5_drawnOf_54 : decode cX5_drawnOf 54 = .ok (.iand, 1) := by decide +kernel
theorem dX5_drawnOf_55 : decode cX5_drawnOf 55 = .ok (.istore 6, 2) := by decide +kernel
theorem dX5_drawnOf_57 : decode cX5_drawnOf 57 = .ok (.iload 6, 2) := by decide +kernel
theorem dX5_drawnOf_59 : decode cX5_drawnOf 59 = .ok (.ifCond .eq 7, 3) := by decide +kernel
theorem dX5_drawnOf_62 : decode cX5_drawnOf 62 = .ok (.iconst 1, 1) := by decide +kernel
theorem dX5_drawnOf_63 : decode cX5_drawnOf 63 = .ok (.goto 4, 3) := by decide +kernel
theorem dX5_drawnOf_66 : decode cX5_drawnOf 66 = .ok (.iconst 0, 1) := by decide +kernel
theorem dX5_drawnOf_67 : decode cX5_drawnOf 67 = .ok (.istore 5, 2) := by decide +kernel
theorem dX5_drawnOf_69 : decode cX5_drawnOf 69 = .ok (.iload 5, 2) := by decide +kernel
theorem dX5_drawnOf_71 : decode cX5_drawnOf 71 = .ok (.ifCond .eq 86, 3) := by decide +kernel
theorem dX5_drawnOf_74 : decode cX5_drawnOf 74 = .ok (.iload 6, 2) := by decide +kernel
theorem dX5_drawnOf_76 : decode cX5_drawnOf 76 = .ok (.aload_n 0, 1) := by decide +kernel
theorem dX5_drawnOf_77 : decode cX5_drawnOf 77 = .ok (.iload 6, 2) := by decide +kernel
theorem dX5_drawnOf_79 : decode cX5_drawnOf 79 = .ok (.invokestatic 90, 3) := by decide +kernel
theorem dX5_drawnOf_82 : decode cX5_drawnOf 82 = .ok (.invokevirtual 221, 3) := by decide +kernel
theorem dX5_drawnOf_85 : decode cX5_drawnOf 85 = .ok (.invokestatic 224, 3) := by decide +kernel
theorem dX5_drawnOf_88 : decode cX5_drawnOf 88 = .ok (.istore 7, 2) := by decide +kernel
theorem dX5_drawnOf_90 : decode cX5_drawnOf 90 = .ok (.aload_n 0, 1) := by decide +kernel
theorem dX5_drawnOf_91 : decode cX5_drawnOf 91 = .ok (.aload_n 0, 1) := by decide +kernel
theorem dX5_drawnOf_92 : decode cX5_drawnOf 92 = .ok (.getfield 108, 3) := by decide +kernel
theorem dX5_drawnOf_95 : decode cX5_drawnOf 95 = .ok (.iload 4, 2) := by decide +kernel
theorem dX5_drawnOf_97 : decode cX5_drawnOf 97 = .ok (.iadd, 1) := by decide +kernel
theorem dX5_drawnOf_98 : decode cX5_drawnOf 98 = .ok (.invokevirtual 153, 3) := by decide +kernel
theorem dX5_drawnOf_101 : decode cX5_drawnOf 101 = .ok (.aload_n 0, 1) := by decide +kernel
theorem dX5_drawnOf_102 : decode cX5_drawnOf 102 = .ok (.iload 7, 2) := by decide +kernel
theorem dX5_drawnOf_104 : decode cX5_drawnOf 104 = .ok (.invokevirtual 227, 3) := by decide +kernel
theorem dX5_drawnOf_107 : decode cX5_drawnOf 107 = .ok (.iand, 1) := by decide +kernel
theorem dX5_drawnOf_108 : decode cX5_drawnOf 108 = .ok (.istore 8, 2) := by decide +kernel
theorem dX5_drawnOf_110 : decode cX5_drawnOf 110 = .ok (.iload 8, 2) := by decide +kernel
theorem dX5_drawnOf_112 : decode cX5_drawnOf 112 = .ok (.ifCond .eq 7, 3) := by decide +kernel
theorem dX5_drawnOf_115 : decode cX5_drawnOf 115 = .ok (.iconst 1, 1) := by decide +kernel
theorem dX5_drawnOf_116 : decode cX5_drawnOf 116 = .ok (.goto 4, 3) := by decide +kernel
theorem dX5_drawnOf_119 : decode cX5_drawnOf 119 = .ok (.iconst 0, 1) := by decide +kernel
theorem dX5_drawnOf_120 : decode cX5_drawnOf 120 = .ok (.istore 5, 2) := by decide +kernel
theorem dX5_drawnOf_122 : decode cX5_drawnOf 122 = .ok (.iload 5, 2) := by decide +kernel
theorem dX5_drawnOf_124 : decode cX5_drawnOf 124 = .ok (.ifCond .eq 33, 3) := by decide +kernel
theorem dX5_drawnOf_127 : decode cX5_drawnOf 127 = .ok (.aload_n 0, 1) := by decide +kernel
theorem dX5_drawnOf_128 : decode cX5_drawnOf 128 = .ok (.aload_n 0, 1) := by decide +kernel
theorem dX5_drawnOf_129 : decode cX5_drawnOf 129 = .ok (.getfield 108, 3) := by decide +kernel
theorem dX5_drawnOf_132 : decode cX5_drawnOf 132 = .ok (.iload 4, 2) := by decide +kernel
theorem dX5_drawnOf_134 : decode cX5_drawnOf 134 = .ok (.iadd, 1) := by decide +kernel
theorem dX5_drawnOf_135 : decode cX5_drawnOf 135 = .ok (.iload 7, 2) := by decide +kernel
theorem dX5_drawnOf_137 : decode cX5_drawnOf 137 = .ok (.iload 8, 2) := by decide +kernel
theorem dX5_drawnOf_139 : decode cX5_drawnOf 139 = .ok (.aload_n 0, 1) := by decide +kernel
theorem dX5_drawnOf_140 : decode cX5_drawnOf 140 = .ok (.iload 8, 2) := by decide +kernel
theorem dX5_drawnOf_142 : decode cX5_drawnOf 142 = .ok (.invokestatic 90, 3) := by decide +kernel
theorem dX5_drawnOf_145 : decode cX5_drawnOf 145 = .ok (.invokevirtual 221, 3) := by decide +kernel
theorem dX5_drawnOf_148 : decode cX5_drawnOf 148 = .ok (.invokestatic 224, 3) := by decide +kernel
theorem dX5_drawnOf_151 : decode cX5_drawnOf 151 = .ok (.invokevirtual 111, 3) := by decide +kernel
theorem dX5_drawnOf_154 : decode cX5_drawnOf 154 = .ok (.iinc 4 1, 3) := by decide +kernel
theorem dX5_drawnOf_157 : decode cX5_drawnOf 157 = .ok (.goto (-146), 3) := by decide +kernel
theorem dX5_drawnOf_160 : decode cX5_drawnOf 160 = .ok (.aload_n 0, 1) := by decide +kernel
theorem dX5_drawnOf_161 : decode cX5_drawnOf 161 = .ok (.aload_n 0, 1) := by decide +kernel
theorem dX5_drawnOf_162 : decode cX5_drawnOf 162 = .ok (.getfield 108, 3) := by decide +kernel
theorem dX5_drawnOf_165 : decode cX5_drawnOf 165 = .ok (.iload 4, 2) := by decide +kernel
theorem dX5_drawnOf_167 : decode cX5_drawnOf 167 = .ok (.iadd, 1) := by decide +kernel
theorem dX5_drawnOf_168 : decode cX5_drawnOf 168 = .ok (.iconst (-1), 1) := by decide +kernel
theorem dX5_drawnOf_169 : decode cX5_drawnOf 169 = .ok (.invokevirtual 140, 3) := by decide +kernel
theorem dX5_drawnOf_172 : decode cX5_drawnOf 172 = .ok (.iload_n 3, 1) := by decide +kernel
theorem dX5_drawnOf_173 : decode cX5_drawnOf 173 = .ok (.ifCond .ne 17, 3) := by decide +kernel
theorem dX5_drawnOf_176 : decode cX5_drawnOf 176 = .ok (.aload_n 0, 1) := by decide +kernel
theorem dX5_drawnOf_177 : decode cX5_drawnOf 177 = .ok (.aload_n 0, 1) := by decide +kernel
theorem dX5_drawnOf_178 : decode cX5_drawnOf 178 = .ok (.getfield 108, 3) := by decide +kernel
theorem dX5_drawnOf_181 : decode cX5_drawnOf 181 = .ok (.iload 4, 2) := by decide +kernel
theorem dX5_drawnOf_183 : decode cX5_drawnOf 183 = .ok (.iadd, 1) := by decide +kernel
theorem dX5_drawnOf_184 : decode cX5_drawnOf 184 = .ok (.invokevirtual 153, 3) := by decide +kernel
theorem dX5_drawnOf_187 : decode cX5_drawnOf 187 = .ok (.goto 5, 3) := by decide +kernel
theorem dX5_drawnOf_190 : decode cX5_drawnOf 190 = .ok (.iload 4, 2) := by decide +kernel
theorem dX5_drawnOf_192 : decode cX5_drawnOf 192 = .ok (.ireturn, 1) := by decide +kernel
theorem dX5_drawn_0 : decode cX5_drawn 0 = .ok (.aload_n 0, 1) := by decide +kernel
theorem dX5_drawn_1 : decode cX5_drawn 1 = .ok (.invokevirtual 100, 3) := by decide +kernel
theorem dX5_drawn_4 : decode cX5_drawn 4 = .ok (.pop, 1) := by decide +kernel
theorem dX5_drawn_5 : decode cX5_drawn 5 = .ok (.iload_n 2, 1) := by decide +kernel
theorem dX5_drawn_6 : decode cX5_drawn 6 = .ok (.i2l, 1) := by decide +kernel
theorem dX5_drawn_7 : decode cX5_drawn 7 = .ok (.lconst 0, 1) := by decide +kernel
theorem dX5_drawn_8 : decode cX5_drawn 8 = .ok (.ldc2_w 230, 3) := by decide +kernel
theorem dX5_drawn_11 : decode cX5_drawn 11 = .ok (.invokestatic 44, 3) := by decide +kernel
theorem dX5_drawn_14 : decode cX5_drawn 14 = .ok (.ifCond .eq 20, 3) := by decide +kernel
theorem dX5_drawn_17 : decode cX5_drawn 17 = .ok (.iload_n 3, 1) := by decide +kernel
theorem dX5_drawn_18 : decode cX5_drawn 18 = .ok (.invokestatic 156, 3) := by decide +kernel
theorem dX5_drawn_21 : decode cX5_drawn 21 = .ok (.ifCond .eq 13, 3) := by decide +kernel
theorem dX5_drawn_24 : decode cX5_drawn 24 = .ok (.aload_n 0, 1) := by decide +kernel
theorem dX5_drawn_25 : decode cX5_drawn 25 = .ok (.iload_n 1, 1) := by decide +kernel
theorem dX5_drawn_26 : decode cX5_drawn 26 = .ok (.iload_n 2, 1) := by decide +kernel
theorem dX5_drawn_27 : decode cX5_drawn 27 = .ok (.iload_n 3, 1) := by decide +kernel
theorem dX5_drawn_28 : decode cX5_drawn 28 = .ok (.invokevirtual 232, 3) := by decide +kernel
theorem dX5_drawn_31 : decode cX5_drawn 31 = .ok (.goto 5, 3) := by decide +kernel
theorem dX5_drawn_34 : decode cX5_drawn 34 = .ok (.bipush (-2), 2) := by decide +kernel
theorem dX5_drawn_36 : decode cX5_drawn 36 = .ok (.ireturn, 1) := by decide +kernel
theorem dX5_write_0 : decode cX5_write 0 = .ok (.iload_n 1, 1) := by decide +kernel
theorem dX5_write_1 : decode cX5_write 1 = .ok (.invokestatic 54, 3) := by decide +kernel
theorem dX5_write_4 : decode cX5_write 4 = .ok (.ifCond .ne 6, 3) := by decide +kernel
theorem dX5_write_7 : decode cX5_write 7 = .ok (.bipush (-2), 2) := by decide +kernel
theorem dX5_write_9 : decode cX5_write 9 = .ok (.ireturn, 1) := by decide +kernel
theorem dX5_write_10 : decode cX5_write 10 = .ok (.aload_n 0, 1) := by decide +kernel
theorem dX5_write_11 : decode cX5_write 11 = .ok (.getfield 7, 3) := by decide +kernel
theorem dX5_write_14 : decode cX5_write 14 = .ok (.iload_n 1, 1) := by decide +kernel
theorem dX5_write_15 : decode cX5_write 15 = .ok (.iaload, 1) := by decide +kernel
theorem dX5_write_16 : decode cX5_write 16 = .ok (.ifCond .ge 9, 3) := by decide +kernel
theorem dX5_write_19 : decode cX5_write 19 = .ok (.aload_n 0, 1) := by decide +kernel
theorem dX5_write_20 : decode cX5_write 20 = .ok (.iconst 1, 1) := by decide +kernel
theorem dX5_write_21 : decode cX5_write 21 = .ok (.invokevirtual 60, 3) := by decide +kernel
theorem dX5_write_24 : decode cX5_write 24 = .ok (.ireturn, 1) := by decide +kernel
theorem dX5_write_25 : decode cX5_write 25 = .ok (.aload_n 0, 1) := by decide +kernel
theorem dX5_write_26 : decode cX5_write 26 = .ok (.invokevirtual 144, 3) := by decide +kernel
theorem dX5_write_29 : decode cX5_write 29 = .ok (.aload_n 0, 1) := by decide +kernel
theorem dX5_write_30 : decode cX5_write 30 = .ok (.getfield 13, 3) := by decide +kernel
theorem dX5_write_33 : decode cX5_write 33 = .ok (.iload_n 1, 1) := by decide +kernel
theorem dX5_write_34 : decode cX5_write 34 = .ok (.iaload, 1) := by decide +kernel
theorem dX5_write_35 : decode cX5_write 35 = .ok (.aload_n 0, 1) := by decide +kernel
theorem dX5_write_36 : decode cX5_write 36 = .ok (.getfield 81, 3) := by decide +kernel
theorem dX5_write_39 : decode cX5_write 39 = .ok (.if_icmp .ge 12, 3) := by decide +kernel
theorem dX5_write_42 : decode cX5_write 42 = .ok (.aload_n 0, 1) := by decide +kernel
theorem dX5_write_43 : decode cX5_write 43 = .ok (.getfield 13, 3) := by decide +kernel
theorem dX5_write_46 : decode cX5_write 46 = .ok (.iload_n 1, 1) := by decide +kernel
theorem dX5_write_47 : decode cX5_write 47 = .ok (.iaload, 1) := by decide +kernel
theorem dX5_write_48 : decode cX5_write 48 = .ok (.goto 7, 3) := by decide +kernel
theorem dX5_write_51 : decode cX5_write 51 = .ok (.aload_n 0, 1) := by decide +kernel
theorem dX5_write_52 : decode cX5_write 52 = .ok (.getfield 81, 3) := by decide +kernel
theorem dX5_write_55 : decode cX5_write 55 = .ok (.istore_n 2, 1) := by decide +kernel
theorem dX5_write_56 : decode cX5_write 56 = .ok (.iconst 0, 1) := by decide +kernel
theorem dX5_write_57 : decode cX5_write 57 = .ok (.istore_n 3, 1) := by decide +kernel
theorem dX5_write_58 : decode cX5_write 58 = .ok (.iload_n 3, 1) := by decide +kernel
theorem dX5_write_59 : decode cX5_write 59 = .ok (.iload_n 2, 1) := by decide +kernel
theorem dX5_write_60 : decode cX5_write 60 = .ok (.if_icmp .ge 34, 3) := by decide +kernel
theorem dX5_write_63 : decode cX5_write 63 = .ok (.aload_n 0, 1) := by decide +kernel
theorem dX5_write_64 : decode cX5_write 64 = .ok (.getfield 16, 3) := by decide +kernel
theorem dX5_write_67 : decode cX5_write 67 = .ok (.bipush 60, 2) := by decide +kernel
theorem dX5_write_69 : decode cX5_write 69 = .ok (.iload_n 1, 1) := by decide +kernel
theorem dX5_write_70 : decode cX5_write 70 = .ok (.imul, 1) := by decide +kernel
theorem dX5_write_71 : decode cX5_write 71 = .ok (.iload_n 3, 1) := by decide +kernel
theorem dX5_write_72 : decode cX5_write 72 = .ok (.iadd, 1) := by decide +kernel
theorem dX5_write_73 : decode cX5_write 73 = .ok (.aload_n 0, 1) := by decide +kernel
theorem dX5_write_74 : decode cX5_write 74 = .ok (.getfield 7, 3) := by decide +kernel
theorem dX5_write_77 : decode cX5_write 77 = .ok (.iload_n 1, 1) := by decide +kernel
theorem dX5_write_78 : decode cX5_write 78 = .ok (.iaload, 1) := by decide +kernel
theorem dX5_write_79 : decode cX5_write 79 = .ok (.aload_n 0, 1) := by decide +kernel
theorem dX5_write_80 : decode cX5_write 80 = .ok (.iload_n 3, 1) := by decide +kernel
theorem dX5_write_81 : decode cX5_write 81 = .ok (.invokevirtual 162, 3) := by decide +kernel
theorem dX5_write_84 : decode cX5_write 84 = .ok (.invokestatic 68, 3) := by decide +kernel
theorem dX5_write_87 : decode cX5_write 87 = .ok (.iastore, 1) := by decide +kernel
theorem dX5_write_88 : decode cX5_write 88 = .ok (.iinc 3 1, 3) := by decide +kernel
theorem dX5_write_91 : decode cX5_write 91 = .ok (.goto (-33), 3) := by decide +kernel
theorem dX5_write_94 : decode cX5_write 94 = .ok (.iload_n 2, 1) := by decide +kernel
theorem dX5_write_95 : decode cX5_write 95 = .ok (.ireturn, 1) := by decide +kernel
theorem dX5_count_0 : decode cX5_count 0 = .ok (.iconst 0, 1) := by decide +kernel
theorem dX5_count_1 : decode cX5_count 1 = .ok (.istore_n 2, 1) := by decide +kernel
theorem dX5_count_2 : decode cX5_count 2 = .ok (.aload_n 0, 1) := by decide +kernel
theorem dX5_count_3 : decode cX5_count 3 = .ok (.invokevirtual 144, 3) := by decide +kernel
theorem dX5_count_6 : decode cX5_count 6 = .ok (.iload_n 1, 1) := by decide +kernel
theorem dX5_count_7 : decode cX5_count 7 = .ok (.tableswitch 134 0 8 #[49, 54, 59, 64, 69, 81, 93, 98, 129], 49) := by decide +kernel
theorem dX5_count_56 : decode cX5_count 56 = .ok (.aload_n 0, 1) := by decide +kernel
theorem dX5_count_57 : decode cX5_count 57 = .ok (.getfield 81, 3) := by decide +kernel
theorem dX5_count_60 : decode cX5_count 60 = .ok (.ireturn, 1) := by decide +kernel
theorem dX5_count_61 : decode cX5_count 61 = .ok (.aload_n 0, 1) := by decide +kernel
theorem dX5_count_62 : decode cX5_count 62 = .ok (.getfield 75, 3) := by decide +kernel
theorem dX5_count_65 : decode cX5_count 65 = .ok (.ireturn, 1) := by decide +kernel
theorem dX5_count_66 : decode cX5_count 66 = .ok (.aload_n 0, 1) := by decide +kernel
theorem dX5_count_67 : decode cX5_count 67 = .ok (.getfield 108, 3) := by decide +kernel
theorem dX5_count_70 : decode cX5_count 70 = .ok (.ireturn, 1) := by decide +kernel
theorem dX5_count_71 : decode cX5_count 71 = .ok (.aload_n 0, 1) := by decide +kernel
theorem dX5_count_72 : decode cX5_count 72 = .ok (.getfield 131, 3) := by decide +kernel
theorem dX5_count_75 : decode cX5_count 75 = .ok (.ireturn, 1) := by decide +kernel
theorem dX5_count_76 : decode cX5_count 76 = .ok (.aload_n 0, 1) := by decide +kernel
theorem dX5_count_77 : decode cX5_count 77 = .ok (.aload_n 0, 1) := by decide +kernel
theorem dX5_count_78 : decode cX5_count 78 = .ok (.getfield 108, 3) := by decide +kernel
theorem dX5_count_81 : decode cX5_count 81 = .ok (.invokevirtual 147, 3) := by decide +kernel
theorem dX5_count_84 : decode cX5_count 84 = .ok (.invokestatic 90, 3) := by decide +kernel
theorem dX5_count_87 : decode cX5_count 87 = .ok (.ireturn, 1) := by decide +kernel
theorem dX5_count_88 : decode cX5_count 88 = .ok (.aload_n 0, 1) := by decide +kernel
theorem dX5_count_89 : decode cX5_count 89 = .ok (.aload_n 0, 1) := by decide +kernel
theorem dX5_count_90 : decode cX5_count 90 = .ok (.getfield 108, 3) := by decide +kernel
theorem dX5_count_93 : decode cX5_count 93 = .ok (.invokevirtual 153, 3) := by decide +kernel
theorem dX5_count_96 : decode cX5_count 96 = .ok (.invokestatic 90, 3) := by decide +kernel
theorem dX5_count_99 : decode cX5_count 99 = .ok (.ireturn, 1) := by decide +kernel
theorem dX5_count_100 : decode cX5_count 100 = .ok (.aload_n 0, 1) := by decide +kernel
theorem dX5_count_101 : decode cX5_count 101 = .ok (.getfield 211, 3) := by decide +kernel
theorem dX5_count_104 : decode cX5_count 104 = .ok (.ireturn, 1) := by decide +kernel
theorem dX5_count_105 : decode cX5_count 105 = .ok (.iconst 0, 1) := by decide +kernel
theorem dX5_count_106 : decode cX5_count 106 = .ok (.istore_n 3, 1) := by decide +kernel
theorem dX5_count_107 : decode cX5_count 107 = .ok (.iload_n 3, 1) := by decide +kernel
theorem dX5_count_108 : decode cX5_count 108 = .ok (.aload_n 0, 1) := by decide +kernel
theorem dX5_count_109 : decode cX5_count 109 = .ok (.getfield 81, 3) := by decide +kernel
theorem dX5_count_112 : decode cX5_count 112 = .ok (.if_icmp .ge 22, 3) := by decide +kernel
theorem dX5_count_115 : decode cX5_count 115 = .ok (.iload_n 2, 1) := by decide +kernel
theorem dX5_count_116 : decode cX5_count 116 = .ok (.aload_n 0, 1) := by decide +kernel
theorem dX5_count_117 : decode cX5_count 117 = .ok (.getfield 25, 3) := by decide +kernel
theorem dX5_count_120 : decode cX5_count 120 = .ok (.iconst 3, 1) := by decide +kernel
theorem dX5_count_121 : decode cX5_count 121 = .ok (.iload_n 3, 1) := by decide +kernel
theorem dX5_count_122 : decode cX5_count 122 = .ok (.imul, 1) := by decide +kernel
theorem dX5_count_123 : decode cX5_count 123 = .ok (.iconst 2, 1) := by decide +kernel
theorem dX5_count_124 : decode cX5_count 124 = .ok (.iadd, 1) := by decide +kernel
theorem dX5_count_125 : decode cX5_count 125 = .ok (.iaload, 1) := by decide +kernel
theorem dX5_count_126 : decode cX5_count 126 = .ok (.iadd, 1) := by decide +kernel
theorem dX5_count_127 : decode cX5_count 127 = .ok (.istore_n 2, 1) := by decide +kernel
theorem dX5_count_128 : decode cX5_count 128 = .ok (.iinc 3 1, 3) := by decide +kernel
theorem dX5_count_131 : decode cX5_count 131 = .ok (.goto (-24), 3) := by decide +kernel
theorem dX5_count_134 : decode cX5_count 134 = .ok (.iload_n 2, 1) := by decide +kernel
theorem dX5_count_135 : decode cX5_count 135 = .ok (.ireturn, 1) := by decide +kernel
theorem dX5_count_136 : decode cX5_count 136 = .ok (.aload_n 0, 1) := by decide +kernel
theorem dX5_count_137 : decode cX5_count 137 = .ok (.getfield 48, 3) := by decide +kernel
theorem dX5_count_140 : decode cX5_count 140 = .ok (.ireturn, 1) := by decide +kernel
theorem dX5_count_141 : decode cX5_count 141 = .ok (.bipush (-2), 2) := by decide +kernel
theorem dX5_count_143 : decode cX5_count 143 = .ok (.ireturn, 1) := by decide +kernel
theorem dX5_digest_0 : decode cX5_digest 0 = .ok (.ldc2_w 235, 3) := by decide +kernel
theorem dX5_digest_3 : decode cX5_digest 3 = .ok (.lstore_n 1, 1) := by decide +kernel
theorem dX5_digest_4 : decode cX5_digest 4 = .ok (.iconst 0, 1) := by decide +kernel
theorem dX5_digest_5 : decode cX5_digest 5 = .ok (.istore_n 3, 1) := by decide +kernel
theorem dX5_digest_6 : decode cX5_digest 6 = .ok (.iload_n 3, 1) := by decide +kernel
theorem dX5_digest_7 : decode cX5_digest 7 = .ok (.bipush 8, 2) := by decide +kernel
theorem dX5_digest_9 : decode cX5_digest 9 = .ok (.if_icmp .ge 22, 3) := by decide +kernel
theorem dX5_digest_12 : decode cX5_digest 12 = .ok (.ldc2_w 237, 3) := by decide +kernel
theorem dX5_digest_15 : decode cX5_digest 15 = .ok (.lload_n 1, 1) := by decide +kernel
theorem dX5_digest_16 : decode cX5_digest 16 = .ok (.lmul, 1) := by decide +kernel
theorem dX5_digest_17 : decode cX5_digest 17 = .ok (.aload_n 0, 1) := by decide +kernel
theorem dX5_digest_18 : decode cX5_digest 18 = .ok (.iload_n 3, 1) := by decide +kernel
theorem dX5_digest_19 : decode cX5_digest 19 = .ok (.invokevirtual 239, 3) := by decide +kernel
theorem dX5_digest_22 : decode cX5_digest 22 = .ok (.i2l, 1) := by decide +kernel
theorem dX5_digest_23 : decode cX5_digest 23 = .ok (.ladd, 1) := by decide +kernel
theorem dX5_digest_24 : decode cX5_digest 24 = .ok (.lstore_n 1, 1) := by decide +kernel
theorem dX5_digest_25 : decode cX5_digest 25 = .ok (.iinc 3 1, 3) := by decide +kernel
theorem dX5_digest_28 : decode cX5_digest 28 = .ok (.goto (-22), 3) := by decide +kernel
theorem dX5_digest_31 : decode cX5_digest 31 = .ok (.ldc2_w 237, 3) := by decide +kernel
theorem dX5_digest_34 : decode cX5_digest 34 = .ok (.lload_n 1, 1) := by decide +kernel
theorem dX5_digest_35 : decode cX5_digest 35 = .ok (.lmul, 1) := by decide +kernel
theorem dX5_digest_36 : decode cX5_digest 36 = .ok (.aload_n 0, 1) := by decide +kernel
theorem dX5_digest_37 : decode cX5_digest 37 = .ok (.invokevirtual 100, 3) := by decide +kernel
theorem dX5_digest_40 : decode cX5_digest 40 = .ok (.i2l, 1) := by decide +kernel
theorem dX5_digest_41 : decode cX5_digest 41 = .ok (.ladd, 1) := by decide +kernel
theorem dX5_digest_42 : decode cX5_digest 42 = .ok (.lstore_n 1, 1) := by decide +kernel
theorem dX5_digest_43 : decode cX5_digest 43 = .ok (.ldc2_w 237, 3) := by decide +kernel
theorem dX5_digest_46 : decode cX5_digest 46 = .ok (.lload_n 1, 1) := by decide +kernel
theorem dX5_digest_47 : decode cX5_digest 47 = .ok (.lmul, 1) := by decide +kernel
theorem dX5_digest_48 : decode cX5_digest 48 = .ok (.aload_n 0, 1) := by decide +kernel
theorem dX5_digest_49 : decode cX5_digest 49 = .ok (.invokevirtual 242, 3) := by decide +kernel
theorem dX5_digest_52 : decode cX5_digest 52 = .ok (.i2l, 1) := by decide +kernel
theorem dX5_digest_53 : decode cX5_digest 53 = .ok (.ladd, 1) := by decide +kernel
theorem dX5_digest_54 : decode cX5_digest 54 = .ok (.lstore_n 1, 1) := by decide +kernel
theorem dX5_digest_55 : decode cX5_digest 55 = .ok (.iconst 0, 1) := by decide +kernel
theorem dX5_digest_56 : decode cX5_digest 56 = .ok (.istore_n 3, 1) := by decide +kernel
theorem dX5_digest_57 : decode cX5_digest 57 = .ok (.iload_n 3, 1) := by decide +kernel
theorem dX5_digest_58 : decode cX5_digest 58 = .ok (.aload_n 0, 1) := by decide +kernel
theorem dX5_digest_59 : decode cX5_digest 59 = .ok (.getfield 81, 3) := by decide +kernel
theorem dX5_digest_62 : decode cX5_digest 62 = .ok (.if_icmp .ge 56, 3) := by decide +kernel
theorem dX5_digest_65 : decode cX5_digest 65 = .ok (.iconst 0, 1) := by decide +kernel
theorem dX5_digest_66 : decode cX5_digest 66 = .ok (.istore 4, 2) := by decide +kernel
theorem dX5_digest_68 : decode cX5_digest 68 = .ok (.iload 4, 2) := by decide +kernel
theorem dX5_digest_70 : decode cX5_digest 70 = .ok (.iconst 3, 1) := by decide +kernel
theorem dX5_digest_71 : decode cX5_digest 71 = .ok (.if_icmp .ge 28, 3) := by decide +kernel
theorem dX5_digest_74 : decode cX5_digest 74 = .ok (.ldc2_w 237, 3) := by decide +kernel
theorem dX5_digest_77 : decode cX5_digest 77 = .ok (.lload_n 1, 1) := by decide +kernel
theorem dX5_digest_78 : decode cX5_digest 78 = .ok (.lmul, 1) := by decide +kernel
theorem dX5_digest_79 : decode cX5_digest 79 = .ok (.aload_n 0, 1) := by decide +kernel
theorem dX5_digest_80 : decode cX5_digest 80 = .ok (.getfield 25, 3) := by decide +kernel
theorem dX5_digest_83 : decode cX5_digest 83 = .ok (.iconst 3, 1) := by decide +kernel
theorem dX5_digest_84 : decode cX5_digest 84 = .ok (.iload_n 3, 1) := by decide +kernel
theorem dX5_digest_85 : decode cX5_digest 85 = .ok (.imul, 1) := by decide +kernel
theorem dX5_digest_86 : decode cX5_digest 86 = .ok (.iload 4, 2) := by decide +kernel
theorem dX5_digest_88 : decode cX5_digest 88 = .ok (.iadd, 1) := by decide +kernel
theorem dX5_digest_89 : decode cX5_digest 89 = .ok (.iaload, 1) := by decide +kernel
theorem dX5_digest_90 : decode cX5_digest 90 = .ok (.i2l, 1) := by decide +kernel
theorem dX5_digest_91 : decode cX5_digest 91 = .ok (.ladd, 1) := by decide +kernel
theorem dX5_digest_92 : decode cX5_digest 92 = .ok (.lstore_n 1, 1) := by decide +kernel
theorem dX5_digest_93 : decode cX5_digest 93 = .ok (.iinc 4 1, 3) := by decide +kernel
theorem dX5_digest_96 : decode cX5_digest 96 = .ok (.goto (-28), 3) := by decide +kernel
theorem dX5_digest_99 : decode cX5_digest 99 = .ok (.ldc2_w 237, 3) := by decide +kernel
theorem dX5_digest_102 : decode cX5_digest 102 = .ok (.lload_n 1, 1) := by decide +kernel
theorem dX5_digest_103 : decode cX5_digest 103 = .ok (.lmul, 1) := by decide +kernel
theorem dX5_digest_104 : decode cX5_digest 104 = .ok (.aload_n 0, 1) := by decide +kernel
theorem dX5_digest_105 : decode cX5_digest 105 = .ok (.iload_n 3, 1) := by decide +kernel
theorem dX5_digest_106 : decode cX5_digest 106 = .ok (.invokevirtual 162, 3) := by decide +kernel
theorem dX5_digest_109 : decode cX5_digest 109 = .ok (.i2l, 1) := by decide +kernel
theorem dX5_digest_110 : decode cX5_digest 110 = .ok (.ladd, 1) := by decide +kernel
theorem dX5_digest_111 : decode cX5_digest 111 = .ok (.lstore_n 1, 1) := by decide +kernel
theorem dX5_digest_112 : decode cX5_digest 112 = .ok (.iinc 3 1, 3) := by decide +kernel
theorem dX5_digest_115 : decode cX5_digest 115 = .ok (.goto (-58), 3) := by decide +kernel
theorem dX5_digest_118 : decode cX5_digest 118 = .ok (.iconst 0, 1) := by decide +kernel
theorem dX5_digest_119 : decode cX5_digest 119 = .ok (.istore_n 3, 1) := by decide +kernel
theorem dX5_digest_120 : decode cX5_digest 120 = .ok (.iload_n 3, 1) := by decide +kernel
theorem dX5_digest_121 : decode cX5_digest 121 = .ok (.aload_n 0, 1) := by decide +kernel
theorem dX5_digest_122 : decode cX5_digest 122 = .ok (.getfield 108, 3) := by decide +kernel
theorem dX5_digest_125 : decode cX5_digest 125 = .ok (.if_icmp .ge 63, 3) := by decide +kernel
theorem dX5_digest_128 : decode cX5_digest 128 = .ok (.ldc2_w 237, 3) := by decide +kernel
theorem dX5_digest_131 : decode cX5_digest 131 = .ok (.lload_n 1, 1) := by decide +kernel
theorem dX5_digest_132 : decode cX5_digest 132 = .ok (.lmul, 1) := by decide +kernel
theorem dX5_digest_133 : decode cX5_digest 133 = .ok (.aload_n 0, 1) := by decide +kernel
theorem dX5_digest_134 : decode cX5_digest 134 = .ok (.iload_n 3, 1) := by decide +kernel
theorem dX5_digest_135 : decode cX5_digest 135 = .ok (.invokevirtual 245, 3) := by decide +kernel
theorem dX5_digest_138 : decode cX5_digest 138 = .ok (.i2l, 1) := by decide +kernel
theorem dX5_digest_139 : decode cX5_digest 139 = .ok (.ladd, 1) := by decide +kernel
theorem dX5_digest_140 : decode cX5_digest 140 = .ok (.lstore_n 1, 1) := by decide +kernel
theorem dX5_digest_141 : decode cX5_digest 141 = .ok (.ldc2_w 237, 3) := by decide +kernel
theorem dX5_digest_144 : decode cX5_digest 144 = .ok (.lload_n 1, 1) := by decide +kernel
theorem dX5_digest_145 : decode cX5_digest 145 = .ok (.lmul, 1) := by decide +kernel
theorem dX5_digest_146 : decode cX5_digest 146 = .ok (.aload_n 0, 1) := by decide +kernel
theorem dX5_digest_147 : decode cX5_digest 147 = .ok (.iload_n 3, 1) := by decide +kernel
theorem dX5_digest_148 : decode cX5_digest 148 = .ok (.invokevirtual 165, 3) := by decide +kernel
theorem dX5_digest_151 : decode cX5_digest 151 = .ok (.i2l, 1) := by decide +kernel
theorem dX5_digest_152 : decode cX5_digest 152 = .ok (.ladd, 1) := by decide +kernel
theorem dX5_digest_153 : decode cX5_digest 153 = .ok (.lstore_n 1, 1) := by decide +kernel
theorem dX5_digest_154 : decode cX5_digest 154 = .ok (.ldc2_w 237, 3) := by decide +kernel
theorem dX5_digest_157 : decode cX5_digest 157 = .ok (.lload_n 1, 1) := by decide +kernel
theorem dX5_digest_158 : decode cX5_digest 158 = .ok (.lmul, 1) := by decide +kernel
theorem dX5_digest_159 : decode cX5_digest 159 = .ok (.aload_n 0, 1) := by decide +kernel
theorem dX5_digest_160 : decode cX5_digest 160 = .ok (.iload_n 3, 1) := by decide +kernel
theorem dX5_digest_161 : decode cX5_digest 161 = .ok (.iconst 0, 1) := by decide +kernel
theorem dX5_digest_162 : decode cX5_digest 162 = .ok (.invokevirtual 171, 3) := by decide +kernel
theorem dX5_digest_165 : decode cX5_digest 165 = .ok (.i2l, 1) := by decide +kernel
theorem dX5_digest_166 : decode cX5_digest 166 = .ok (.ladd, 1) := by decide +kernel
theorem dX5_digest_167 : decode cX5_digest 167 = .ok (.lstore_n 1, 1) := by decide +kernel
theorem dX5_digest_168 : decode cX5_digest 168 = .ok (.ldc2_w 237, 3) := by decide +kernel
theorem dX5_digest_171 : decode cX5_digest 171 = .ok (.lload_n 1, 1) := by decide +kernel
theorem dX5_digest_172 : decode cX5_digest 172 = .ok (.lmul, 1) := by decide +kernel
theorem dX5_digest_173 : decode cX5_digest 173 = .ok (.aload_n 0, 1) := by decide +kernel
theorem dX5_digest_174 : decode cX5_digest 174 = .ok (.iload_n 3, 1) := by decide +kernel
theorem dX5_digest_175 : decode cX5_digest 175 = .ok (.iconst 1, 1) := by decide +kernel
theorem dX5_digest_176 : decode cX5_digest 176 = .ok (.invokevirtual 171, 3) := by decide +kernel
theorem dX5_digest_179 : decode cX5_digest 179 = .ok (.i2l, 1) := by decide +kernel
theorem dX5_digest_180 : decode cX5_digest 180 = .ok (.ladd, 1) := by decide +kernel
theorem dX5_digest_181 : decode cX5_digest 181 = .ok (.lstore_n 1, 1) := by decide +kernel
theorem dX5_digest_182 : decode cX5_digest 182 = .ok (.iinc 3 1, 3) := by decide +kernel
theorem dX5_digest_185 : decode cX5_digest 185 = .ok (.goto (-65), 3) := by decide +kernel
theorem dX5_digest_188 : decode cX5_digest 188 = .ok (.iconst 0, 1) := by decide +kernel
theorem dX5_digest_189 : decode cX5_digest 189 = .ok (.istore_n 3, 1) := by decide +kernel
theorem dX5_digest_190 : decode cX5_digest 190 = .ok (.iload_n 3, 1) := by decide +kernel
theorem dX5_digest_191 : decode cX5_digest 191 = .ok (.aload_n 0, 1) := by decide +kernel
theorem dX5_digest_192 : decode cX5_digest 192 = .ok (.getfield 108, 3) := by decide +kernel
theorem dX5_digest_195 : decode cX5_digest 195 = .ok (.if_icmp .gt 37, 3) := by decide +kernel
theorem dX5_digest_198 : decode cX5_digest 198 = .ok (.ldc2_w 237, 3) := by decide +kernel
theorem dX5_digest_201 : decode cX5_digest 201 = .ok (.lload_n 1, 1) := by decide +kernel
theorem dX5_digest_202 : decode cX5_digest 202 = .ok (.lmul, 1) := by decide +kernel
theorem dX5_digest_203 : decode cX5_digest 203 = .ok (.aload_n 0, 1) := by decide +kernel
theorem dX5_digest_204 : decode cX5_digest 204 = .ok (.iload_n 3, 1) := by decide +kernel
theorem dX5_digest_205 : decode cX5_digest 205 = .ok (.iconst 0, 1) := by decide +kernel
theorem dX5_digest_206 : decode cX5_digest 206 = .ok (.invokevirtual 159, 3) := by decide +kernel
theorem dX5_digest_209 : decode cX5_digest 209 = .ok (.i2l, 1) := by decide +kernel
theorem dX5_digest_210 : decode cX5_digest 210 = .ok (.ladd, 1) := by decide +kernel
theorem dX5_digest_211 : decode cX5_digest 211 = .ok (.lstore_n 1, 1) := by decide +kernel
theorem dX5_digest_212 : decode cX5_digest 212 = .ok (.ldc2_w 237, 3) := by decide +kernel
theorem dX5_digest_215 : decode cX5_digest 215 = .ok (.lload_n 1, 1) := by decide +kernel
theorem dX5_digest_216 : decode cX5_digest 216 = .ok (.lmul, 1) := by decide +kernel
theorem dX5_digest_217 : decode cX5_digest 217 = .ok (.aload_n 0, 1) := by decide +kernel
theorem dX5_digest_218 : decode cX5_digest 218 = .ok (.iload_n 3, 1) := by decide +kernel
theorem dX5_digest_219 : decode cX5_digest 219 = .ok (.iconst 1, 1) := by decide +kernel
theorem dX5_digest_220 : decode cX5_digest 220 = .ok (.invokevirtual 159, 3) := by decide +kernel
theorem dX5_digest_223 : decode cX5_digest 223 = .ok (.i2l, 1) := by decide +kernel
theorem dX5_digest_224 : decode cX5_digest 224 = .ok (.ladd, 1) := by decide +kernel
theorem dX5_digest_225 : decode cX5_digest 225 = .ok (.lstore_n 1, 1) := by decide +kernel
theorem dX5_digest_226 : decode cX5_digest 226 = .ok (.iinc 3 1, 3) := by decide +kernel
theorem dX5_digest_229 : decode cX5_digest 229 = .ok (.goto (-39), 3) := by decide +kernel
theorem dX5_digest_232 : decode cX5_digest 232 = .ok (.ldc2_w 237, 3) := by decide +kernel
theorem dX5_digest_235 : decode cX5_digest 235 = .ok (.lload_n 1, 1) := by decide +kernel
theorem dX5_digest_236 : decode cX5_digest 236 = .ok (.lmul, 1) := by decide +kernel
theorem dX5_digest_237 : decode cX5_digest 237 = .ok (.aload_n 0, 1) := by decide +kernel
theorem dX5_digest_238 : decode cX5_digest 238 = .ok (.iconst 1, 1) := by decide +kernel
theorem dX5_digest_239 : decode cX5_digest 239 = .ok (.iconst 2, 1) := by decide +kernel
theorem dX5_digest_240 : decode cX5_digest 240 = .ok (.iconst 2, 1) := by decide +kernel
theorem dX5_digest_241 : decode cX5_digest 241 = .ok (.iconst 0, 1) := by decide +kernel
theorem dX5_digest_242 : decode cX5_digest 242 = .ok (.invokevirtual 186, 3) := by decide +kernel
theorem dX5_digest_245 : decode cX5_digest 245 = .ok (.i2l, 1) := by decide +kernel
theorem dX5_digest_246 : decode cX5_digest 246 = .ok (.ladd, 1) := by decide +kernel
theorem dX5_digest_247 : decode cX5_digest 247 = .ok (.lstore_n 1, 1) := by decide +kernel
theorem dX5_digest_248 : decode cX5_digest 248 = .ok (.ldc2_w 237, 3) := by decide +kernel
theorem dX5_digest_251 : decode cX5_digest 251 = .ok (.lload_n 1, 1) := by decide +kernel
theorem dX5_digest_252 : decode cX5_digest 252 = .ok (.lmul, 1) := by decide +kernel
theorem dX5_digest_253 : decode cX5_digest 253 = .ok (.aload_n 0, 1) := by decide +kernel
theorem dX5_digest_254 : decode cX5_digest 254 = .ok (.iconst 1, 1) := by decide +kernel
theorem dX5_digest_255 : decode cX5_digest 255 = .ok (.iconst 2, 1) := by decide +kernel
theorem dX5_digest_256 : decode cX5_digest 256 = .ok (.iconst 2, 1) := by decide +kernel
theorem dX5_digest_257 : decode cX5_digest 257 = .ok (.iconst 1, 1) := by decide +kernel
theorem dX5_digest_258 : decode cX5_digest 258 = .ok (.invokevirtual 186, 3) := by decide +kernel
theorem dX5_digest_261 : decode cX5_digest 261 = .ok (.i2l, 1) := by decide +kernel
theorem dX5_digest_262 : decode cX5_digest 262 = .ok (.ladd, 1) := by decide +kernel
theorem dX5_digest_263 : decode cX5_digest 263 = .ok (.lstore_n 1, 1) := by decide +kernel
theorem dX5_digest_264 : decode cX5_digest 264 = .ok (.iconst 0, 1) := by decide +kernel
theorem dX5_digest_265 : decode cX5_digest 265 = .ok (.istore_n 3, 1) := by decide +kernel
theorem dX5_digest_266 : decode cX5_digest 266 = .ok (.iload_n 3, 1) := by decide +kernel
theorem dX5_digest_267 : decode cX5_digest 267 = .ok (.iconst 3, 1) := by decide +kernel
theorem dX5_digest_268 : decode cX5_digest 268 = .ok (.if_icmp .ge 22, 3) := by decide +kernel
theorem dX5_digest_271 : decode cX5_digest 271 = .ok (.ldc2_w 237, 3) := by decide +kernel
theorem dX5_digest_274 : decode cX5_digest 274 = .ok (.lload_n 1, 1) := by decide +kernel
theorem dX5_digest_275 : decode cX5_digest 275 = .ok (.lmul, 1) := by decide +kernel
theorem dX5_digest_276 : decode cX5_digest 276 = .ok (.aload_n 0, 1) := by decide +kernel
theorem dX5_digest_277 : decode cX5_digest 277 = .ok (.iload_n 3, 1) := by decide +kernel
theorem dX5_digest_278 : decode cX5_digest 278 = .ok (.invokevirtual 193, 3) := by decide +kernel
theorem dX5_digest_281 : decode cX5_digest 281 = .ok (.i2l, 1) := by decide +kernel
theorem dX5_digest_282 : decode cX5_digest 282 = .ok (.ladd, 1) := by decide +kernel
theorem dX5_digest_283 : decode cX5_digest 283 = .ok (.lstore_n 1, 1) := by decide +kernel
theorem dX5_digest_284 : decode cX5_digest 284 = .ok (.iinc 3 1, 3) := by decide +kernel
theorem dX5_digest_287 : decode cX5_digest 287 = .ok (.goto (-21), 3) := by decide +kernel
theorem dX5_digest_290 : decode cX5_digest 290 = .ok (.iconst 0, 1) := by decide +kernel
theorem dX5_digest_291 : decode cX5_digest 291 = .ok (.istore_n 3, 1) := by decide +kernel
theorem dX5_digest_292 : decode cX5_digest 292 = .ok (.iload_n 3, 1) := by decide +kernel
theorem dX5_digest_293 : decode cX5_digest 293 = .ok (.iconst 4, 1) := by decide +kernel
theorem dX5_digest_294 : decode cX5_digest 294 = .ok (.if_icmp .ge 24, 3) := by decide +kernel
theorem dX5_digest_297 : decode cX5_digest 297 = .ok (.ldc2_w 237, 3) := by decide +kernel
theorem dX5_digest_300 : decode cX5_digest 300 = .ok (.lload_n 1, 1) := by decide +kernel
theorem dX5_digest_301 : decode cX5_digest 301 = .ok (.lmul, 1) := by decide +kernel
theorem dX5_digest_302 : decode cX5_digest 302 = .ok (.aload_n 0, 1) := by decide +kernel
theorem dX5_digest_303 : decode cX5_digest 303 = .ok (.iconst 0, 1) := by decide +kernel
theorem dX5_digest_304 : decode cX5_digest 304 = .ok (.iconst 1, 1) := by decide +kernel
theorem dX5_digest_305 : decode cX5_digest 305 = .ok (.iload_n 3, 1) := by decide +kernel
theorem dX5_digest_306 : decode cX5_digest 306 = .ok (.invokevirtual 208, 3) := by decide +kernel
theorem dX5_digest_309 : decode cX5_digest 309 = .ok (.i2l, 1) := by decide +kernel
theorem dX5_digest_310 : decode cX5_digest 310 = .ok (.ladd, 1) := by decide +kernel
theorem dX5_digest_311 : decode cX5_digest 311 = .ok (.lstore_n 1, 1) := by decide +kernel
theorem dX5_digest_312 : decode cX5_digest 312 = .ok (.iinc 3 1, 3) := by decide +kernel
theorem dX5_digest_315 : decode cX5_digest 315 = .ok (.goto (-23), 3) := by decide +kernel
theorem dX5_digest_318 : decode cX5_digest 318 = .ok (.ldc2_w 237, 3) := by decide +kernel
theorem dX5_digest_321 : decode cX5_digest 321 = .ok (.lload_n 1, 1) := by decide +kernel
theorem dX5_digest_322 : decode cX5_digest 322 = .ok (.lmul, 1) := by decide +kernel
theorem dX5_digest_323 : decode cX5_digest 323 = .ok (.aload_n 0, 1) := by decide +kernel
theorem dX5_digest_324 : decode cX5_digest 324 = .ok (.invokevirtual 214, 3) := by decide +kernel
theorem dX5_digest_327 : decode cX5_digest 327 = .ok (.i2l, 1) := by decide +kernel
theorem dX5_digest_328 : decode cX5_digest 328 = .ok (.ladd, 1) := by decide +kernel
theorem dX5_digest_329 : decode cX5_digest 329 = .ok (.lstore_n 1, 1) := by decide +kernel
theorem dX5_digest_330 : decode cX5_digest 330 = .ok (.iconst 0, 1) := by decide +kernel
theorem dX5_digest_331 : decode cX5_digest 331 = .ok (.istore_n 3, 1) := by decide +kernel
theorem dX5_digest_332 : decode cX5_digest 332 = .ok (.iload_n 3, 1) := by decide +kernel
theorem dX5_digest_333 : decode cX5_digest 333 = .ok (.iconst 2, 1) := by decide +kernel
theorem dX5_digest_334 : decode cX5_digest 334 = .ok (.if_icmp .ge 25, 3) := by decide +kernel
theorem dX5_digest_337 : decode cX5_digest 337 = .ok (.ldc2_w 237, 3) := by decide +kernel
theorem dX5_digest_340 : decode cX5_digest 340 = .ok (.lload_n 1, 1) := by decide +kernel
theorem dX5_digest_341 : decode cX5_digest 341 = .ok (.lmul, 1) := by decide +kernel
theorem dX5_digest_342 : decode cX5_digest 342 = .ok (.aload_n 0, 1) := by decide +kernel
theorem dX5_digest_343 : decode cX5_digest 343 = .ok (.bipush 7, 2) := by decide +kernel
theorem dX5_digest_345 : decode cX5_digest 345 = .ok (.iconst 3, 1) := by decide +kernel
theorem dX5_digest_346 : decode cX5_digest 346 = .ok (.iload_n 3, 1) := by decide +kernel
theorem dX5_digest_347 : decode cX5_digest 347 = .ok (.invokevirtual 232, 3) := by decide +kernel
theorem dX5_digest_350 : decode cX5_digest 350 = .ok (.i2l, 1) := by decide +kernel
theorem dX5_digest_351 : decode cX5_digest 351 = .ok (.ladd, 1) := by decide +kernel
theorem dX5_digest_352 : decode cX5_digest 352 = .ok (.lstore_n 1, 1) := by decide +kernel
theorem dX5_digest_353 : decode cX5_digest 353 = .ok (.iinc 3 1, 3) := by decide +kernel
theorem dX5_digest_356 : decode cX5_digest 356 = .ok (.goto (-24), 3) := by decide +kernel
theorem dX5_digest_359 : decode cX5_digest 359 = .ok (.lload_n 1, 1) := by decide +kernel
theorem dX5_digest_360 : decode cX5_digest 360 = .ok (.lreturn, 1) := by decide +kernel
end
section
theorem dL_law_0 : decode cL_law 0 = .ok (.new 7, 3) := by decide +kernel
theorem dL_law_3 : decode cL_law 3 = .ok (.dup, 1) := by decide +kernel
theorem dL_law_4 : decode cL_law 4 = .ok (.invokespecial 9, 3) := by decide +kernel
theorem dL_law_7 : decode cL_law 7 = .ok (.astore_n 1, 1) := by decide +kernel
theorem dL_law_8 : decode cL_law 8 = .ok (.new 10, 3) := by decide +kernel
theorem dL_law_11 : decode cL_law 11 = .ok (.dup, 1) := by decide +kernel
theorem dL_law_12 : decode cL_law 12 = .ok (.invokespecial 12, 3) := by decide +kernel
theorem dL_law_15 : decode cL_law 15 = .ok (.astore_n 2, 1) := by decide +kernel
theorem dL_law_16 : decode cL_law 16 = .ok (.iconst 0, 1) := by decide +kernel
theorem dL_law_17 : decode cL_law 17 = .ok (.istore_n 3, 1) := by decide +kernel
theorem dL_law_18 : decode cL_law 18 = .ok (.iload_n 3, 1) := by decide +kernel
theorem dL_law_19 : decode cL_law 19 = .ok (.aload_n 0, 1) := by decide +kernel
theorem dL_law_20 : decode cL_law 20 = .ok (.arraylength, 1) := by decide +kernel
theorem dL_law_21 : decode cL_law 21 = .ok (.bipush 6, 2) := by decide +kernel
theorem dL_law_23 : decode cL_law 23 = .ok (.isub, 1) := by decide +kernel
theorem dL_law_24 : decode cL_law 24 = .ok (.if_icmp .gt 994, 3) := by decide +kernel
theorem dL_law_27 : decode cL_law 27 = .ok (.aload_n 0, 1) := by decide +kernel
theorem dL_law_28 : decode cL_law 28 = .ok (.iload_n 3, 1) := by decide +kernel
theorem dL_law_29 : decode cL_law 29 = .ok (.iaload, 1) := by decide +kernel
theorem dL_law_30 : decode cL_law 30 = .ok (.bipush 31, 2) := by decide +kernel
theorem dL_law_32 : decode cL_law 32 = .ok (.iand, 1) := by decide +kernel
theorem dL_law_33 : decode cL_law 33 = .ok (.tableswitch 979 0 28 #[131, 154, 167, 180, 213, 246, 269, 282, 325, 338, 361, 394, 417, 440, 473, 526, 549, 592, 625, 638, 651, 694, 737, 760, 813, 856, 919, 942, 965], 131) := by decide +kernel
theorem dL_law_164 : decode cL_law 164 = .ok (.aload_n 1, 1) := by decide +kernel
theorem dL_law_165 : decode cL_law 165 = .ok (.aload_n 0, 1) := by decide +kernel
theorem dL_law_166 : decode cL_law 166 = .ok (.iload_n 3, 1) := by decide +kernel
theorem dL_law_167 : decode cL_law 167 = .ok (.iconst 1, 1) := by decide +kernel
theorem dL_law_168 : decode cL_law 168 = .ok (.iadd, 1) := by decide +kernel
theorem dL_law_169 : decode cL_law 169 = .ok (.iaload, 1) := by decide +kernel
theorem dL_law_170 : decode cL_law 170 = .ok (.invokevirtual 13, 3) := by decide +kernel
theorem dL_law_173 : decode cL_law 173 = .ok (.aload_n 2, 1) := by decide +kernel
theorem dL_law_174 : decode cL_law 174 = .ok (.aload_n 0, 1) := by decide +kernel
theorem dL_law_175 : decode cL_law 175 = .ok (.iload_n 3, 1) := by decide +kernel
theorem dL_law_176 : decode cL_law 176 = .ok (.iconst 1, 1) := by decide +kernel
theorem dL_law_177 : decode cL_law 177 = .ok (.iadd, 1) := by decide +kernel
theorem dL_law_178 : decode cL_law 178 = .ok (.iaload, 1) := by decide +kernel
theorem dL_law_179 : decode cL_law 179 = .ok (.invokevirtual 17, 3) := by decide +kernel
theorem dL_law_182 : decode cL_law 182 = .ok (.if_icmp .eq 830, 3) := by decide +kernel
theorem dL_law_185 : decode cL_law 185 = .ok (.iconst 0, 1) := by decide +kernel
theorem dL_law_186 : decode cL_law 186 = .ok (.ireturn, 1) := by decide +kernel
theorem dL_law_187 : decode cL_law 187 = .ok (.aload_n 1, 1) := by decide +kernel
theorem dL_law_188 : decode cL_law 188 = .ok (.invokevirtual 18, 3) := by decide +kernel
theorem dL_law_191 : decode cL_law 191 = .ok (.aload_n 2, 1) := by decide +kernel
theorem dL_law_192 : decode cL_law 192 = .ok (.invokevirtual 22, 3) := by decide +kernel
theorem dL_law_195 : decode cL_law 195 = .ok (.if_icmp .eq 817, 3) := by decide +kernel
theorem dL_law_198 : decode cL_law 198 = .ok (.iconst 0, 1) := by decide +kernel
theorem dL_law_199 : decode cL_law 199 = .ok (.ireturn, 1) := by decide +kernel
theorem dL_law_200 : decode cL_law 200 = .ok (.aload_n 1, 1) := by decide +kernel
theorem dL_law_201 : decode cL_law 201 = .ok (.invokevirtual 23, 3) := by decide +kernel
theorem dL_law_204 : decode cL_law 204 = .ok (.aload_n 2, 1) := by decide +kernel
theorem dL_law_205 : decode cL_law 205 = .ok (.invokevirtual 26, 3) := by decide +kernel
theorem dL_law_208 : decode cL_law 208 = .ok (.if_icmp .eq 804, 3) := by decide +kernel
theorem dL_law_211 : decode cL_law 211 = .ok (.iconst 0, 1) := by decide +kernel
theorem dL_law_212 : decode cL_law 212 = .ok (.ireturn, 1) := by decide +kernel
theorem dL_law_213 : decode cL_law 213 = .ok (.aload_n 1, 1) := by decide +kernel
theorem dL_law_214 : decode cL_law 214 = .ok (.aload_n 0, 1) := by decide +kernel
theorem dL_law_215 : decode cL_law 215 = .ok (.iload_n 3, 1) := by decide +kernel
theorem dL_law_216 : decode cL_law 216 = .ok (.iconst 1, 1) := by decide +kernel
theorem dL_law_217 : decode cL_law 217 = .ok (.iadd, 1) := by decide +kernel
theorem dL_law_218 : decode cL_law 218 = .ok (.iaload, 1) := by decide +kernel
theorem dL_law_219 : decode cL_law 219 = .ok (.aload_n 0, 1) := by decide +kernel
theorem dL_law_220 : decode cL_law 220 = .ok (.iload_n 3, 1) := by decide +kernel
theorem dL_law_221 : decode cL_law 221 = .ok (.iconst 2, 1) := by decide +kernel
theorem dL_law_222 : decode cL_law 222 = .ok (.iadd, 1) := by decide +kernel
theorem dL_law_223 : decode cL_law 223 = .ok (.iaload, 1) := by decide +kernel
theorem dL_law_224 : decode cL_law 224 = .ok (.invokevirtual 27, 3) := by decide +kernel
theorem dL_law_227 : decode cL_law 227 = .ok (.aload_n 2, 1) := by decide +kernel
theorem dL_law_228 : decode cL_law 228 = .ok (.aload_n 0, 1) := by decide +kernel
theorem dL_law_229 : decode cL_law 229 = .ok (.iload_n 3, 1) := by decide +kernel
theorem dL_law_230 : decode cL_law 230 = .ok (.iconst 1, 1) := by decide +kernel
theorem dL_law_231 : decode cL_law 231 = .ok (.iadd, 1) := by decide +kernel
theorem dL_law_232 : decode cL_law 232 = .ok (.iaload, 1) := by decide +kernel
theorem dL_law_233 : decode cL_law 233 = .ok (.aload_n 0, 1) := by decide +kernel
theorem dL_law_234 : decode cL_law 234 = .ok (.iload_n 3, 1) := by decide +kernel
theorem dL_law_235 : decode cL_law 235 = .ok (.iconst 2, 1) := by decide +kernel
theorem dL_law_236 : decode cL_law 236 = .ok (.iadd, 1) := by decide +kernel
theorem dL_law_237 : decode cL_law 237 = .ok (.iaload, 1) := by decide +kernel
theorem dL_law_238 : decode cL_law 238 = .ok (.invokevirtual 31, 3) := by decide +kernel
theorem dL_law_241 : decode cL_law 241 = .ok (.if_icmp .eq 771, 3) := by decide +kernel
theorem dL_law_244 : decode cL_law 244 = .ok (.iconst 0, 1) := by decide +kernel
theorem dL_law_245 : decode cL_law 245 = .ok (.ireturn, 1) := by decide +kernel
theorem dL_law_246 : decode cL_law 246 = .ok (.aload_n 1, 1) := by decide +kernel
theorem dL_law_247 : decode cL_law 247 = .ok (.aload_n 0, 1) := by decide +kernel
theorem dL_law_248 : decode cL_law 248 = .ok (.iload_n 3, 1) := by decide +kernel
theorem dL_law_249 : decode cL_law 249 = .ok (.iconst 1, 1) := by decide +kernel
theorem dL_law_250 : decode cL_law 250 = .ok (.iadd, 1) := by decide +kernel
theorem dL_law_251 : decode cL_law 251 = .ok (.iaload, 1) := by decide +kernel
theorem dL_law_252 : decode cL_law 252 = .ok (.aload_n 0, 1) := by decide +kernel
theorem dL_law_253 : decode cL_law 253 = .ok (.iload_n 3, 1) := by decide +kernel
theorem dL_law_254 : decode cL_law 254 = .ok (.iconst 2, 1) := by decide +kernel
theorem dL_law_255 : decode cL_law 255 = .ok (.iadd, 1) := by decide +kernel
theorem dL_law_256 : decode cL_law 256 = .ok (.iaload, 1) := by decide +kernel
theorem dL_law_257 : decode cL_law 257 = .ok (.invokevirtual 32, 3) := by decide +kernel
theorem dL_law_260 : decode cL_law 260 = .ok (.aload_n 2, 1) := by decide +kernel
theorem dL_law_261 : decode cL_law 261 = .ok (.aload_n 0, 1) := by decide +kernel
theorem dL_law_262 : decode cL_law 262 = .ok (.iload_n 3, 1) := by decide +kernel
theorem dL_law_263 : decode cL_law 263 = .ok (.iconst 1, 1) := by decide +kernel
theorem dL_law_264 : decode cL_law 264 = .ok (.iadd, 1) := by decide +kernel
theorem dL_law_265 : decode cL_law 265 = .ok (.iaload, 1) := by decide +kernel
theorem dL_law_266 : decode cL_law 266 = .ok (.aload_n 0, 1) := by decide +kernel
theorem dL_law_267 : decode cL_law 267 = .ok (.iload_n 3, 1) := by decide +kernel
theorem dL_law_268 : decode cL_law 268 = .ok (.iconst 2, 1) := by decide +kernel
theorem dL_law_269 : decode cL_law 269 = .ok (.iadd, 1) := by decide +kernel
theorem dL_law_270 : decode cL_law 270 = .ok (.iaload, 1) := by decide +kernel
theorem dL_law_271 : decode cL_law 271 = .ok (.invokevirtual 35, 3) := by decide +kernel
theorem dL_law_274 : decode cL_law 274 = .ok (.if_icmp .eq 738, 3) := by decide +kernel
theorem dL_law_277 : decode cL_law 277 = .ok (.iconst 0, 1) := by decide +kernel
theorem dL_law_278 : decode cL_law 278 = .ok (.ireturn, 1) := by decide +kernel
theorem dL_law_279 : decode cL_law 279 = .ok (.aload_n 1, 1) := by decide +kernel
theorem dL_law_280 : decode cL_law 280 = .ok (.aload_n 0, 1) := by decide +kernel
theorem dL_law_281 : decode cL_law 281 = .ok (.iload_n 3, 1) := by decide +kernel
theorem dL_law_282 : decode cL_law 282 = .ok (.iconst 1, 1) := by decide +kernel
theorem dL_law_283 : decode cL_law 283 = .ok (.iadd, 1) := by decide +kernel
theorem dL_law_284 : decode cL_law 284 = .ok (.iaload, 1) := by decide +kernel
theorem dL_law_285 : decode cL_law 285 = .ok (.invokevirtual 36, 3) := by decide +kernel
theorem dL_law_288 : decode cL_law 288 = .ok (.aload_n 2, 1) := by decide +kernel
theorem dL_law_289 : decode cL_law 289 = .ok (.aload_n 0, 1) := by decide +kernel
theorem dL_law_290 : decode cL_law 290 = .ok (.iload_n 3, 1) := by decide +kernel
theorem dL_law_291 : decode cL_law 291 = .ok (.iconst 1, 1) := by decide +kernel
theorem dL_law_292 : decode cL_law 292 = .ok (.iadd, 1) := by decide +kernel
theorem dL_law_293 : decode cL_law 293 = .ok (.iaload, 1) := by decide +kernel
theorem dL_law_294 : decode cL_law 294 = .ok (.invokevirtual 39, 3) := by decide +kernel
theorem dL_law_297 : decode cL_law 297 = .ok (.if_icmp .eq 715, 3) := by decide +kernel
theorem dL_law_300 : decode cL_law 300 = .ok (.iconst 0, 1) := by decide +kernel
theorem dL_law_301 : decode cL_law 301 = .ok (.ireturn, 1) := by decide +kernel
theorem dL_law_302 : decode cL_law 302 = .ok (.aload_n 1, 1) := by decide +kernel
theorem dL_law_303 : decode cL_law 303 = .ok (.invokevirtual 40, 3) := by decide +kernel
theorem dL_law_306 : decode cL_law 306 = .ok (.aload_n 2, 1) := by decide +kernel
theorem dL_law_307 : decode cL_law 307 = .ok (.invokevirtual 43, 3) := by decide +kernel
theorem dL_law_310 : decode cL_law 310 = .ok (.if_icmp .eq 702, 3) := by decide +kernel
theorem dL_law_313 : decode cL_law 313 = .ok (.iconst 0, 1) := by decide +kernel
theorem dL_law_314 : decode cL_law 314 = .ok (.ireturn, 1) := by decide +kernel
theorem dL_law_315 : decode cL_law 315 = .ok (.aload_n 1, 1) := by decide +kernel
theorem dL_law_316 : decode cL_law 316 = .ok (.aload_n 0, 1) := by decide +kernel
theorem dL_law_317 : decode cL_law 317 = .ok (.iload_n 3, 1) := by decide +kernel
theorem dL_law_318 : decode cL_law 318 = .ok (.iconst 1, 1) := by decide +kernel
theorem dL_law_319 : decode cL_law 319 = .ok (.iadd, 1) := by decide +kernel
theorem dL_law_320 : decode cL_law 320 = .ok (.iaload, 1) := by decide +kernel
theorem dL_law_321 : decode cL_law 321 = .ok (.aload_n 0, 1) := by decide +kernel
theorem dL_law_322 : decode cL_law 322 = .ok (.iload_n 3, 1) := by decide +kernel
theorem dL_law_323 : decode cL_law 323 = .ok (.iconst 2, 1) := by decide +kernel
theorem dL_law_324 : decode cL_law 324 = .ok (.iadd, 1) := by decide +kernel
theorem dL_law_325 : decode cL_law 325 = .ok (.iaload, 1) := by decide +kernel
theorem dL_law_326 : decode cL_law 326 = .ok (.aload_n 0, 1) := by decide +kernel
theorem dL_law_327 : decode cL_law 327 = .ok (.iload_n 3, 1) := by decide +kernel
theorem dL_law_328 : decode cL_law 328 = .ok (.iconst 3, 1) := by decide +kernel
theorem dL_law_329 : decode cL_law 329 = .ok (.iadd, 1) := by decide +kernel
theorem dL_law_330 : decode cL_law 330 = .ok (.iaload, 1) := by decide +kernel
theorem dL_law_331 : decode cL_law 331 = .ok (.invokevirtual 44, 3) := by decide +kernel
theorem dL_law_334 : decode cL_law 334 = .ok (.aload_n 2, 1) := by decide +kernel
theorem dL_law_335 : decode cL_law 335 = .ok (.aload_n 0, 1) := by decide +kernel
theorem dL_law_336 : decode cL_law 336 = .ok (.iload_n 3, 1) := by decide +kernel
theorem dL_law_337 : decode cL_law 337 = .ok (.iconst 1, 1) := by decide +kernel
theorem dL_law_338 : decode cL_law 338 = .ok (.iadd, 1) := by decide +kernel
theorem dL_law_339 : decode cL_law 339 = .ok (.iaload, 1) := by decide +kernel
theorem dL_law_340 : decode cL_law 340 = .ok (.aload_n 0, 1) := by decide +kernel
theorem dL_law_341 : decode cL_law 341 = .ok (.iload_n 3, 1) := by decide +kernel
theorem dL_law_342 : decode cL_law 342 = .ok (.iconst 2, 1) := by decide +kernel
theorem dL_law_343 : decode cL_law 343 = .ok (.iadd, 1) := by decide +kernel
theorem dL_law_344 : decode cL_law 344 = .ok (.iaload, 1) := by decide +kernel
theorem dL_law_345 : decode cL_law 345 = .ok (.aload_n 0, 1) := by decide +kernel
theorem dL_law_346 : decode cL_law 346 = .ok (.iload_n 3, 1) := by decide +kernel
theorem dL_law_347 : decode cL_law 347 = .ok (.iconst 3, 1) := by decide +kernel
theorem dL_law_348 : decode cL_law 348 = .ok (.iadd, 1) := by decide +kernel
theorem dL_law_349 : decode cL_law 349 = .ok (.iaload, 1) := by decide +kernel
theorem dL_law_350 : decode cL_law 350 = .ok (.invokevirtual 48, 3) := by decide +kernel
theorem dL_law_353 : decode cL_law 353 = .ok (.if_icmp .eq 659, 3) := by decide +kernel
theorem dL_law_356 : decode cL_law 356 = .ok (.iconst 0, 1) := by decide +kernel
theorem dL_law_357 : decode cL_law 357 = .ok (.ireturn, 1) := by decide +kernel
theorem dL_law_358 : decode cL_law 358 = .ok (.aload_n 1, 1) := by decide +kernel
theorem dL_law_359 : decode cL_law 359 = .ok (.invokevirtual 49, 3) := by decide +kernel
theorem dL_law_362 : decode cL_law 362 = .ok (.aload_n 2, 1) := by decide +kernel
theorem dL_law_363 : decode cL_law 363 = .ok (.invokevirtual 52, 3) := by decide +kernel
theorem dL_law_366 : decode cL_law 366 = .ok (.if_icmp .eq 646, 3) := by decide +kernel
theorem dL_law_369 : decode cL_law 369 = .ok (.iconst 0, 1) := by decide +kernel
theorem dL_law_370 : decode cL_law 370 = .ok (.ireturn, 1) := by decide +kernel
theorem dL_law_371 : decode cL_law 371 = .ok (.aload_n 1, 1) := by decide +kernel
theorem dL_law_372 : decode cL_law 372 = .ok (.aload_n 0, 1) := by decide +kernel
theorem dL_law_373 : decode cL_law 373 = .ok (.iload_n 3, 1) := by decide +kernel
theorem dL_law_374 : decode cL_law 374 = .ok (.iconst 1, 1) := by decide +kernel
theorem dL_law_375 : decode cL_law 375 = .ok (.iadd, 1) := by decide +kernel
theorem dL_law_376 : decode cL_law 376 = .ok (.iaload, 1) := by decide +kernel
theorem dL_law_377 : decode cL_law 377 = .ok (.invokevirtual 53, 3) := by decide +kernel
theorem dL_law_380 : decode cL_law 380 = .ok (.aload_n 2, 1) := by decide +kernel
theorem dL_law_381 : decode cL_law 381 = .ok (.aload_n 0, 1) := by decide +kernel
theorem dL_law_382 : decode cL_law 382 = .ok (.iload_n 3, 1) := by decide +kernel
theorem dL_law_383 : decode cL_law 383 = .ok (.iconst 1, 1) := by decide +kernel
theorem dL_law_384 : decode cL_law 384 = .ok (.iadd, 1) := by decide +kernel
theorem dL_law_385 : decode cL_law 385 = .ok (.iaload, 1) := by decide +kernel
theorem dL_law_386 : decode cL_law 386 = .ok (.invokevirtual 56, 3) := by decide +kernel
theorem dL_law_389 : decode cL_law 389 = .ok (.if_icmp .eq 623, 3) := by decide +kernel
theorem dL_law_392 : decode cL_law 392 = .ok (.iconst 0, 1) := by decide +kernel
theorem dL_law_393 : decode cL_law 393 = .ok (.ireturn, 1) := by decide +kernel
theorem dL_law_394 : decode cL_law 394 = .ok (.aload_n 1, 1) := by decide +kernel
theorem dL_law_395 : decode cL_law 395 = .ok (.aload_n 0, 1) := by decide +kernel
theorem dL_law_396 : decode cL_law 396 = .ok (.iload_n 3, 1) := by decide +kernel
theorem dL_law_397 : decode cL_law 397 = .ok (.iconst 1, 1) := by decide +kernel
theorem dL_law_398 : decode cL_law 398 = .ok (.iadd, 1) := by decide +kernel
theorem dL_law_399 : decode cL_law 399 = .ok (.iaload, 1) := by decide +kernel
theorem dL_law_400 : decode cL_law 400 = .ok (.aload_n 0, 1) := by decide +kernel
theorem dL_law_401 : decode cL_law 401 = .ok (.iload_n 3, 1) := by decide +kernel
theorem dL_law_402 : decode cL_law 402 = .ok (.iconst 2, 1) := by decide +kernel
theorem dL_law_403 : decode cL_law 403 = .ok (.iadd, 1) := by decide +kernel
theorem dL_law_404 : decode cL_law 404 = .ok (.iaload, 1) := by decide +kernel
theorem dL_law_405 : decode cL_law 405 = .ok (.invokevirtual 57, 3) := by decide +kernel
theorem dL_law_408 : decode cL_law 408 = .ok (.aload_n 2, 1) := by decide +kernel
theorem dL_law_409 : decode cL_law 409 = .ok (.aload_n 0, 1) := by decide +kernel
theorem dL_law_410 : decode cL_law 410 = .ok (.iload_n 3, 1) := by decide +kernel
theorem dL_law_411 : decode cL_law 411 = .ok (.iconst 1, 1) := by decide +kernel
theorem dL_law_412 : decode cL_law 412 = .ok (.iadd, 1) := by decide +kernel
theorem dL_law_413 : decode cL_law 413 = .ok (.iaload, 1) := by decide +kernel
theorem dL_law_414 : decode cL_law 414 = .ok (.aload_n 0, 1) := by decide +kernel
theorem dL_law_415 : decode cL_law 415 = .ok (.iload_n 3, 1) := by decide +kernel
theorem dL_law_416 : decode cL_law 416 = .ok (.iconst 2, 1) := by decide +kernel
theorem dL_law_417 : decode cL_law 417 = .ok (.iadd, 1) := by decide +kernel
theorem dL_law_418 : decode cL_law 418 = .ok (.iaload, 1) := by decide +kernel
theorem dL_law_419 : decode cL_law 419 = .ok (.invokevirtual 60, 3) := by decide +kernel
theorem dL_law_422 : decode cL_law 422 = .ok (.if_icmp .eq 590, 3) := by decide +kernel
theorem dL_law_425 : decode cL_law 425 = .ok (.iconst 0, 1) := by decide +kernel
theorem dL_law_426 : decode cL_law 426 = .ok (.ireturn, 1) := by decide +kernel
theorem dL_law_427 : decode cL_law 427 = .ok (.aload_n 1, 1) := by decide +kernel
theorem dL_law_428 : decode cL_law 428 = .ok (.aload_n 0, 1) := by decide +kernel
theorem dL_law_429 : decode cL_law 429 = .ok (.iload_n 3, 1) := by decide +kernel
theorem dL_law_430 : decode cL_law 430 = .ok (.iconst 1, 1) := by decide +kernel
theorem dL_law_431 : decode cL_law 431 = .ok (.iadd, 1) := by decide +kernel
theorem dL_law_432 : decode cL_law 432 = .ok (.iaload, 1) := by decide +kernel
theorem dL_law_433 : decode cL_law 433 = .ok (.invokevirtual 61, 3) := by decide +kernel
theorem dL_law_436 : decode cL_law 436 = .ok (.aload_n 2, 1) := by decide +kernel
theorem dL_law_437 : decode cL_law 437 = .ok (.aload_n 0, 1) := by decide +kernel
theorem dL_law_438 : decode cL_law 438 = .ok (.iload_n 3, 1) := by decide +kernel
theorem dL_law_439 : decode cL_law 439 = .ok (.iconst 1, 1) := by decide +kernel
theorem dL_law_440 : decode cL_law 440 = .ok (.iadd, 1) := by decide +kernel
theorem dL_law_441 : decode cL_law 441 = .ok (.iaload, 1) := by decide +kernel
theorem dL_law_442 : decode cL_law 442 = .ok (.invokevirtual 64, 3) := by decide +kernel
theorem dL_law_445 : decode cL_law 445 = .ok (.if_icmp .eq 567, 3) := by decide +kernel
theorem dL_law_448 : decode cL_law 448 = .ok (.iconst 0, 1) := by decide +kernel
theorem dL_law_449 : decode cL_law 449 = .ok (.ireturn, 1) := by decide +kernel
theorem dL_law_450 : decode cL_law 450 = .ok (.aload_n 1, 1) := by decide +kernel
theorem dL_law_451 : decode cL_law 451 = .ok (.aload_n 0, 1) := by decide +kernel
theorem dL_law_452 : decode cL_law 452 = .ok (.iload_n 3, 1) := by decide +kernel
theorem dL_law_453 : decode cL_law 453 = .ok (.iconst 1, 1) := by decide +kernel
theorem dL_law_454 : decode cL_law 454 = .ok (.iadd, 1) := by decide +kernel
theorem dL_law_455 : decode cL_law 455 = .ok (.iaload, 1) := by decide +kernel
theorem dL_law_456 : decode cL_law 456 = .ok (.invokevirtual 65, 3) := by decide +kernel
theorem dL_law_459 : decode cL_law 459 = .ok (.aload_n 2, 1) := by decide +kernel
theorem dL_law_460 : decode cL_law 460 = .ok (.aload_n 0, 1) := by decide +kernel
theorem dL_law_461 : decode cL_law 461 = .ok (.iload_n 3, 1) := by decide +kernel
theorem dL_law_462 : decode cL_law 462 = .ok (.iconst 1, 1) := by decide +kernel
theorem dL_law_463 : decode cL_law 463 = .ok (.iadd, 1) := by decide +kernel
theorem dL_law_464 : decode cL_law 464 = .ok (.iaload, 1) := by decide +kernel
theorem dL_law_465 : decode cL_law 465 = .ok (.invokevirtual 68, 3) := by decide +kernel
theorem dL_law_468 : decode cL_law 468 = .ok (.if_icmp .eq 544, 3) := by decide +kernel
theorem dL_law_471 : decode cL_law 471 = .ok (.iconst 0, 1) := by decide +kernel
theorem dL_law_472 : decode cL_law 472 = .ok (.ireturn, 1) := by decide +kernel
theorem dL_law_473 : decode cL_law 473 = .ok (.aload_n 1, 1) := by decide +kernel
theorem dL_law_474 : decode cL_law 474 = .ok (.aload_n 0, 1) := by decide +kernel
theorem dL_law_475 : decode cL_law 475 = .ok (.iload_n 3, 1) := by decide +kernel
theorem dL_law_476 : decode cL_law 476 = .ok (.iconst 1, 1) := by decide +kernel
theorem dL_law_477 : decode cL_law 477 = .ok (.iadd, 1) := by decide +kernel
theorem dL_law_478 : decode cL_law 478 = .ok (.iaload, 1) := by decide +kernel
theorem dL_law_479 : decode cL_law 479 = .ok (.aload_n 0, 1) := by decide +kernel
theorem dL_law_480 : decode cL_law 480 = .ok (.iload_n 3, 1) := by decide +kernel
theorem dL_law_481 : decode cL_law 481 = .ok (.iconst 2, 1) := by decide +kernel
theorem dL_law_482 : decode cL_law 482 = .ok (.iadd, 1) := by decide +kernel
theorem dL_law_483 : decode cL_law 483 = .ok (.iaload, 1) := by decide +kernel
theorem dL_law_484 : decode cL_law 484 = .ok (.invokevirtual 69, 3) := by decide +kernel
theorem dL_law_487 : decode cL_law 487 = .ok (.aload_n 2, 1) := by decide +kernel
theorem dL_law_488 : decode cL_law 488 = .ok (.aload_n 0, 1) := by decide +kernel
theorem dL_law_489 : decode cL_law 489 = .ok (.iload_n 3, 1) := by decide +kernel
theorem dL_law_490 : decode cL_law 490 = .ok (.iconst 1, 1) := by decide +kernel
theorem dL_law_491 : decode cL_law 491 = .ok (.iadd, 1) := by decide +kernel
theorem dL_law_492 : decode cL_law 492 = .ok (.iaload, 1) := by decide +kernel
theorem dL_law_493 : decode cL_law 493 = .ok (.aload_n 0, 1) := by decide +kernel
theorem dL_law_494 : decode cL_law 494 = .ok (.iload_n 3, 1) := by decide +kernel
theorem dL_law_495 : decode cL_law 495 = .ok (.iconst 2, 1) := by decide +kernel
theorem dL_law_496 : decode cL_law 496 = .ok (.iadd, 1) := by decide +kernel
theorem dL_law_497 : decode cL_law 497 = .ok (.iaload, 1) := by decide +kernel
theorem dL_law_498 : decode cL_law 498 = .ok (.invokevirtual 72, 3) := by decide +kernel
theorem dL_law_501 : decode cL_law 501 = .ok (.if_icmp .eq 511, 3) := by decide +kernel
theorem dL_law_504 : decode cL_law 504 = .ok (.iconst 0, 1) := by decide +kernel
theorem dL_law_505 : decode cL_law 505 = .ok (.ireturn, 1) := by decide +kernel
theorem dL_law_506 : decode cL_law 506 = .ok (.aload_n 1, 1) := by decide +kernel
theorem dL_law_507 : decode cL_law 507 = .ok (.aload_n 0, 1) := by decide +kernel
theorem dL_law_508 : decode cL_law 508 = .ok (.iload_n 3, 1) := by decide +kernel
theorem dL_law_509 : decode cL_law 509 = .ok (.iconst 1, 1) := by decide +kernel
theorem dL_law_510 : decode cL_law 510 = .ok (.iadd, 1) := by decide +kernel
theorem dL_law_511 : decode cL_law 511 = .ok (.iaload, 1) := by decide +kernel
theorem dL_law_512 : decode cL_law 512 = .ok (.aload_n 0, 1) := by decide +kernel
theorem dL_law_513 : decode cL_law 513 = .ok (.iload_n 3, 1) := by decide +kernel
theorem dL_law_514 : decode cL_law 514 = .ok (.iconst 2, 1) := by decide +kernel
theorem dL_law_515 : decode cL_law 515 = .ok (.iadd, 1) := by decide +kernel
theorem dL_law_516 : decode cL_law 516 = .ok (.iaload, 1) := by decide +kernel
theorem dL_law_517 : decode cL_law 517 = .ok (.aload_n 0, 1) := by decide +kernel
theorem dL_law_518 : decode cL_law 518 = .ok (.iload_n 3, 1) := by decide +kernel
theorem dL_law_519 : decode cL_law 519 = .ok (.iconst 3, 1) := by decide +kernel
theorem dL_law_520 : decode cL_law 520 = .ok (.iadd, 1) := by decide +kernel
theorem dL_law_521 : decode cL_law 521 = .ok (.iaload, 1) := by decide +kernel
theorem dL_law_522 : decode cL_law 522 = .ok (.aload_n 0, 1) := by decide +kernel
theorem dL_law_523 : decode cL_law 523 = .ok (.iload_n 3, 1) := by decide +kernel
theorem dL_law_524 : decode cL_law 524 = .ok (.iconst 4, 1) := by decide +kernel
theorem dL_law_525 : decode cL_law 525 = .ok (.iadd, 1) := by decide +kernel
theorem dL_law_526 : decode cL_law 526 = .ok (.iaload, 1) := by decide +kernel
theorem dL_law_527 : decode cL_law 527 = .ok (.invokevirtual 73, 3) := by decide +kernel
theorem dL_law_530 : decode cL_law 530 = .ok (.aload_n 2, 1) := by decide +kernel
theorem dL_law_531 : decode cL_law 531 = .ok (.aload_n 0, 1) := by decide +kernel
theorem dL_law_532 : decode cL_law 532 = .ok (.iload_n 3, 1) := by decide +kernel
theorem dL_law_533 : decode cL_law 533 = .ok (.iconst 1, 1) := by decide +kernel
theorem dL_law_534 : decode cL_law 534 = .ok (.iadd, 1) := by decide +kernel
theorem dL_law_535 : decode cL_law 535 = .ok (.iaload, 1) := by decide +kernel
theorem dL_law_536 : decode cL_law 536 = .ok (.aload_n 0, 1) := by decide +kernel
theorem dL_law_537 : decode cL_law 537 = .ok (.iload_n 3, 1) := by decide +kernel
theorem dL_law_538 : decode cL_law 538 = .ok (.iconst 2, 1) := by decide +kernel
theorem dL_law_539 : decode cL_law 539 = .ok (.iadd, 1) := by decide +kernel
theorem dL_law_540 : decode cL_law 540 = .ok (.iaload, 1) := by decide +kernel
theorem dL_law_541 : decode cL_law 541 = .ok (.aload_n 0, 1) := by decide +kernel
theorem dL_law_542 : decode cL_law 542 = .ok (.iload_n 3, 1) := by decide +kernel
theorem dL_law_543 : decode cL_law 543 = .ok (.iconst 3, 1) := by decide +kernel
theorem dL_law_544 : decode cL_law 544 = .ok (.iadd, 1) := by decide +kernel
theorem dL_law_545 : decode cL_law 545 = .ok (.iaload, 1) := by decide +kernel
theorem dL_law_546 : decode cL_law 546 = .ok (.aload_n 0, 1) := by decide +kernel
theorem dL_law_547 : decode cL_law 547 = .ok (.iload_n 3, 1) := by decide +kernel
theorem dL_law_548 : decode cL_law 548 = .ok (.iconst 4, 1) := by decide +kernel
theorem dL_law_549 : decode cL_law 549 = .ok (.iadd, 1) := by decide +kernel
theorem dL_law_550 : decode cL_law 550 = .ok (.iaload, 1) := by decide +kernel
theorem dL_law_551 : decode cL_law 551 = .ok (.invokevirtual 77, 3) := by decide +kernel
theorem dL_law_554 : decode cL_law 554 = .ok (.if_icmp .eq 458, 3) := by decide +kernel
theorem dL_law_557 : decode cL_law 557 = .ok (.iconst 0, 1) := by decide +kernel
theorem dL_law_558 : decode cL_law 558 = .ok (.ireturn, 1) := by decide +kernel
theorem dL_law_559 : decode cL_law 559 = .ok (.aload_n 1, 1) := by decide +kernel
theorem dL_law_560 : decode cL_law 560 = .ok (.aload_n 0, 1) := by decide +kernel
theorem dL_law_561 : decode cL_law 561 = .ok (.iload_n 3, 1) := by decide +kernel
theorem dL_law_562 : decode cL_law 562 = .ok (.iconst 1, 1) := by decide +kernel
theorem dL_law_563 : decode cL_law 563 = .ok (.iadd, 1) := by decide +kernel
theorem dL_law_564 : decode cL_law 564 = .ok (.iaload, 1) := by decide +kernel
theorem dL_law_565 : decode cL_law 565 = .ok (.invokevirtual 78, 3) := by decide +kernel
theorem dL_law_568 : decode cL_law 568 = .ok (.aload_n 2, 1) := by decide +kernel
theorem dL_law_569 : decode cL_law 569 = .ok (.aload_n 0, 1) := by decide +kernel
theorem dL_law_570 : decode cL_law 570 = .ok (.iload_n 3, 1) := by decide +kernel
theorem dL_law_571 : decode cL_law 571 = .ok (.iconst 1, 1) := by decide +kernel
theorem dL_law_572 : decode cL_law 572 = .ok (.iadd, 1) := by decide +kernel
theorem dL_law_573 : decode cL_law 573 = .ok (.iaload, 1) := by decide +kernel
theorem dL_law_574 : decode cL_law 574 = .ok (.invokevirtual 81, 3) := by decide +kernel
theorem dL_law_577 : decode cL_law 577 = .ok (.if_icmp .eq 435, 3) := by decide +kernel
theorem dL_law_580 : decode cL_law 580 = .ok (.iconst 0, 1) := by decide +kernel
theorem dL_law_581 : decode cL_law 581 = .ok (.ireturn, 1) := by decide +kernel
theorem dL_law_582 : decode cL_law 582 = .ok (.aload_n 1, 1) := by decide +kernel
theorem dL_law_583 : decode cL_law 583 = .ok (.aload_n 0, 1) := by decide +kernel
theorem dL_law_584 : decode cL_law 584 = .ok (.iload_n 3, 1) := by decide +kernel
theorem dL_law_585 : decode cL_law 585 = .ok (.iconst 1, 1) := by decide +kernel
theorem dL_law_586 : decode cL_law 586 = .ok (.iadd, 1) := by decide +kernel
theorem dL_law_587 : decode cL_law 587 = .ok (.iaload, 1) := by decide +kernel
theorem dL_law_588 : decode cL_law 588 = .ok (.aload_n 0, 1) := by decide +kernel
theorem dL_law_589 : decode cL_law 589 = .ok (.iload_n 3, 1) := by decide +kernel
theorem dL_law_590 : decode cL_law 590 = .ok (.iconst 2, 1) := by decide +kernel
theorem dL_law_591 : decode cL_law 591 = .ok (.iadd, 1) := by decide +kernel
theorem dL_law_592 : decode cL_law 592 = .ok (.iaload, 1) := by decide +kernel
theorem dL_law_593 : decode cL_law 593 = .ok (.aload_n 0, 1) := by decide +kernel
theorem dL_law_594 : decode cL_law 594 = .ok (.iload_n 3, 1) := by decide +kernel
theorem dL_law_595 : decode cL_law 595 = .ok (.iconst 3, 1) := by decide +kernel
theorem dL_law_596 : decode cL_law 596 = .ok (.iadd, 1) := by decide +kernel
theorem dL_law_597 : decode cL_law 597 = .ok (.iaload, 1) := by decide +kernel
theorem dL_law_598 : decode cL_law 598 = .ok (.invokevirtual 82, 3) := by decide +kernel
theorem dL_law_601 : decode cL_law 601 = .ok (.aload_n 2, 1) := by decide +kernel
theorem dL_law_602 : decode cL_law 602 = .ok (.aload_n 0, 1) := by decide +kernel
theorem dL_law_603 : decode cL_law 603 = .ok (.iload_n 3, 1) := by decide +kernel
theorem dL_law_604 : decode cL_law 604 = .ok (.iconst 1, 1) := by decide +kernel
theorem dL_law_605 : decode cL_law 605 = .ok (.iadd, 1) := by decide +kernel
theorem dL_law_606 : decode cL_law 606 = .ok (.iaload, 1) := by decide +kernel
theorem dL_law_607 : decode cL_law 607 = .ok (.aload_n 0, 1) := by decide +kernel
theorem dL_law_608 : decode cL_law 608 = .ok (.iload_n 3, 1) := by decide +kernel
theorem dL_law_609 : decode cL_law 609 = .ok (.iconst 2, 1) := by decide +kernel
theorem dL_law_610 : decode cL_law 610 = .ok (.iadd, 1) := by decide +kernel
theorem dL_law_611 : decode cL_law 611 = .ok (.iaload, 1) := by decide +kernel
theorem dL_law_612 : decode cL_law 612 = .ok (.aload_n 0, 1) := by decide +kernel
theorem dL_law_613 : decode cL_law 613 = .ok (.iload_n 3, 1) := by decide +kernel
theorem dL_law_614 : decode cL_law 614 = .ok (.iconst 3, 1) := by decide +kernel
theorem dL_law_615 : decode cL_law 615 = .ok (.iadd, 1) := by decide +kernel
theorem dL_law_616 : decode cL_law 616 = .ok (.iaload, 1) := by decide +kernel
theorem dL_law_617 : decode cL_law 617 = .ok (.invokevirtual 85, 3) := by decide +kernel
theorem dL_law_620 : decode cL_law 620 = .ok (.if_icmp .eq 392, 3) := by decide +kernel
theorem dL_law_623 : decode cL_law 623 = .ok (.iconst 0, 1) := by decide +kernel
theorem dL_law_624 : decode cL_law 624 = .ok (.ireturn, 1) := by decide +kernel
theorem dL_law_625 : decode cL_law 625 = .ok (.aload_n 1, 1) := by decide +kernel
theorem dL_law_626 : decode cL_law 626 = .ok (.aload_n 0, 1) := by decide +kernel
theorem dL_law_627 : decode cL_law 627 = .ok (.iload_n 3, 1) := by decide +kernel
theorem dL_law_628 : decode cL_law 628 = .ok (.iconst 1, 1) := by decide +kernel
theorem dL_law_629 : decode cL_law 629 = .ok (.iadd, 1) := by decide +kernel
theorem dL_law_630 : decode cL_law 630 = .ok (.iaload, 1) := by decide +kernel
theorem dL_law_631 : decode cL_law 631 = .ok (.aload_n 0, 1) := by decide +kernel
theorem dL_law_632 : decode cL_law 632 = .ok (.iload_n 3, 1) := by decide +kernel
theorem dL_law_633 : decode cL_law 633 = .ok (.iconst 2, 1) := by decide +kernel
theorem dL_law_634 : decode cL_law 634 = .ok (.iadd, 1) := by decide +kernel
theorem dL_law_635 : decode cL_law 635 = .ok (.iaload, 1) := by decide +kernel
theorem dL_law_636 : decode cL_law 636 = .ok (.invokevirtual 86, 3) := by decide +kernel
theorem dL_law_639 : decode cL_law 639 = .ok (.aload_n 2, 1) := by decide +kernel
theorem dL_law_640 : decode cL_law 640 = .ok (.aload_n 0, 1) := by decide +kernel
theorem dL_law_641 : decode cL_law 641 = .ok (.iload_n 3, 1) := by decide +kernel
theorem dL_law_642 : decode cL_law 642 = .ok (.iconst 1, 1) := by decide +kernel
theorem dL_law_643 : decode cL_law 643 = .ok (.iadd, 1) := by decide +kernel
theorem dL_law_644 : decode cL_law 644 = .ok (.iaload, 1) := by decide +kernel
theorem dL_law_645 : decode cL_law 645 = .ok (.aload_n 0, 1) := by decide +kernel
theorem dL_law_646 : decode cL_law 646 = .ok (.iload_n 3, 1) := by decide +kernel
theorem dL_law_647 : decode cL_law 647 = .ok (.iconst 2, 1) := by decide +kernel
theorem dL_law_648 : decode cL_law 648 = .ok (.iadd, 1) := by decide +kernel
theorem dL_law_649 : decode cL_law 649 = .ok (.iaload, 1) := by decide +kernel
theorem dL_law_650 : decode cL_law 650 = .ok (.invokevirtual 89, 3) := by decide +kernel
theorem dL_law_653 : decode cL_law 653 = .ok (.if_icmp .eq 359, 3) := by decide +kernel
theorem dL_law_656 : decode cL_law 656 = .ok (.iconst 0, 1) := by decide +kernel
theorem dL_law_657 : decode cL_law 657 = .ok (.ireturn, 1) := by decide +kernel
theorem dL_law_658 : decode cL_law 658 = .ok (.aload_n 1, 1) := by decide +kernel
theorem dL_law_659 : decode cL_law 659 = .ok (.invokevirtual 90, 3) := by decide +kernel
theorem dL_law_662 : decode cL_law 662 = .ok (.aload_n 2, 1) := by decide +kernel
theorem dL_law_663 : decode cL_law 663 = .ok (.invokevirtual 93, 3) := by decide +kernel
theorem dL_law_666 : decode cL_law 666 = .ok (.if_icmp .eq 346, 3) := by decide +kernel
theorem dL_law_669 : decode cL_law 669 = .ok (.iconst 0, 1) := by decide +kernel
theorem dL_law_670 : decode cL_law 670 = .ok (.ireturn, 1) := by decide +kernel
theorem dL_law_671 : decode cL_law 671 = .ok (.aload_n 1, 1) := by decide +kernel
theorem dL_law_672 : decode cL_law 672 = .ok (.invokevirtual 94, 3) := by decide +kernel
theorem dL_law_675 : decode cL_law 675 = .ok (.aload_n 2, 1) := by decide +kernel
theorem dL_law_676 : decode cL_law 676 = .ok (.invokevirtual 97, 3) := by decide +kernel
theorem dL_law_679 : decode cL_law 679 = .ok (.if_icmp .eq 333, 3) := by decide +kernel
theorem dL_law_682 : decode cL_law 682 = .ok (.iconst 0, 1) := by decide +kernel
theorem dL_law_683 : decode cL_law 683 = .ok (.ireturn, 1) := by decide +kernel
theorem dL_law_684 : decode cL_law 684 = .ok (.aload_n 1, 1) := by decide +kernel
theorem dL_law_685 : decode cL_law 685 = .ok (.aload_n 0, 1) := by decide +kernel
theorem dL_law_686 : decode cL_law 686 = .ok (.iload_n 3, 1) := by decide +kernel
theorem dL_law_687 : decode cL_law 687 = .ok (.iconst 1, 1) := by decide +kernel
theorem dL_law_688 : decode cL_law 688 = .ok (.iadd, 1) := by decide +kernel
theorem dL_law_689 : decode cL_law 689 = .ok (.iaload, 1) := by decide +kernel
theorem dL_law_690 : decode cL_law 690 = .ok (.aload_n 0, 1) := by decide +kernel
theorem dL_law_691 : decode cL_law 691 = .ok (.iload_n 3, 1) := by decide +kernel
theorem dL_law_692 : decode cL_law 692 = .ok (.iconst 2, 1) := by decide +kernel
theorem dL_law_693 : decode cL_law 693 = .ok (.iadd, 1) := by decide +kernel
theorem dL_law_694 : decode cL_law 694 = .ok (.iaload, 1) := by decide +kernel
theorem dL_law_695 : decode cL_law 695 = .ok (.aload_n 0, 1) := by decide +kernel
theorem dL_law_696 : decode cL_law 696 = .ok (.iload_n 3, 1) := by decide +kernel
theorem dL_law_697 : decode cL_law 697 = .ok (.iconst 3, 1) := by decide +kernel
theorem dL_law_698 : decode cL_law 698 = .ok (.iadd, 1) := by decide +kernel
theorem dL_law_699 : decode cL_law 699 = .ok (.iaload, 1) := by decide +kernel
theorem dL_law_700 : decode cL_law 700 = .ok (.invokevirtual 98, 3) := by decide +kernel
theorem dL_law_703 : decode cL_law 703 = .ok (.aload_n 2, 1) := by decide +kernel
theorem dL_law_704 : decode cL_law 704 = .ok (.aload_n 0, 1) := by decide +kernel
theorem dL_law_705 : decode cL_law 705 = .ok (.iload_n 3, 1) := by decide +kernel
theorem dL_law_706 : decode cL_law 706 = .ok (.iconst 1, 1) := by decide +kernel
theorem dL_law_707 : decode cL_law 707 = .ok (.iadd, 1) := by decide +kernel
theorem dL_law_708 : decode cL_law 708 = .ok (.iaload, 1) := by decide +kernel
theorem dL_law_709 : decode cL_law 709 = .ok (.aload_n 0, 1) := by decide +kernel
theorem dL_law_710 : decode cL_law 710 = .ok (.iload_n 3, 1) := by decide +kernel
theorem dL_law_711 : decode cL_law 711 = .ok (.iconst 2, 1) := by decide +kernel
theorem dL_law_712 : decode cL_law 712 = .ok (.iadd, 1) := by decide +kernel
theorem dL_law_713 : decode cL_law 713 = .ok (.iaload, 1) := by decide +kernel
theorem dL_law_714 : decode cL_law 714 = .ok (.aload_n 0, 1) := by decide +kernel
theorem dL_law_715 : decode cL_law 715 = .ok (.iload_n 3, 1) := by decide +kernel
theorem dL_law_716 : decode cL_law 716 = .ok (.iconst 3, 1) := by decide +kernel
theorem dL_law_717 : decode cL_law 717 = .ok (.iadd, 1) := by decide +kernel
theorem dL_law_718 : decode cL_law 718 = .ok (.iaload, 1) := by decide +kernel
theorem dL_law_719 : decode cL_law 719 = .ok (.invokevirtual 101, 3) := by decide +kernel
theorem dL_law_722 : decode cL_law 722 = .ok (.if_icmp .eq 290, 3) := by decide +kernel
theorem dL_law_725 : decode cL_law 725 = .ok (.iconst 0, 1) := by decide +kernel
theorem dL_law_726 : decode cL_law 726 = .ok (.ireturn, 1) := by decide +kernel
theorem dL_law_727 : decode cL_law 727 = .ok (.aload_n 1, 1) := by decide +kernel
theorem dL_law_728 : decode cL_law 728 = .ok (.aload_n 0, 1) := by decide +kernel
theorem dL_law_729 : decode cL_law 729 = .ok (.iload_n 3, 1) := by decide +kernel
theorem dL_law_730 : decode cL_law 730 = .ok (.iconst 1, 1) := by decide +kernel
theorem dL_law_731 : decode cL_law 731 = .ok (.iadd, 1) := by decide +kernel
theorem dL_law_732 : decode cL_law 732 = .ok (.iaload, 1) := by decide +kernel
theorem dL_law_733 : decode cL_law 733 = .ok (.aload_n 0, 1) := by decide +kernel
theorem dL_law_734 : decode cL_law 734 = .ok (.iload_n 3, 1) := by decide +kernel
theorem dL_law_735 : decode cL_law 735 = .ok (.iconst 2, 1) := by decide +kernel
theorem dL_law_736 : decode cL_law 736 = .ok (.iadd, 1) := by decide +kernel
theorem dL_law_737 : decode cL_law 737 = .ok (.iaload, 1) := by decide +kernel
theorem dL_law_738 : decode cL_law 738 = .ok (.aload_n 0, 1) := by decide +kernel
theorem dL_law_739 : decode cL_law 739 = .ok (.iload_n 3, 1) := by decide +kernel
theorem dL_law_740 : decode cL_law 740 = .ok (.iconst 3, 1) := by decide +kernel
theorem dL_law_741 : decode cL_law 741 = .ok (.iadd, 1) := by decide +kernel
theorem dL_law_742 : decode cL_law 742 = .ok (.iaload, 1) := by decide +kernel
theorem dL_law_743 : decode cL_law 743 = .ok (.invokevirtual 102, 3) := by decide +kernel
theorem dL_law_746 : decode cL_law 746 = .ok (.aload_n 2, 1) := by decide +kernel
theorem dL_law_747 : decode cL_law 747 = .ok (.aload_n 0, 1) := by decide +kernel
theorem dL_law_748 : decode cL_law 748 = .ok (.iload_n 3, 1) := by decide +kernel
theorem dL_law_749 : decode cL_law 749 = .ok (.iconst 1, 1) := by decide +kernel
theorem dL_law_750 : decode cL_law 750 = .ok (.iadd, 1) := by decide +kernel
theorem dL_law_751 : decode cL_law 751 = .ok (.iaload, 1) := by decide +kernel
theorem dL_law_752 : decode cL_law 752 = .ok (.aload_n 0, 1) := by decide +kernel
theorem dL_law_753 : decode cL_law 753 = .ok (.iload_n 3, 1) := by decide +kernel
theorem dL_law_754 : decode cL_law 754 = .ok (.iconst 2, 1) := by decide +kernel
theorem dL_law_755 : decode cL_law 755 = .ok (.iadd, 1) := by decide +kernel
theorem dL_law_756 : decode cL_law 756 = .ok (.iaload, 1) := by decide +kernel
theorem dL_law_757 : decode cL_law 757 = .ok (.aload_n 0, 1) := by decide +kernel
theorem dL_law_758 : decode cL_law 758 = .ok (.iload_n 3, 1) := by decide +kernel
theorem dL_law_759 : decode cL_law 759 = .ok (.iconst 3, 1) := by decide +kernel
theorem dL_law_760 : decode cL_law 760 = .ok (.iadd, 1) := by decide +kernel
theorem dL_law_761 : decode cL_law 761 = .ok (.iaload, 1) := by decide +kernel
theorem dL_law_762 : decode cL_law 762 = .ok (.invokevirtual 105, 3) := by decide +kernel
theorem dL_law_765 : decode cL_law 765 = .ok (.if_icmp .eq 247, 3) := by decide +kernel
theorem dL_law_768 : decode cL_law 768 = .ok (.iconst 0, 1) := by decide +kernel
theorem dL_law_769 : decode cL_law 769 = .ok (.ireturn, 1) := by decide +kernel
theorem dL_law_770 : decode cL_law 770 = .ok (.aload_n 1, 1) := by decide +kernel
theorem dL_law_771 : decode cL_law 771 = .ok (.aload_n 0, 1) := by decide +kernel
theorem dL_law_772 : decode cL_law 772 = .ok (.iload_n 3, 1) := by decide +kernel
theorem dL_law_773 : decode cL_law 773 = .ok (.iconst 1, 1) := by decide +kernel
theorem dL_law_774 : decode cL_law 774 = .ok (.iadd, 1) := by decide +kernel
theorem dL_law_775 : decode cL_law 775 = .ok (.iaload, 1) := by decide +kernel
theorem dL_law_776 : decode cL_law 776 = .ok (.invokevirtual 106, 3) := by decide +kernel
theorem dL_law_779 : decode cL_law 779 = .ok (.aload_n 2, 1) := by decide +kernel
theorem dL_law_780 : decode cL_law 780 = .ok (.aload_n 0, 1) := by decide +kernel
theorem dL_law_781 : decode cL_law 781 = .ok (.iload_n 3, 1) := by decide +kernel
theorem dL_law_782 : decode cL_law 782 = .ok (.iconst 1, 1) := by decide +kernel
theorem dL_law_783 : decode cL_law 783 = .ok (.iadd, 1) := by decide +kernel
theorem dL_law_784 : decode cL_law 784 = .ok (.iaload, 1) := by decide +kernel
theorem dL_law_785 : decode cL_law 785 = .ok (.invokevirtual 109, 3) := by decide +kernel
theorem dL_law_788 : decode cL_law 788 = .ok (.if_icmp .eq 224, 3) := by decide +kernel
theorem dL_law_791 : decode cL_law 791 = .ok (.iconst 0, 1) := by decide +kernel
theorem dL_law_792 : decode cL_law 792 = .ok (.ireturn, 1) := by decide +kernel
theorem dL_law_793 : decode cL_law 793 = .ok (.aload_n 1, 1) := by decide +kernel
theorem dL_law_794 : decode cL_law 794 = .ok (.aload_n 0, 1) := by decide +kernel
theorem dL_law_795 : decode cL_law 795 = .ok (.iload_n 3, 1) := by decide +kernel
theorem dL_law_796 : decode cL_law 796 = .ok (.iconst 1, 1) := by decide +kernel
theorem dL_law_797 : decode cL_law 797 = .ok (.iadd, 1) := by decide +kernel
theorem dL_law_798 : decode cL_law 798 = .ok (.iaload, 1) := by decide +kernel
theorem dL_law_799 : decode cL_law 799 = .ok (.aload_n 0, 1) := by decide +kernel
theorem dL_law_800 : decode cL_law 800 = .ok (.iload_n 3, 1) := by decide +kernel
theorem dL_law_801 : decode cL_law 801 = .ok (.iconst 2, 1) := by decide +kernel
theorem dL_law_802 : decode cL_law 802 = .ok (.iadd, 1) := by decide +kernel
theorem dL_law_803 : decode cL_law 803 = .ok (.iaload, 1) := by decide +kernel
theorem dL_law_804 : decode cL_law 804 = .ok (.aload_n 0, 1) := by decide +kernel
theorem dL_law_805 : decode cL_law 805 = .ok (.iload_n 3, 1) := by decide +kernel
theorem dL_law_806 : decode cL_law 806 = .ok (.iconst 3, 1) := by decide +kernel
theorem dL_law_807 : decode cL_law 807 = .ok (.iadd, 1) := by decide +kernel
theorem dL_law_808 : decode cL_law 808 = .ok (.iaload, 1) := by decide +kernel
theorem dL_law_809 : decode cL_law 809 = .ok (.aload_n 0, 1) := by decide +kernel
theorem dL_law_810 : decode cL_law 810 = .ok (.iload_n 3, 1) := by decide +kernel
theorem dL_law_811 : decode cL_law 811 = .ok (.iconst 4, 1) := by decide +kernel
theorem dL_law_812 : decode cL_law 812 = .ok (.iadd, 1) := by decide +kernel
theorem dL_law_813 : decode cL_law 813 = .ok (.iaload, 1) := by decide +kernel
theorem dL_law_814 : decode cL_law 814 = .ok (.invokevirtual 110, 3) := by decide +kernel
theorem dL_law_817 : decode cL_law 817 = .ok (.aload_n 2, 1) := by decide +kernel
theorem dL_law_818 : decode cL_law 818 = .ok (.aload_n 0, 1) := by decide +kernel
theorem dL_law_819 : decode cL_law 819 = .ok (.iload_n 3, 1) := by decide +kernel
theorem dL_law_820 : decode cL_law 820 = .ok (.iconst 1, 1) := by decide +kernel
theorem dL_law_821 : decode cL_law 821 = .ok (.iadd, 1) := by decide +kernel
theorem dL_law_822 : decode cL_law 822 = .ok (.iaload, 1) := by decide +kernel
theorem dL_law_823 : decode cL_law 823 = .ok (.aload_n 0, 1) := by decide +kernel
theorem dL_law_824 : decode cL_law 824 = .ok (.iload_n 3, 1) := by decide +kernel
theorem dL_law_825 : decode cL_law 825 = .ok (.iconst 2, 1) := by decide +kernel
theorem dL_law_826 : decode cL_law 826 = .ok (.iadd, 1) := by decide +kernel
theorem dL_law_827 : decode cL_law 827 = .ok (.iaload, 1) := by decide +kernel
theorem dL_law_828 : decode cL_law 828 = .ok (.aload_n 0, 1) := by decide +kernel
theorem dL_law_829 : decode cL_law 829 = .ok (.iload_n 3, 1) := by decide +kernel
theorem dL_law_830 : decode cL_law 830 = .ok (.iconst 3, 1) := by decide +kernel
theorem dL_law_831 : decode cL_law 831 = .ok (.iadd, 1) := by decide +kernel
theorem dL_law_832 : decode cL_law 832 = .ok (.iaload, 1) := by decide +kernel
theorem dL_law_833 : decode cL_law 833 = .ok (.aload_n 0, 1) := by decide +kernel
theorem dL_law_834 : decode cL_law 834 = .ok (.iload_n 3, 1) := by decide +kernel
theorem dL_law_835 : decode cL_law 835 = .ok (.iconst 4, 1) := by decide +kernel
theorem dL_law_836 : decode cL_law 836 = .ok (.iadd, 1) := by decide +kernel
theorem dL_law_837 : decode cL_law 837 = .ok (.iaload, 1) := by decide +kernel
theorem dL_law_838 : decode cL_law 838 = .ok (.invokevirtual 113, 3) := by decide +kernel
theorem dL_law_841 : decode cL_law 841 = .ok (.if_icmp .eq 171, 3) := by decide +kernel
theorem dL_law_844 : decode cL_law 844 = .ok (.iconst 0, 1) := by decide +kernel
theorem dL_law_845 : decode cL_law 845 = .ok (.ireturn, 1) := by decide +kernel
theorem dL_law_846 : decode cL_law 846 = .ok (.aload_n 1, 1) := by decide +kernel
theorem dL_law_847 : decode cL_law 847 = .ok (.aload_n 0, 1) := by decide +kernel
theorem dL_law_848 : decode cL_law 848 = .ok (.iload_n 3, 1) := by decide +kernel
theorem dL_law_849 : decode cL_law 849 = .ok (.iconst 1, 1) := by decide +kernel
theorem dL_law_850 : decode cL_law 850 = .ok (.iadd, 1) := by decide +kernel
theorem dL_law_851 : decode cL_law 851 = .ok (.iaload, 1) := by decide +kernel
theorem dL_law_852 : decode cL_law 852 = .ok (.aload_n 0, 1) := by decide +kernel
theorem dL_law_853 : decode cL_law 853 = .ok (.iload_n 3, 1) := by decide +kernel
theorem dL_law_854 : decode cL_law 854 = .ok (.iconst 2, 1) := by decide +kernel
theorem dL_law_855 : decode cL_law 855 = .ok (.iadd, 1) := by decide +kernel
theorem dL_law_856 : decode cL_law 856 = .ok (.iaload, 1) := by decide +kernel
theorem dL_law_857 : decode cL_law 857 = .ok (.aload_n 0, 1) := by decide +kernel
theorem dL_law_858 : decode cL_law 858 = .ok (.iload_n 3, 1) := by decide +kernel
theorem dL_law_859 : decode cL_law 859 = .ok (.iconst 3, 1) := by decide +kernel
theorem dL_law_860 : decode cL_law 860 = .ok (.iadd, 1) := by decide +kernel
theorem dL_law_861 : decode cL_law 861 = .ok (.iaload, 1) := by decide +kernel
theorem dL_law_862 : decode cL_law 862 = .ok (.invokevirtual 114, 3) := by decide +kernel
theorem dL_law_865 : decode cL_law 865 = .ok (.aload_n 2, 1) := by decide +kernel
theorem dL_law_866 : decode cL_law 866 = .ok (.aload_n 0, 1) := by decide +kernel
theorem dL_law_867 : decode cL_law 867 = .ok (.iload_n 3, 1) := by decide +kernel
theorem dL_law_868 : decode cL_law 868 = .ok (.iconst 1, 1) := by decide +kernel
theorem dL_law_869 : decode cL_law 869 = .ok (.iadd, 1) := by decide +kernel
theorem dL_law_870 : decode cL_law 870 = .ok (.iaload, 1) := by decide +kernel
theorem dL_law_871 : decode cL_law 871 = .ok (.aload_n 0, 1) := by decide +kernel
theorem dL_law_872 : decode cL_law 872 = .ok (.iload_n 3, 1) := by decide +kernel
theorem dL_law_873 : decode cL_law 873 = .ok (.iconst 2, 1) := by decide +kernel
theorem dL_law_874 : decode cL_law 874 = .ok (.iadd, 1) := by decide +kernel
theorem dL_law_875 : decode cL_law 875 = .ok (.iaload, 1) := by decide +kernel
theorem dL_law_876 : decode cL_law 876 = .ok (.aload_n 0, 1) := by decide +kernel
theorem dL_law_877 : decode cL_law 877 = .ok (.iload_n 3, 1) := by decide +kernel
theorem dL_law_878 : decode cL_law 878 = .ok (.iconst 3, 1) := by decide +kernel
theorem dL_law_879 : decode cL_law 879 = .ok (.iadd, 1) := by decide +kernel
theorem dL_law_880 : decode cL_law 880 = .ok (.iaload, 1) := by decide +kernel
theorem dL_law_881 : decode cL_law 881 = .ok (.invokevirtual 117, 3) := by decide +kernel
theorem dL_law_884 : decode cL_law 884 = .ok (.if_icmp .eq 128, 3) := by decide +kernel
theorem dL_law_887 : decode cL_law 887 = .ok (.iconst 0, 1) := by decide +kernel
theorem dL_law_888 : decode cL_law 888 = .ok (.ireturn, 1) := by decide +kernel
theorem dL_law_889 : decode cL_law 889 = .ok (.aload_n 1, 1) := by decide +kernel
theorem dL_law_890 : decode cL_law 890 = .ok (.aload_n 0, 1) := by decide +kernel
theorem dL_law_891 : decode cL_law 891 = .ok (.iload_n 3, 1) := by decide +kernel
theorem dL_law_892 : decode cL_law 892 = .ok (.iconst 1, 1) := by decide +kernel
theorem dL_law_893 : decode cL_law 893 = .ok (.iadd, 1) := by decide +kernel
theorem dL_law_894 : decode cL_law 894 = .ok (.iaload, 1) := by decide +kernel
theorem dL_law_895 : decode cL_law 895 = .ok (.aload_n 0, 1) := by decide +kernel
theorem dL_law_896 : decode cL_law 896 = .ok (.iload_n 3, 1) := by decide +kernel
theorem dL_law_897 : decode cL_law 897 = .ok (.iconst 2, 1) := by decide +kernel
theorem dL_law_898 : decode cL_law 898 = .ok (.iadd, 1) := by decide +kernel
theorem dL_law_899 : decode cL_law 899 = .ok (.iaload, 1) := by decide +kernel
theorem dL_law_900 : decode cL_law 900 = .ok (.aload_n 0, 1) := by decide +kernel
theorem dL_law_901 : decode cL_law 901 = .ok (.iload_n 3, 1) := by decide +kernel
theorem dL_law_902 : decode cL_law 902 = .ok (.iconst 3, 1) := by decide +kernel
theorem dL_law_903 : decode cL_law 903 = .ok (.iadd, 1) := by decide +kernel
theorem dL_law_904 : decode cL_law 904 = .ok (.iaload, 1) := by decide +kernel
theorem dL_law_905 : decode cL_law 905 = .ok (.aload_n 0, 1) := by decide +kernel
theorem dL_law_906 : decode cL_law 906 = .ok (.iload_n 3, 1) := by decide +kernel
theorem dL_law_907 : decode cL_law 907 = .ok (.iconst 4, 1) := by decide +kernel
theorem dL_law_908 : decode cL_law 908 = .ok (.iadd, 1) := by decide +kernel
theorem dL_law_909 : decode cL_law 909 = .ok (.iaload, 1) := by decide +kernel
theorem dL_law_910 : decode cL_law 910 = .ok (.aload_n 0, 1) := by decide +kernel
theorem dL_law_911 : decode cL_law 911 = .ok (.iload_n 3, 1) := by decide +kernel
theorem dL_law_912 : decode cL_law 912 = .ok (.iconst 5, 1) := by decide +kernel
theorem dL_law_913 : decode cL_law 913 = .ok (.iadd, 1) := by decide +kernel
theorem dL_law_914 : decode cL_law 914 = .ok (.iaload, 1) := by decide +kernel
theorem dL_law_915 : decode cL_law 915 = .ok (.invokevirtual 118, 3) := by decide +kernel
theorem dL_law_918 : decode cL_law 918 = .ok (.aload_n 2, 1) := by decide +kernel
theorem dL_law_919 : decode cL_law 919 = .ok (.aload_n 0, 1) := by decide +kernel
theorem dL_law_920 : decode cL_law 920 = .ok (.iload_n 3, 1) := by decide +kernel
theorem dL_law_921 : decode cL_law 921 = .ok (.iconst 1, 1) := by decide +kernel
theorem dL_law_922 : decode cL_law 922 = .ok (.iadd, 1) := by decide +kernel
theorem dL_law_923 : decode cL_law 923 = .ok (.iaload, 1) := by decide +kernel
theorem dL_law_924 : decode cL_law 924 = .ok (.aload_n 0, 1) := by decide +kernel
theorem dL_law_925 : decode cL_law 925 = .ok (.iload_n 3, 1) := by decide +kernel
theorem dL_law_926 : decode cL_law 926 = .ok (.iconst 2, 1) := by decide +kernel
theorem dL_law_927 : decode cL_law 927 = .ok (.iadd, 1) := by decide +kernel
theorem dL_law_928 : decode cL_law 928 = .ok (.iaload, 1) := by decide +kernel
theorem dL_law_929 : decode cL_law 929 = .ok (.aload_n 0, 1) := by decide +kernel
theorem dL_law_930 : decode cL_law 930 = .ok (.iload_n 3, 1) := by decide +kernel
theorem dL_law_931 : decode cL_law 931 = .ok (.iconst 3, 1) := by decide +kernel
theorem dL_law_932 : decode cL_law 932 = .ok (.iadd, 1) := by decide +kernel
theorem dL_law_933 : decode cL_law 933 = .ok (.iaload, 1) := by decide +kernel
theorem dL_law_934 : decode cL_law 934 = .ok (.aload_n 0, 1) := by decide +kernel
theorem dL_law_935 : decode cL_law 935 = .ok (.iload_n 3, 1) := by decide +kernel
theorem dL_law_936 : decode cL_law 936 = .ok (.iconst 4, 1) := by decide +kernel
theorem dL_law_937 : decode cL_law 937 = .ok (.iadd, 1) := by decide +kernel
theorem dL_law_938 : decode cL_law 938 = .ok (.iaload, 1) := by decide +kernel
theorem dL_law_939 : decode cL_law 939 = .ok (.aload_n 0, 1) := by decide +kernel
theorem dL_law_940 : decode cL_law 940 = .ok (.iload_n 3, 1) := by decide +kernel
theorem dL_law_941 : decode cL_law 941 = .ok (.iconst 5, 1) := by decide +kernel
theorem dL_law_942 : decode cL_law 942 = .ok (.iadd, 1) := by decide +kernel
theorem dL_law_943 : decode cL_law 943 = .ok (.iaload, 1) := by decide +kernel
theorem dL_law_944 : decode cL_law 944 = .ok (.invokevirtual 122, 3) := by decide +kernel
theorem dL_law_947 : decode cL_law 947 = .ok (.if_icmp .eq 65, 3) := by decide +kernel
theorem dL_law_950 : decode cL_law 950 = .ok (.iconst 0, 1) := by decide +kernel
theorem dL_law_951 : decode cL_law 951 = .ok (.ireturn, 1) := by decide +kernel
theorem dL_law_952 : decode cL_law 952 = .ok (.aload_n 1, 1) := by decide +kernel
theorem dL_law_953 : decode cL_law 953 = .ok (.aload_n 0, 1) := by decide +kernel
theorem dL_law_954 : decode cL_law 954 = .ok (.iload_n 3, 1) := by decide +kernel
theorem dL_law_955 : decode cL_law 955 = .ok (.iconst 1, 1) := by decide +kernel
theorem dL_law_956 : decode cL_law 956 = .ok (.iadd, 1) := by decide +kernel
theorem dL_law_957 : decode cL_law 957 = .ok (.iaload, 1) := by decide +kernel
theorem dL_law_958 : decode cL_law 958 = .ok (.invokevirtual 123, 3) := by decide +kernel
theorem dL_law_961 : decode cL_law 961 = .ok (.aload_n 2, 1) := by decide +kernel
theorem dL_law_962 : decode cL_law 962 = .ok (.aload_n 0, 1) := by decide +kernel
theorem dL_law_963 : decode cL_law 963 = .ok (.iload_n 3, 1) := by decide +kernel
theorem dL_law_964 : decode cL_law 964 = .ok (.iconst 1, 1) := by decide +kernel
theorem dL_law_965 : decode cL_law 965 = .ok (.iadd, 1) := by decide +kernel
theorem dL_law_966 : decode cL_law 966 = .ok (.iaload, 1) := by decide +kernel
theorem dL_law_967 : decode cL_law 967 = .ok (.invokevirtual 126, 3) := by decide +kernel
theorem dL_law_970 : decode cL_law 970 = .ok (.if_icmp .eq 42, 3) := by decide +kernel
theorem dL_law_973 : decode cL_law 973 = .ok (.iconst 0, 1) := by decide +kernel
theorem dL_law_974 : decode cL_law 974 = .ok (.ireturn, 1) := by decide +kernel
theorem dL_law_975 : decode cL_law 975 = .ok (.aload_n 1, 1) := by decide +kernel
theorem dL_law_976 : decode cL_law 976 = .ok (.aload_n 0, 1) := by decide +kernel
theorem dL_law_977 : decode cL_law 977 = .ok (.iload_n 3, 1) := by decide +kernel
theorem dL_law_978 : decode cL_law 978 = .ok (.iconst 1, 1) := by decide +kernel
theorem dL_law_979 : decode cL_law 979 = .ok (.iadd, 1) := by decide +kernel
theorem dL_law_980 : decode cL_law 980 = .ok (.iaload, 1) := by decide +kernel
theorem dL_law_981 : decode cL_law 981 = .ok (.invokevirtual 127, 3) := by decide +kernel
theorem dL_law_984 : decode cL_law 984 = .ok (.aload_n 2, 1) := by decide +kernel
theorem dL_law_985 : decode cL_law 985 = .ok (.aload_n 0, 1) := by decide +kernel
theorem dL_law_986 : decode cL_law 986 = .ok (.iload_n 3, 1) := by decide +kernel
theorem dL_law_987 : decode cL_law 987 = .ok (.iconst 1, 1) := by decide +kernel
theorem dL_law_988 : decode cL_law 988 = .ok (.iadd, 1) := by decide +kernel
theorem dL_law_989 : decode cL_law 989 = .ok (.iaload, 1) := by decide +kernel
theorem dL_law_990 : decode cL_law 990 = .ok (.invokevirtual 130, 3) := by decide +kernel
theorem dL_law_993 : decode cL_law 993 = .ok (.if_icmp .eq 19, 3) := by decide +kernel
theorem dL_law_996 : decode cL_law 996 = .ok (.iconst 0, 1) := by decide +kernel
theorem dL_law_997 : decode cL_law 997 = .ok (.ireturn, 1) := by decide +kernel
theorem dL_law_998 : decode cL_law 998 = .ok (.aload_n 1, 1) := by decide +kernel
theorem dL_law_999 : decode cL_law 999 = .ok (.invokevirtual 131, 3) := by decide +kernel
theorem dL_law_1002 : decode cL_law 1002 = .ok (.aload_n 2, 1) := by decide +kernel
theorem dL_law_1003 : decode cL_law 1003 = .ok (.invokevirtual 135, 3) := by decide +kernel
theorem dL_law_1006 : decode cL_law 1006 = .ok (.lcmp, 1) := by decide +kernel
theorem dL_law_1007 : decode cL_law 1007 = .ok (.ifCond .eq 5, 3) := by decide +kernel
theorem dL_law_1010 : decode cL_law 1010 = .ok (.iconst 0, 1) := by decide +kernel
theorem dL_law_1011 : decode cL_law 1011 = .ok (.ireturn, 1) := by decide +kernel
theorem dL_law_1012 : decode cL_law 1012 = .ok (.iinc 3 6, 3) := by decide +kernel
theorem dL_law_1015 : decode cL_law 1015 = .ok (.goto (-997), 3) := by decide +kernel
theorem dL_law_1018 : decode cL_law 1018 = .ok (.iconst 1, 1) := by decide +kernel
theorem dL_law_1019 : decode cL_law 1019 = .ok (.ireturn, 1) := by decide +kernel
end
section
theorem eu_dummy0 : True := trivial
/-! ===== the world: 37 cells at addresses ad 0 .. ad 36; s k j is what slot j of cell k holds (0 .. 24 the class's, 25 .. 36 the reference's) ===== -/
abbrev eu_T : Type := Nat → Nat → Int32
def eu_sk (σ : eu_T) (k : Nat) (f : Nat → Int32) : eu_T := fun k' => if k' = k then f else σ k'
def eu_up (σ : eu_T) (k i : Nat) (x : Int32) : eu_T := eu_sk σ k (upd (σ k) i x)
def eu_aln (k : Nat) : Nat := if k = 26 then 4 else if k = 27 then 4 else if k = 28 then 240 else if k = 29 then 60 else if k = 30 then 60 else if k = 31 then 36 else if k = 32 then 30 else if k = 33 then 72 else if k = 35 then 12 else 16
def eu_we (cy : Nat → ClassId) (ad : Nat → Nat) (f : Nat → Int32) (k : Nat) : va_E :=
  if k = 0 then .inr (4, [.ref (ad 1), .ref (ad 2), .ref (ad 3), .ref (ad 4), .int (f 4), .int (f 5), .int (f 6), .int (f 7)])
  else if k = 1 then .inr (1, [.ref (ad 2), .ref (ad 3), .ref (ad 5), .int (f 3), .int (f 4), .int (f 5), .int (f 6), .int (f 7)])
  else if k = 2 then .inr (3, [.ref (ad 3), .ref (ad 9), .ref (ad 10), .int (f 3)])
  else if k = 3 then .inr (0, [.ref (ad 6), .ref (ad 7), .ref (ad 8), .int (f 3), .int (f 4), .int (f 5), .int (f 6)])
  else if k = 4 then .inl (cy 2, 4, .inr (.inr (.inr (.inr (fun j => some (ad (11 + j)))))))
  else if k = 5 then .inl (cy 3, 6, .inr (.inr (.inr (.inr (fun j => some (ad (19 + j)))))))
  else if k = 6 then .inl (cy 0, 60, .inl f)
  else if k < 11 then .inl (cy 0, 12, .inl f)
  else if k < 15 then .inr (2, [.ref (ad (k + 4)), .int (f 1), .int (f 2), .int (f 3)])
  else if k < 19 then .inl (cy 0, 60, .inl f)
  else if k < 25 then .inl (cy 0, 12, .inl f)
  else if k = 25 then .inr (5, [.ref (ad 26), .ref (ad 27), .ref (ad 28), .ref (ad 29), .int (f 4), .ref (ad 30), .int (f 6), .int (f 7), .int (f 8), .ref (ad 31), .int (f 10), .ref (ad 32), .ref (ad 33), .ref (ad 34), .int (f 14), .int (f 15), .int (f 16), .ref (ad 35), .int (f 18), .int (f 19), .int (f 20), .ref (ad 36), .int (f 22)])
  else if k = 34 then .inl (cy 1, 15, .inl f)
  else .inl (cy 0, eu_aln k, .inl f)
def eu_wd (lo n : Nat) (cy : Nat → ClassId) (ad : Nat → Nat) (σ : eu_T) : va_W := (List.range n).map (fun j => (ad (lo + j), eu_we cy ad (σ (lo + j)) (lo + j)))
def eu_A (lo n : Nat) (ad : Nat → Nat) : Nat → Prop := fun q => ∃ k, (lo ≤ k ∧ k < lo + n) ∧ q = ad k
def eu_ok (ad : Nat → Nat) : Prop := ∀ i j : Nat, i < 37 → j < 37 → ad i = ad j → i = j
theorem eu_wd_len (lo n : Nat) (cy : Nat → ClassId) (ad : Nat → Nat) (σ : eu_T) : (eu_wd lo n cy ad σ).length = n := by simp [eu_wd]
theorem eu_wd_ix (lo n : Nat) (cy : Nat → ClassId) (ad : Nat → Nat) (σ : eu_T) (j : Nat) (h : j < n) : (eu_wd lo n cy ad σ)[j]? = some (ad (lo + j), eu_we cy ad (σ (lo + j)) (lo + j)) := by
  simp [eu_wd, List.getElem?_range h]
theorem eu_wd_get {lo n : Nat} {cy : Nat → ClassId} {ad : Nat → Nat} {σ : eu_T} {k : Nat} (h : lo ≤ k ∧ k < lo + n) : (eu_wd lo n cy ad σ)[k - lo]? = some (ad k, eu_we cy ad (σ k) k) := by
  have e := eu_wd_ix lo n cy ad σ (k - lo) (by omega)
  rw [show lo + (k - lo) = k by omega] at e
  exact e
theorem eu_wd_set {lo n : Nat} {cy : Nat → ClassId} {ad : Nat → Nat} {σ : eu_T} {k : Nat} (h : lo ≤ k ∧ k < lo + n) {x : va_E} {f : Nat → Int32} (hx : eu_we cy ad f k = x) : (eu_wd lo n cy ad σ).set (k - lo) (ad k, x) = eu_wd lo n cy ad (eu_sk σ k f) := by
  apply List.ext_getElem?
  intro j
  by_cases hj : j < n
  · rw [eu_wd_ix lo n cy ad _ j hj]
    by_cases e : j = k - lo
    · subst e
      rw [List.getElem?_set_self (by rw [eu_wd_len]; exact hj), show lo + (k - lo) = k by omega]
      simp [eu_sk, hx]
    · rw [List.getElem?_set_ne (Ne.symm e), eu_wd_ix lo n cy ad _ j hj]
      simp [eu_sk, show ¬ lo + j = k by omega]
  · rw [List.getElem?_eq_none (by rw [List.length_set, eu_wd_len]; omega), List.getElem?_eq_none (by rw [eu_wd_len]; omega)]
theorem eu_wd_D {lo n : Nat} {cy : Nat → ClassId} {ad : Nat → Nat} (σ : eu_T) (hok : eu_ok ad) (hn : lo + n ≤ 37) : va_D (eu_A lo n ad) (eu_wd lo n cy ad σ) := by
  have key : ∀ (k : Nat) (q : Nat × va_E), (eu_wd lo n cy ad σ)[k]? = some q → k < n ∧ q.1 = ad (lo + k) := by
    intro k q hq
    have hk : k < n := by
      have := (List.getElem?_eq_some_iff.mp hq).1
      rwa [eu_wd_len] at this
    rw [eu_wd_ix lo n cy ad σ k hk] at hq
    cases hq
    exact ⟨hk, rfl⟩
  refine ⟨fun i j p q hi hj hpq => ?_, fun k q hq => ?_⟩
  · obtain ⟨a1, a2⟩ := key i p hi
    obtain ⟨b1, b2⟩ := key j q hj
    have := hok (lo + i) (lo + j) (by omega) (by omega) (by rw [← a2, ← b2]; exact hpq)
    omega
  · obtain ⟨a1, a2⟩ := key k q hq
    exact ⟨lo + k, ⟨by omega, by omega⟩, a2⟩
def eu_ty (cy : Nat → ClassId) : List (ClassId × FieldType) := [(cy 0, .int), (cy 1, .boolean), (cy 2, .object "EachUndoes$Sheet"), (cy 3, .array .int)]
/-! what the tables say of the accesses between nest mates -/
def eu_nl : List Cond := [.methodLinkNest "EachUndoes" 11 ({ cls := "EachUndoes$Outlook", name := "<init>", desc := "()V" } : MethodName) "EachUndoes", .methodLinkNest "EachUndoes$Outlook" 11 ({ cls := "EachUndoes$Undoings", name := "<init>", desc := "()V" } : MethodName) "EachUndoes", .methodLinkNest "EachUndoes$Undoings" 11 ({ cls := "EachUndoes$Deeds", name := "<init>", desc := "()V" } : MethodName) "EachUndoes", .fieldLinkNest "EachUndoes$Undoings" 44 "EachUndoes$Deeds" "doers" "[I" "EachUndoes", .fieldLinkNest "EachUndoes" 62 "EachUndoes$Deeds" "doers" "[I" "EachUndoes", .fieldLinkNest "EachUndoes" 66 "EachUndoes$Deeds" "sources" "[I" "EachUndoes", .fieldLinkNest "EachUndoes" 43 "EachUndoes$Deeds" "length" "I" "EachUndoes", .fieldLinkNest "EachUndoes$Outlook" 56 "EachUndoes$Deeds" "total" "I" "EachUndoes", .fieldLinkNest "EachUndoes" 59 "EachUndoes$Deeds" "total" "I" "EachUndoes", .fieldLinkNest "EachUndoes$Undoings" 43 "EachUndoes$Deeds" "total" "I" "EachUndoes", .fieldLinkNest "EachUndoes" 69 "EachUndoes$Deeds" "own" "I" "EachUndoes", .fieldLinkNest "EachUndoes" 56 "EachUndoes$Deeds" "fault" "I" "EachUndoes", .fieldLinkNest "EachUndoes$Outlook" 18 "EachUndoes$Undoings" "deeds" "LEachUndoes$Deeds;" "EachUndoes", .fieldLinkNest "EachUndoes" 21 "EachUndoes$Undoings" "deeds" "LEachUndoes$Deeds;" "EachUndoes", .fieldLinkNest "EachUndoes$Outlook" 44 "EachUndoes$Undoings" "things" "[I" "EachUndoes", .fieldLinkNest "EachUndoes$Outlook" 41 "EachUndoes$Undoings" "total" "I" "EachUndoes", .fieldLinkNest "EachUndoes" 79 "EachUndoes$Undoings" "total" "I" "EachUndoes", .fieldLinkNest "EachUndoes" 16 "EachUndoes$Outlook" "undoings" "LEachUndoes$Undoings;" "EachUndoes", .fieldLinkNest "EachUndoes" 93 "EachUndoes$Outlook" "worths" "[[I" "EachUndoes", .fieldLinkNest "EachUndoes" 163 "EachUndoes$Outlook" "drawnDeeds" "I" "EachUndoes", .fieldLinkNest "EachUndoes" 167 "EachUndoes$Outlook" "drawnTotal" "I" "EachUndoes", .methodLinkNest "EachUndoes" 38 ({ cls := "EachUndoes$Sheet", name := "<init>", desc := "()V" } : MethodName) "EachUndoes", .fieldLinkNest "EachUndoes" 90 "EachUndoes$Sheet" "items" "[I" "EachUndoes", .fieldLinkNest "EachUndoes" 80 "EachUndoes$Sheet" "isLost" "Z" "EachUndoes", .fieldLinkNest "EachUndoes" 180 "EachUndoes$Sheet" "form" "I" "EachUndoes", .fieldLinkNest "EachUndoes" 87 "EachUndoes$Sheet" "size" "I" "EachUndoes", .methodLinkNest "EachUndoes" 48 ({ cls := "EachUndoes$Deeds", name := "append", desc := "(I)I" } : MethodName) "EachUndoes", .methodLinkNest "EachUndoes$Deeds" 45 ({ cls := "EachUndoes", name := "isBelow", desc := "(II)Z" } : MethodName) "EachUndoes", .methodLinkNest "EachUndoes" 52 ({ cls := "EachUndoes$Deeds", name := "clear", desc := "()I" } : MethodName) "EachUndoes", .methodLinkNest "EachUndoes" 76 ({ cls := "EachUndoes$Undoings", name := "tell", desc := "(II)Z" } : MethodName) "EachUndoes", .methodLinkNest "EachUndoes" 97 ({ cls := "EachUndoes$Undoings", name := "lawful", desc := "(I)I" } : MethodName) "EachUndoes", .methodLinkNest "EachUndoes$Undoings" 33 ({ cls := "EachUndoes", name := "bitOf", desc := "(II)I" } : MethodName) "EachUndoes", .methodLinkNest "EachUndoes" 100 ({ cls := "EachUndoes$Undoings", name := "holding", desc := "(I)I" } : MethodName) "EachUndoes", .methodLinkNest "EachUndoes" 106 ({ cls := "EachUndoes$Undoings", name := "lawfulOfFirst", desc := "(I)I" } : MethodName) "EachUndoes", .methodLinkNest "EachUndoes$Undoings" 40 ({ cls := "EachUndoes", name := "firstBits", desc := "(I)I" } : MethodName) "EachUndoes", .methodLinkNest "EachUndoes" 118 ({ cls := "EachUndoes$Undoings", name := "standing", desc := "(I)I" } : MethodName) "EachUndoes", .methodLinkNest "EachUndoes$Undoings" 53 ({ cls := "EachUndoes$Deeds", name := "standing", desc := "(I)I" } : MethodName) "EachUndoes", .methodLinkNest "EachUndoes$Deeds" 54 ({ cls := "EachUndoes", name := "firstBits", desc := "(I)I" } : MethodName) "EachUndoes", .methodLinkNest "EachUndoes" 109 ({ cls := "EachUndoes$Undoings", name := "unspent", desc := "(I)I" } : MethodName) "EachUndoes", .methodLinkNest "EachUndoes" 112 ({ cls := "EachUndoes$Undoings", name := "undone", desc := "(I)I" } : MethodName) "EachUndoes", .methodLinkNest "EachUndoes" 115 ({ cls := "EachUndoes$Deeds", name := "rootOf", desc := "(II)I" } : MethodName) "EachUndoes", .methodLinkNest "EachUndoes$Deeds" 60 ({ cls := "EachUndoes", name := "bitOf", desc := "(II)I" } : MethodName) "EachUndoes", .methodLinkNest "EachUndoes" 124 ({ cls := "EachUndoes$Outlook", name := "renew", desc := "()V" } : MethodName) "EachUndoes", .methodLinkNest "EachUndoes$Outlook" 28 ({ cls := "EachUndoes$Undoings", name := "lawful", desc := "(I)I" } : MethodName) "EachUndoes", .methodLinkNest "EachUndoes$Outlook" 36 ({ cls := "EachUndoes$Undoings", name := "unspent", desc := "(I)I" } : MethodName) "EachUndoes", .methodLinkNest "EachUndoes" 127 ({ cls := "EachUndoes$Outlook", name := "standingWith", desc := "(II)I" } : MethodName) "EachUndoes", .methodLinkNest "EachUndoes$Outlook" 48 ({ cls := "EachUndoes$Undoings", name := "undone", desc := "(I)I" } : MethodName) "EachUndoes", .methodLinkNest "EachUndoes$Outlook" 51 ({ cls := "EachUndoes$Deeds", name := "standing", desc := "(I)I" } : MethodName) "EachUndoes", .methodLinkNest "EachUndoes" 130 ({ cls := "EachUndoes$Outlook", name := "isAsTold", desc := "(III)Z" } : MethodName) "EachUndoes", .methodLinkNest "EachUndoes$Outlook" 57 ({ cls := "EachUndoes", name := "firstBits", desc := "(I)I" } : MethodName) "EachUndoes", .methodLinkNest "EachUndoes" 134 ({ cls := "EachUndoes$Outlook", name := "leastFirst", desc := "(III)I" } : MethodName) "EachUndoes", .methodLinkNest "EachUndoes$Outlook" 60 ({ cls := "EachUndoes$Undoings", name := "ownerOf", desc := "(II)I" } : MethodName) "EachUndoes", .methodLinkNest "EachUndoes$Outlook" 67 ({ cls := "EachUndoes", name := "bitOf", desc := "(II)I" } : MethodName) "EachUndoes", .methodLinkNest "EachUndoes" 138 ({ cls := "EachUndoes$Outlook", name := "lasting", desc := "(I)I" } : MethodName) "EachUndoes", .methodLinkNest "EachUndoes" 141 ({ cls := "EachUndoes$Outlook", name := "bestMove", desc := "(II)I" } : MethodName) "EachUndoes", .methodLinkNest "EachUndoes" 144 ({ cls := "EachUndoes$Outlook", name := "bestReply", desc := "(II)I" } : MethodName) "EachUndoes", .methodLinkNest "EachUndoes" 147 ({ cls := "EachUndoes$Outlook", name := "worthOf", desc := "(II)I" } : MethodName) "EachUndoes", .methodLinkNest "EachUndoes" 159 ({ cls := "EachUndoes$Outlook", name := "draw", desc := "(II)V" } : MethodName) "EachUndoes", .methodLinkNest "EachUndoes$Outlook" 106 ({ cls := "EachUndoes$Deeds", name := "doneBy", desc := "(I)I" } : MethodName) "EachUndoes", .methodLinkNest "EachUndoes" 166 ({ cls := "EachUndoes$Deeds", name := "standing", desc := "(I)I" } : MethodName) "EachUndoes", .methodLinkNest "EachUndoes" 170 ({ cls := "EachUndoes$Sheet", name := "begin", desc := "(II)V" } : MethodName) "EachUndoes", .methodLinkNest "EachUndoes" 173 ({ cls := "EachUndoes$Sheet", name := "findingAt", desc := "(II)I" } : MethodName) "EachUndoes", .methodLinkNest "EachUndoes$Sheet" 26 ({ cls := "EachUndoes", name := "isBelow", desc := "(II)Z" } : MethodName) "EachUndoes", .methodLinkNest "EachUndoes" 176 ({ cls := "EachUndoes$Sheet", name := "put", desc := "(II)V" } : MethodName) "EachUndoes", .methodLinkNest "EachUndoes" 183 ({ cls := "EachUndoes$Sheet", name := "hasItems", desc := "(II)Z" } : MethodName) "EachUndoes"]
def eu_N (s : State) : Prop := ∀ w ∈ eu_nl, va_Nw w s
def eu_nn (w : Cond) : Bool := match w with
  | .fieldLinkNest _ _ _ _ _ _ => true
  | .methodLinkNest _ _ _ _ => true
  | _ => false
theorem eu_nl_ok : ∀ w ∈ eu_nl, eu_nn w = true := by decide +kernel
theorem eu_N_warm {s U : State} (hW : s.WarmedH U.vm) (h : eu_N s) : eu_N U := by
  intro w hw
  have h1 := h w hw
  have h2 := eu_nl_ok w hw
  cases w <;> first | (exact va_Nw.warmF hW h1) | (exact va_Nw.warmM hW h1) | (cases h2)
theorem eu_N_same {s U : State} (e : s.vm = U.vm) (h : eu_N s) : eu_N U := by
  intro w hw
  have h1 := h w hw
  have h2 := eu_nl_ok w hw
  cases w <;> first | (exact va_Nw.same rfl e h1) | (cases h2)
/-! the place of a walk -/
abbrev eu_E := Program × Launch × Env × Room × State × MethodId × Array Value × List Frame × Method × Code × va_G × (Nat → ClassId) × (Nat → Nat)
abbrev eu_p (E : eu_E) := E.1
abbrev eu_l (E : eu_E) := E.2.1
abbrev eu_e (E : eu_E) := E.2.2.1
abbrev eu_R (E : eu_E) := E.2.2.2.1
abbrev eu_s (E : eu_E) := E.2.2.2.2.1
abbrev eu_m (E : eu_E) := E.2.2.2.2.2.1
abbrev eu_a (E : eu_E) := E.2.2.2.2.2.2.1
abbrev eu_b (E : eu_E) := E.2.2.2.2.2.2.2.1
abbrev eu_me (E : eu_E) := E.2.2.2.2.2.2.2.2.1
abbrev eu_c (E : eu_E) := E.2.2.2.2.2.2.2.2.2.1
abbrev eu_D (E : eu_E) := E.2.2.2.2.2.2.2.2.2.2.1
abbrev eu_cy (E : eu_E) := E.2.2.2.2.2.2.2.2.2.2.2.1
abbrev eu_ad (E : eu_E) := E.2.2.2.2.2.2.2.2.2.2.2.2
def eu_C (E : eu_E) (rm : Room) (lo n nL : Nat) (cc : ByteArray) (own : String) (ws : List Cond) (ret : Option FieldType) : Prop :=
  (eu_p E).tables.exec = Jvm.exec ∧ (eu_c E).code = cc ∧ (eu_c E).maxLocals = nL ∧ (eu_s E).vm.findClass own = some (eu_m E).cls ∧ (∀ w ∈ ws, w.before (eu_a E) (eu_s E) = true) ∧ (eu_me E).locks = false ∧ va_K (eu_D E) vwCl (eu_ty (eu_cy E)) (eu_s E) ∧ eu_N (eu_s E) ∧ eu_ok (eu_ad E) ∧ eu_R E = rm ∧ lo + n ≤ 37 ∧ (eu_me E).sig.returnType = ret
def eu_G (E : eu_E) (lo n nL : Nat) (Q : State → Prop) (σ : eu_T) (pc : Nat) (lv : List (Nat × Value)) (st : List Value) : Prop :=
  ∀ (H : Heap) (locs : List Loc) (ls : Array Slot), va_P (eu_D E) vwCl (eu_wd lo n (eu_cy E) (eu_ad E) σ) H → va_S (eu_A lo n (eu_ad E)) (eu_s E).heap H locs → lv_has ls nL lv →
    W (eu_p E) (eu_l E) (eu_e E) (eu_R E) (eu_s E) (eu_m E) (eu_a E) (eu_b E) (eu_me E) (eu_c E) H locs 0 0 Q (F0 (eu_m E) pc ls st)
/-- a contract: the answer r, the world afterwards -/
def eu_B (lo n : Nat) (σ : eu_T) (D : va_G) (cy : Nat → ClassId) (ad : Nat → Nat) : State → Prop := fun t => va_P D vwCl (eu_wd lo n cy ad σ) t.heap
def eu_Pc (lo n : Nat) (av : (Nat → Nat) → List Value) (σ : eu_T) (D : va_G) (cy : Nat → ClassId) (ad : Nat → Nat) : Array Value → State → Prop := va_Pc (av ad) (fun U => va_P D vwCl (eu_wd lo n cy ad σ) U.heap ∧ va_K D vwCl (eu_ty cy) U ∧ eu_N U)
def eu_qI (lo n : Nat) (σ : eu_T) (r : Int32) (D : va_G) (cy : Nat → ClassId) (ad : Nat → Nat) : Array Value → State → Outcome → State → Prop := va_Qi (fun (r' : Int32) (_ : Unit) => r' = r) (fun _ => eu_B lo n σ D cy ad) (eu_A lo n ad)
def eu_qL (lo n : Nat) (σ : eu_T) (r : Int64) (D : va_G) (cy : Nat → ClassId) (ad : Nat → Nat) : Array Value → State → Outcome → State → Prop := va_Ql (fun (r' : Int64) (_ : Unit) => r' = r) (fun _ => eu_B lo n σ D cy ad) (eu_A lo n ad)
def eu_qV (lo n : Nat) (σ : eu_T) (_ : Int32) (D : va_G) (cy : Nat → ClassId) (ad : Nat → Nat) : Array Value → State → Outcome → State → Prop := va_Qv (fun (_ : Unit) => True) (fun _ => eu_B lo n σ D cy ad) (eu_A lo n ad)
def eu_QI (E : eu_E) (lo n : Nat) (σ : eu_T) (r : Int32) : State → Prop := MQ (eu_b E) (eu_qI lo n σ r (eu_D E) (eu_cy E) (eu_ad E)) (eu_a E) (eu_s E) 0 0 (eu_A lo n (eu_ad E))
def eu_QL (E : eu_E) (lo n : Nat) (σ : eu_T) (r : Int64) : State → Prop := MQ (eu_b E) (eu_qL lo n σ r (eu_D E) (eu_cy E) (eu_ad E)) (eu_a E) (eu_s E) 0 0 (eu_A lo n (eu_ad E))
def eu_QV (E : eu_E) (lo n : Nat) (σ : eu_T) (r : Int32) : State → Prop := MQ (eu_b E) (eu_qV lo n σ r (eu_D E) (eu_cy E) (eu_ad E)) (eu_a E) (eu_s E) 0 0 (eu_A lo n (eu_ad E))
def eu_KI (l : Launch) (y : MethodName) (ws : List Cond) (rm : Room) (lo n : Nat) (av : (Nat → Nat) → List Value) (σ σ' : eu_T) (r : Int32) : Prop :=
  ∀ (D : va_G) (cy : Nat → ClassId) (ad : Nat → Nat), eu_ok ad → Met l y ws rm (eu_Pc lo n av σ D cy ad) (eu_qI lo n σ' r D cy ad) 0 0 (eu_A lo n ad)
theorem eu_KI_of {l : Launch} {y : MethodName} {ws ws' : List Cond} {rm : Room} {lo n maxL : Nat} {cc : ByteArray} {ret : Option FieldType} {av : (Nat → Nat) → List Value} {σ σ' : eu_T} {r : Int32} (hn : lo + n ≤ 37) (hy : plainName y.cls = true) (hw : ws = Cond.code y cc maxL ret :: ws') (hlen : ∀ ad, (lg_sl (av ad)).length ≤ maxL)
    (body : ∀ E : eu_E, eu_C E rm lo n maxL cc y.cls ws ret → eu_G E lo n maxL (eu_QI E lo n σ' r) σ 0 (lv_args 0 (av (eu_ad E))) []) : eu_KI l y ws rm lo n av σ σ' r := by
  intro D cy ad hok
  refine Met.ofW (cc := cc) (maxL := maxL) (ret := ret) hy hw ?_
  intro p e s m args below meth c s₁ B hml hv
  obtain ⟨ha, hP, hK, hN⟩ := hv
  subst ha
  have hl := lv_entry (av ad) (n := maxL) (hlen ad)
  rw [lg_entry_eq]
  exact body (p, l, e, (headSpec ws rm).room, s, m, (av ad).toArray, below, meth, c, D, cy, ad) ⟨B.exec, B.bytes, hml, findClass_of_methodNamed B.named, atoms_spec (ws := ws) B.pre, B.notSynchronized, hK, hN, hok, rfl, hn, B.returns⟩ s.heap [] _ hP va_S.rf hl
def eu_KL (l : Launch) (y : MethodName) (ws : List Cond) (rm : Room) (lo n : Nat) (av : (Nat → Nat) → List Value) (σ σ' : eu_T) (r : Int64) : Prop :=
  ∀ (D : va_G) (cy : Nat → ClassId) (ad : Nat → Nat), eu_ok ad → Met l y ws rm (eu_Pc lo n av σ D cy ad) (eu_qL lo n σ' r D cy ad) 0 0 (eu_A lo n ad)
theorem eu_KL_of {l : Launch} {y : MethodName} {ws ws' : List Cond} {rm : Room} {lo n maxL : Nat} {cc : ByteArray} {ret : Option FieldType} {av : (Nat → Nat) → List Value} {σ σ' : eu_T} {r : Int64} (hn : lo + n ≤ 37) (hy : plainName y.cls = true) (hw : ws = Cond.code y cc maxL ret :: ws') (hlen : ∀ ad, (lg_sl (av ad)).length ≤ maxL)
    (body : ∀ E : eu_E, eu_C E rm lo n maxL cc y.cls ws ret → eu_G E lo n maxL (eu_QL E lo n σ' r) σ 0 (lv_args 0 (av (eu_ad E))) []) : eu_KL l y ws rm lo n av σ σ' r := by
  intro D cy ad hok
  refine Met.ofW (cc := cc) (maxL := maxL) (ret := ret) hy hw ?_
  intro p e s m args below meth c s₁ B hml hv
  obtain ⟨ha, hP, hK, hN⟩ := hv
  subst ha
  have hl := lv_entry (av ad) (n := maxL) (hlen ad)
  rw [lg_entry_eq]
  exact body (p, l, e, (headSpec ws rm).room, s, m, (av ad).toArray, below, meth, c, D, cy, ad) ⟨B.exec, B.bytes, hml, findClass_of_methodNamed B.named, atoms_spec (ws := ws) B.pre, B.notSynchronized, hK, hN, hok, rfl, hn, B.returns⟩ s.heap [] _ hP va_S.rf hl
def eu_KV (l : Launch) (y : MethodName) (ws : List Cond) (rm : Room) (lo n : Nat) (av : (Nat → Nat) → List Value) (σ σ' : eu_T) (r : Int32) : Prop :=
  ∀ (D : va_G) (cy : Nat → ClassId) (ad : Nat → Nat), eu_ok ad → Met l y ws rm (eu_Pc lo n av σ D cy ad) (eu_qV lo n σ' r D cy ad) 0 0 (eu_A lo n ad)
theorem eu_KV_of {l : Launch} {y : MethodName} {ws ws' : List Cond} {rm : Room} {lo n maxL : Nat} {cc : ByteArray} {ret : Option FieldType} {av : (Nat → Nat) → List Value} {σ σ' : eu_T} {r : Int32} (hn : lo + n ≤ 37) (hy : plainName y.cls = true) (hw : ws = Cond.code y cc maxL ret :: ws') (hlen : ∀ ad, (lg_sl (av ad)).length ≤ maxL)
    (body : ∀ E : eu_E, eu_C E rm lo n maxL cc y.cls ws ret → eu_G E lo n maxL (eu_QV E lo n σ' r) σ 0 (lv_args 0 (av (eu_ad E))) []) : eu_KV l y ws rm lo n av σ σ' r := by
  intro D cy ad hok
  refine Met.ofW (cc := cc) (maxL := maxL) (ret := ret) hy hw ?_
  intro p e s m args below meth c s₁ B hml hv
  obtain ⟨ha, hP, hK, hN⟩ := hv
  subst ha
  have hl := lv_entry (av ad) (n := maxL) (hlen ad)
  rw [lg_entry_eq]
  exact body (p, l, e, (headSpec ws rm).room, s, m, (av ad).toArray, below, meth, c, D, cy, ad) ⟨B.exec, B.bytes, hml, findClass_of_methodNamed B.named, atoms_spec (ws := ws) B.pre, B.notSynchronized, hK, hN, hok, rfl, hn, B.returns⟩ s.heap [] _ hP va_S.rf hl
theorem eg_iadd {E : eu_E} {rm : Room} {lo n nL : Nat} {cc : ByteArray} {own : String} {ws : List Cond} {ret : Option FieldType} (C : eu_C E rm lo n nL cc own ws ret) {Q : State → Prop} {σ : eu_T} {pc : Nat} {lv : List (Nat × Value)} {st : List Value} {x y : Int32} (hd : decode cc pc = .ok (.iadd, 1))  (k : eu_G E lo n nL Q σ (pc + 1) lv (.int (x + y) :: st)) : eu_G E lo n nL Q σ (pc) lv (.int y :: .int x :: st) :=
  fun H locs ls hP hS hl => lv_iadd C.1 C.2.1 hd (k H locs ls hP hS hl)
theorem eg_isub {E : eu_E} {rm : Room} {lo n nL : Nat} {cc : ByteArray} {own : String} {ws : List Cond} {ret : Option FieldType} (C : eu_C E rm lo n nL cc own ws ret) {Q : State → Prop} {σ : eu_T} {pc : Nat} {lv : List (Nat × Value)} {st : List Value} {x y : Int32} (hd : decode cc pc = .ok (.isub, 1))  (k : eu_G E lo n nL Q σ (pc + 1) lv (.int (x - y) :: st)) : eu_G E lo n nL Q σ (pc) lv (.int y :: .int x :: st) :=
  fun H locs ls hP hS hl => lv_isub C.1 C.2.1 hd (k H locs ls hP hS hl)
theorem eg_imul {E : eu_E} {rm : Room} {lo n nL : Nat} {cc : ByteArray} {own : String} {ws : List Cond} {ret : Option FieldType} (C : eu_C E rm lo n nL cc own ws ret) {Q : State → Prop} {σ : eu_T} {pc : Nat} {lv : List (Nat × Value)} {st : List Value} {x y : Int32} (hd : decode cc pc = .ok (.imul, 1))  (k : eu_G E lo n nL Q σ (pc + 1) lv (.int (x * y) :: st)) : eu_G E lo n nL Q σ (pc) lv (.int y :: .int x :: st) :=
  fun H locs ls hP hS hl => lv_imul C.1 C.2.1 hd (k H locs ls hP hS hl)
theorem eg_iand {E : eu_E} {rm : Room} {lo n nL : Nat} {cc : ByteArray} {own : String} {ws : List Cond} {ret : Option FieldType} (C : eu_C E rm lo n nL cc own ws ret) {Q : State → Prop} {σ : eu_T} {pc : Nat} {lv : List (Nat × Value)} {st : List Value} {x y : Int32} (hd : decode cc pc = .ok (.iand, 1))  (k : eu_G E lo n nL Q σ (pc + 1) lv (.int (x &&& y) :: st)) : eu_G E lo n nL Q σ (pc) lv (.int y :: .int x :: st) :=
  fun H locs ls hP hS hl => lv_iand C.1 C.2.1 hd (k H locs ls hP hS hl)
theorem eg_ior {E : eu_E} {rm : Room} {lo n nL : Nat} {cc : ByteArray} {own : String} {ws : List Cond} {ret : Option FieldType} (C : eu_C E rm lo n nL cc own ws ret) {Q : State → Prop} {σ : eu_T} {pc : Nat} {lv : List (Nat × Value)} {st : List Value} {x y : Int32} (hd : decode cc pc = .ok (.ior, 1))  (k : eu_G E lo n nL Q σ (pc + 1) lv (.int (x ||| y) :: st)) : eu_G E lo n nL Q σ (pc) lv (.int y :: .int x :: st) :=
  fun H locs ls hP hS hl => lv_ior C.1 C.2.1 hd (k H locs ls hP hS hl)
theorem eg_ixor {E : eu_E} {rm : Room} {lo n nL : Nat} {cc : ByteArray} {own : String} {ws : List Cond} {ret : Option FieldType} (C : eu_C E rm lo n nL cc own ws ret) {Q : State → Prop} {σ : eu_T} {pc : Nat} {lv : List (Nat × Value)} {st : List Value} {x y : Int32} (hd : decode cc pc = .ok (.ixor, 1))  (k : eu_G E lo n nL Q σ (pc + 1) lv (.int (x ^^^ y) :: st)) : eu_G E lo n nL Q σ (pc) lv (.int y :: .int x :: st) :=
  fun H locs ls hP hS hl => lv_ixor C.1 C.2.1 hd (k H locs ls hP hS hl)
theorem eg_ishl {E : eu_E} {rm : Room} {lo n nL : Nat} {cc : ByteArray} {own : String} {ws : List Cond} {ret : Option FieldType} (C : eu_C E rm lo n nL cc own ws ret) {Q : State → Prop} {σ : eu_T} {pc : Nat} {lv : List (Nat × Value)} {st : List Value} {x y : Int32} (hd : decode cc pc = .ok (.ishl, 1))  (k : eu_G E lo n nL Q σ (pc + 1) lv (.int (x <<< (y &&& 31)) :: st)) : eu_G E lo n nL Q σ (pc) lv (.int y :: .int x :: st) :=
  fun H locs ls hP hS hl => lv_ishl C.1 C.2.1 hd (k H locs ls hP hS hl)
theorem eg_ishr {E : eu_E} {rm : Room} {lo n nL : Nat} {cc : ByteArray} {own : String} {ws : List Cond} {ret : Option FieldType} (C : eu_C E rm lo n nL cc own ws ret) {Q : State → Prop} {σ : eu_T} {pc : Nat} {lv : List (Nat × Value)} {st : List Value} {x y : Int32} (hd : decode cc pc = .ok (.ishr, 1))  (k : eu_G E lo n nL Q σ (pc + 1) lv (.int (x >>> (y &&& 31)) :: st)) : eu_G E lo n nL Q σ (pc) lv (.int y :: .int x :: st) :=
  fun H locs ls hP hS hl => lv_ishr C.1 C.2.1 hd (k H locs ls hP hS hl)
theorem eg_iushr {E : eu_E} {rm : Room} {lo n nL : Nat} {cc : ByteArray} {own : String} {ws : List Cond} {ret : Option FieldType} (C : eu_C E rm lo n nL cc own ws ret) {Q : State → Prop} {σ : eu_T} {pc : Nat} {lv : List (Nat × Value)} {st : List Value} {x y : Int32} (hd : decode cc pc = .ok (.iushr, 1))  (k : eu_G E lo n nL Q σ (pc + 1) lv (.int ((x.toUInt32 >>> (y.toUInt32 &&& Int32.toUInt32 31)).toInt32) :: st)) : eu_G E lo n nL Q σ (pc) lv (.int y :: .int x :: st) :=
  fun H locs ls hP hS hl => lv_iushr C.1 C.2.1 hd rfl (k H locs ls hP hS hl)
theorem eg_irem {E : eu_E} {rm : Room} {lo n nL : Nat} {cc : ByteArray} {own : String} {ws : List Cond} {ret : Option FieldType} (C : eu_C E rm lo n nL cc own ws ret) {Q : State → Prop} {σ : eu_T} {pc : Nat} {lv : List (Nat × Value)} {st : List Value} {x y : Int32} (hd : decode cc pc = .ok (.irem, 1)) (hne : ¬ y = 0) (k : eu_G E lo n nL Q σ (pc + 1) lv (.int (x - x / y * y) :: st)) : eu_G E lo n nL Q σ (pc) lv (.int y :: .int x :: st) :=
  fun H locs ls hP hS hl => lv_irem C.1 C.2.1 hd hne (k H locs ls hP hS hl)
theorem eg_idiv {E : eu_E} {rm : Room} {lo n nL : Nat} {cc : ByteArray} {own : String} {ws : List Cond} {ret : Option FieldType} (C : eu_C E rm lo n nL cc own ws ret) {Q : State → Prop} {σ : eu_T} {pc : Nat} {lv : List (Nat × Value)} {st : List Value} {x y : Int32} (hd : decode cc pc = .ok (.idiv, 1)) (hne : ¬ y = 0) (k : eu_G E lo n nL Q σ (pc + 1) lv (.int (x / y) :: st)) : eu_G E lo n nL Q σ (pc) lv (.int y :: .int x :: st) :=
  fun H locs ls hP hS hl => lv_idiv C.1 C.2.1 hd hne (k H locs ls hP hS hl)
theorem eg_ineg {E : eu_E} {rm : Room} {lo n nL : Nat} {cc : ByteArray} {own : String} {ws : List Cond} {ret : Option FieldType} (C : eu_C E rm lo n nL cc own ws ret) {Q : State → Prop} {σ : eu_T} {pc : Nat} {lv : List (Nat × Value)} {st : List Value} {x : Int32} (hd : decode cc pc = .ok (.ineg, 1))  (k : eu_G E lo n nL Q σ (pc + 1) lv (.int (-x) :: st)) : eu_G E lo n nL Q σ (pc) lv (.int x :: st) :=
  fun H locs ls hP hS hl => lv_ineg C.1 C.2.1 hd (k H locs ls hP hS hl)
theorem eg_ladd {E : eu_E} {rm : Room} {lo n nL : Nat} {cc : ByteArray} {own : String} {ws : List Cond} {ret : Option FieldType} (C : eu_C E rm lo n nL cc own ws ret) {Q : State → Prop} {σ : eu_T} {pc : Nat} {lv : List (Nat × Value)} {st : List Value} {x y : Int64} (hd : decode cc pc = .ok (.ladd, 1))  (k : eu_G E lo n nL Q σ (pc + 1) lv (.long (x + y) :: st)) : eu_G E lo n nL Q σ (pc) lv (.long y :: .long x :: st) :=
  fun H locs ls hP hS hl => lv_ladd C.1 C.2.1 hd (k H locs ls hP hS hl)
theorem eg_lmul {E : eu_E} {rm : Room} {lo n nL : Nat} {cc : ByteArray} {own : String} {ws : List Cond} {ret : Option FieldType} (C : eu_C E rm lo n nL cc own ws ret) {Q : State → Prop} {σ : eu_T} {pc : Nat} {lv : List (Nat × Value)} {st : List Value} {x y : Int64} (hd : decode cc pc = .ok (.lmul, 1))  (k : eu_G E lo n nL Q σ (pc + 1) lv (.long (x * y) :: st)) : eu_G E lo n nL Q σ (pc) lv (.long y :: .long x :: st) :=
  fun H locs ls hP hS hl => lv_lmul C.1 C.2.1 hd (k H locs ls hP hS hl)
theorem eg_lcmp {E : eu_E} {rm : Room} {lo n nL : Nat} {cc : ByteArray} {own : String} {ws : List Cond} {ret : Option FieldType} (C : eu_C E rm lo n nL cc own ws ret) {Q : State → Prop} {σ : eu_T} {pc : Nat} {lv : List (Nat × Value)} {st : List Value} {x y : Int64} (hd : decode cc pc = .ok (.lcmp, 1))  (k : eu_G E lo n nL Q σ (pc + 1) lv (.int (lg_cmp x y) :: st)) : eu_G E lo n nL Q σ (pc) lv (.long y :: .long x :: st) :=
  fun H locs ls hP hS hl => W.lcmp C.1 C.2.1 hd (k H locs ls hP hS hl)
theorem eg_i2l {E : eu_E} {rm : Room} {lo n nL : Nat} {cc : ByteArray} {own : String} {ws : List Cond} {ret : Option FieldType} (C : eu_C E rm lo n nL cc own ws ret) {Q : State → Prop} {σ : eu_T} {pc : Nat} {lv : List (Nat × Value)} {st : List Value} {x : Int32} (hd : decode cc pc = .ok (.i2l, 1))  (k : eu_G E lo n nL Q σ (pc + 1) lv (.long x.toInt64 :: st)) : eu_G E lo n nL Q σ (pc) lv (.int x :: st) :=
  fun H locs ls hP hS hl => lv_i2l C.1 C.2.1 hd rfl (k H locs ls hP hS hl)
theorem eg_i2b {E : eu_E} {rm : Room} {lo n nL : Nat} {cc : ByteArray} {own : String} {ws : List Cond} {ret : Option FieldType} (C : eu_C E rm lo n nL cc own ws ret) {Q : State → Prop} {σ : eu_T} {pc : Nat} {lv : List (Nat × Value)} {st : List Value} {x : Int32} (hd : decode cc pc = .ok (.i2b, 1))  (k : eu_G E lo n nL Q σ (pc + 1) lv (.int x.toInt8.toInt32 :: st)) : eu_G E lo n nL Q σ (pc) lv (.int x :: st) :=
  fun H locs ls hP hS hl => lv_i2b C.1 C.2.1 hd rfl (k H locs ls hP hS hl)
theorem eg_i2s {E : eu_E} {rm : Room} {lo n nL : Nat} {cc : ByteArray} {own : String} {ws : List Cond} {ret : Option FieldType} (C : eu_C E rm lo n nL cc own ws ret) {Q : State → Prop} {σ : eu_T} {pc : Nat} {lv : List (Nat × Value)} {st : List Value} {x : Int32} (hd : decode cc pc = .ok (.i2s, 1))  (k : eu_G E lo n nL Q σ (pc + 1) lv (.int x.toInt16.toInt32 :: st)) : eu_G E lo n nL Q σ (pc) lv (.int x :: st) :=
  fun H locs ls hP hS hl => lv_i2s C.1 C.2.1 hd rfl (k H locs ls hP hS hl)
theorem eg_iconst {E : eu_E} {rm : Room} {lo n nL : Nat} {cc : ByteArray} {own : String} {ws : List Cond} {ret : Option FieldType} (C : eu_C E rm lo n nL cc own ws ret) {Q : State → Prop} {σ : eu_T} {pc : Nat} {lv : List (Nat × Value)} {st : List Value} {i : Int} (v : Int32) (hd : decode cc pc = .ok (.iconst i, 1)) (hv : Int32.ofInt i = v) (k : eu_G E lo n nL Q σ (pc + 1) lv (.int v :: st)) : eu_G E lo n nL Q σ (pc) lv (st) :=
  fun H locs ls hP hS hl => lv_iconst C.1 C.2.1 hd hv (k H locs ls hP hS hl)
theorem eg_bipush {E : eu_E} {rm : Room} {lo n nL : Nat} {cc : ByteArray} {own : String} {ws : List Cond} {ret : Option FieldType} (C : eu_C E rm lo n nL cc own ws ret) {Q : State → Prop} {σ : eu_T} {pc : Nat} {lv : List (Nat × Value)} {st : List Value} {i : Int} (v : Int32) (hd : decode cc pc = .ok (.bipush i, 2)) (hv : (Int8.ofInt i).toInt32 = v) (k : eu_G E lo n nL Q σ (pc + 2) lv (.int v :: st)) : eu_G E lo n nL Q σ (pc) lv (st) :=
  fun H locs ls hP hS hl => lv_bipush C.1 C.2.1 hd hv (k H locs ls hP hS hl)
theorem eg_sipush {E : eu_E} {rm : Room} {lo n nL : Nat} {cc : ByteArray} {own : String} {ws : List Cond} {ret : Option FieldType} (C : eu_C E rm lo n nL cc own ws ret) {Q : State → Prop} {σ : eu_T} {pc : Nat} {lv : List (Nat × Value)} {st : List Value} {i : Int} (v : Int32) (hd : decode cc pc = .ok (.sipush i, 3)) (hv : (Int16.ofInt i).toInt32 = v) (k : eu_G E lo n nL Q σ (pc + 3) lv (.int v :: st)) : eu_G E lo n nL Q σ (pc) lv (st) :=
  fun H locs ls hP hS hl => lv_sipush C.1 C.2.1 hd hv (k H locs ls hP hS hl)
theorem eg_lconst {E : eu_E} {rm : Room} {lo n nL : Nat} {cc : ByteArray} {own : String} {ws : List Cond} {ret : Option FieldType} (C : eu_C E rm lo n nL cc own ws ret) {Q : State → Prop} {σ : eu_T} {pc : Nat} {lv : List (Nat × Value)} {st : List Value} {i : Fin 2} (v : Int64) (hd : decode cc pc = .ok (.lconst i, 1)) (hv : Int64.ofNat (i : Nat) = v) (k : eu_G E lo n nL Q σ (pc + 1) lv (.long v :: st)) : eu_G E lo n nL Q σ (pc) lv (st) :=
  fun H locs ls hP hS hl => lv_lconst C.1 C.2.1 hd hv (k H locs ls hP hS hl)
theorem eg_ldc {E : eu_E} {rm : Room} {lo n nL : Nat} {cc : ByteArray} {own : String} {ws : List Cond} {ret : Option FieldType} (C : eu_C E rm lo n nL cc own ws ret) {Q : State → Prop} {σ : eu_T} {pc : Nat} {lv : List (Nat × Value)} {st : List Value} {i : Nat} (v : Int32) (hd : decode cc pc = .ok (.ldc i, 2)) (hw : Cond.constant own i v ∈ ws) (k : eu_G E lo n nL Q σ (pc + 2) lv (.int v :: st)) : eu_G E lo n nL Q σ (pc) lv (st) :=
  fun H locs ls hP hS hl => lv_ldc C.1 C.2.1 C.2.2.2.1 (C.2.2.2.2.1 _ hw) hd (k H locs ls hP hS hl)
theorem eg_ldc2 {E : eu_E} {rm : Room} {lo n nL : Nat} {cc : ByteArray} {own : String} {ws : List Cond} {ret : Option FieldType} (C : eu_C E rm lo n nL cc own ws ret) {Q : State → Prop} {σ : eu_T} {pc : Nat} {lv : List (Nat × Value)} {st : List Value} {i : Nat} (v : Int64) (hd : decode cc pc = .ok (.ldc2_w i, 3)) (hw : Cond.constantLong own i v ∈ ws) (k : eu_G E lo n nL Q σ (pc + 3) lv (.long v :: st)) : eu_G E lo n nL Q σ (pc) lv (st) :=
  fun H locs ls hP hS hl => lv_ldc2 C.1 C.2.1 C.2.2.2.1 (C.2.2.2.2.1 _ hw) hd (k H locs ls hP hS hl)
theorem eg_iload_n {E : eu_E} {rm : Room} {lo n nL : Nat} {cc : ByteArray} {own : String} {ws : List Cond} {ret : Option FieldType} (C : eu_C E rm lo n nL cc own ws ret) {Q : State → Prop} {σ : eu_T} {pc : Nat} {lv : List (Nat × Value)} {st : List Value} {k : Fin 4} {x : Int32} (j : Nat) (hd : decode cc pc = .ok (.iload_n k, 1)) (hk : lv[j]? = some ((k : Nat), .int x)) (kk : eu_G E lo n nL Q σ (pc + 1) lv (.int x :: st)) : eu_G E lo n nL Q σ (pc) lv (st) :=
  fun H locs ls hP hS hl => lv_iload_n C.1 C.2.1 hd rfl (lv_at hl j hk) (kk H locs ls hP hS hl)
theorem eg_iload {E : eu_E} {rm : Room} {lo n nL : Nat} {cc : ByteArray} {own : String} {ws : List Cond} {ret : Option FieldType} (C : eu_C E rm lo n nL cc own ws ret) {Q : State → Prop} {σ : eu_T} {pc : Nat} {lv : List (Nat × Value)} {st : List Value} {i : Nat} {x : Int32} (j : Nat) (hd : decode cc pc = .ok (.iload i, 2)) (hk : lv[j]? = some (i, .int x)) (k : eu_G E lo n nL Q σ (pc + 2) lv (.int x :: st)) : eu_G E lo n nL Q σ (pc) lv (st) :=
  fun H locs ls hP hS hl => lv_iload C.1 C.2.1 hd (lv_at hl j hk) (k H locs ls hP hS hl)
theorem eg_istore_n {E : eu_E} {rm : Room} {lo n nL : Nat} {cc : ByteArray} {own : String} {ws : List Cond} {ret : Option FieldType} (C : eu_C E rm lo n nL cc own ws ret) {Q : State → Prop} {σ : eu_T} {pc : Nat} {lv : List (Nat × Value)} {st : List Value} {k : Fin 4} {i : Nat} {x : Int32} (lv' : List (Nat × Value)) (hd : decode cc pc = .ok (.istore_n k, 1)) (hi : (k : Nat) = i) (hn : i < nL) (hl' : (i, Value.int x) :: lv.filter (fun q => !(q.1 == i) && !(q.1 + 1 == i && q.2.category == 2)) = lv') (kk : eu_G E lo n nL Q σ (pc + 1) lv' (st)) : eu_G E lo n nL Q σ (pc) lv (.int x :: st) :=
  fun H locs ls hP hS hl => lv_istore_n C.1 C.2.1 hd hi hl hn hl' (fun ls2 hl2 => kk H locs ls2 hP hS hl2)
theorem eg_istore {E : eu_E} {rm : Room} {lo n nL : Nat} {cc : ByteArray} {own : String} {ws : List Cond} {ret : Option FieldType} (C : eu_C E rm lo n nL cc own ws ret) {Q : State → Prop} {σ : eu_T} {pc : Nat} {lv : List (Nat × Value)} {st : List Value} {i : Nat} {x : Int32} (lv' : List (Nat × Value)) (hd : decode cc pc = .ok (.istore i, 2)) (hn : i < nL) (hl' : (i, Value.int x) :: lv.filter (fun q => !(q.1 == i) && !(q.1 + 1 == i && q.2.category == 2)) = lv') (k : eu_G E lo n nL Q σ (pc + 2) lv' (st)) : eu_G E lo n nL Q σ (pc) lv (.int x :: st) :=
  fun H locs ls hP hS hl => lv_istore C.1 C.2.1 hd hl hn hl' (fun ls2 hl2 => k H locs ls2 hP hS hl2)
theorem eg_lload_n {E : eu_E} {rm : Room} {lo n nL : Nat} {cc : ByteArray} {own : String} {ws : List Cond} {ret : Option FieldType} (C : eu_C E rm lo n nL cc own ws ret) {Q : State → Prop} {σ : eu_T} {pc : Nat} {lv : List (Nat × Value)} {st : List Value} {k : Fin 4} {x : Int64} (j : Nat) (hd : decode cc pc = .ok (.lload_n k, 1)) (hk : lv[j]? = some ((k : Nat), .long x)) (kk : eu_G E lo n nL Q σ (pc + 1) lv (.long x :: st)) : eu_G E lo n nL Q σ (pc) lv (st) :=
  fun H locs ls hP hS hl => lv_lload_n C.1 C.2.1 hd rfl (lv_at hl j hk) (kk H locs ls hP hS hl)
theorem eg_lload {E : eu_E} {rm : Room} {lo n nL : Nat} {cc : ByteArray} {own : String} {ws : List Cond} {ret : Option FieldType} (C : eu_C E rm lo n nL cc own ws ret) {Q : State → Prop} {σ : eu_T} {pc : Nat} {lv : List (Nat × Value)} {st : List Value} {i : Nat} {x : Int64} (j : Nat) (hd : decode cc pc = .ok (.lload i, 2)) (hk : lv[j]? = some (i, .long x)) (k : eu_G E lo n nL Q σ (pc + 2) lv (.long x :: st)) : eu_G E lo n nL Q σ (pc) lv (st) :=
  fun H locs ls hP hS hl => lv_lload C.1 C.2.1 hd (lv_at hl j hk) (k H locs ls hP hS hl)
theorem eg_lstore_n {E : eu_E} {rm : Room} {lo n nL : Nat} {cc : ByteArray} {own : String} {ws : List Cond} {ret : Option FieldType} (C : eu_C E rm lo n nL cc own ws ret) {Q : State → Prop} {σ : eu_T} {pc : Nat} {lv : List (Nat × Value)} {st : List Value} {k : Fin 4} {i : Nat} {x : Int64} (lv' : List (Nat × Value)) (hd : decode cc pc = .ok (.lstore_n k, 1)) (hi : (k : Nat) = i) (hn : i + 1 < nL) (hl' : (i, Value.long x) :: lv.filter (fun q => !(q.1 == i) && (!(q.1 == i + 1) && !(q.1 + 1 == i && q.2.category == 2))) = lv') (kk : eu_G E lo n nL Q σ (pc + 1) lv' (st)) : eu_G E lo n nL Q σ (pc) lv (.long x :: st) :=
  fun H locs ls hP hS hl => lv_lstore_n C.1 C.2.1 hd hi hl hn hl' (fun ls2 hl2 => kk H locs ls2 hP hS hl2)
theorem eg_lstore {E : eu_E} {rm : Room} {lo n nL : Nat} {cc : ByteArray} {own : String} {ws : List Cond} {ret : Option FieldType} (C : eu_C E rm lo n nL cc own ws ret) {Q : State → Prop} {σ : eu_T} {pc : Nat} {lv : List (Nat × Value)} {st : List Value} {i : Nat} {x : Int64} (lv' : List (Nat × Value)) (hd : decode cc pc = .ok (.lstore i, 2)) (hn : i + 1 < nL) (hl' : (i, Value.long x) :: lv.filter (fun q => !(q.1 == i) && (!(q.1 == i + 1) && !(q.1 + 1 == i && q.2.category == 2))) = lv') (k : eu_G E lo n nL Q σ (pc + 2) lv' (st)) : eu_G E lo n nL Q σ (pc) lv (.long x :: st) :=
  fun H locs ls hP hS hl => lv_lstore C.1 C.2.1 hd hl hn hl' (fun ls2 hl2 => k H locs ls2 hP hS hl2)
theorem eg_aload_n {E : eu_E} {rm : Room} {lo n nL : Nat} {cc : ByteArray} {own : String} {ws : List Cond} {ret : Option FieldType} (C : eu_C E rm lo n nL cc own ws ret) {Q : State → Prop} {σ : eu_T} {pc : Nat} {lv : List (Nat × Value)} {st : List Value} {k : Fin 4} {x : Nat} (j : Nat) (hd : decode cc pc = .ok (.aload_n k, 1)) (hk : lv[j]? = some ((k : Nat), .ref x)) (kk : eu_G E lo n nL Q σ (pc + 1) lv (.ref x :: st)) : eu_G E lo n nL Q σ (pc) lv (st) :=
  fun H locs ls hP hS hl => lv_aload_n C.1 C.2.1 hd rfl (lv_at hl j hk) (kk H locs ls hP hS hl)
theorem eg_aload {E : eu_E} {rm : Room} {lo n nL : Nat} {cc : ByteArray} {own : String} {ws : List Cond} {ret : Option FieldType} (C : eu_C E rm lo n nL cc own ws ret) {Q : State → Prop} {σ : eu_T} {pc : Nat} {lv : List (Nat × Value)} {st : List Value} {i : Nat} {x : Nat} (j : Nat) (hd : decode cc pc = .ok (.aload i, 2)) (hk : lv[j]? = some (i, .ref x)) (k : eu_G E lo n nL Q σ (pc + 2) lv (.ref x :: st)) : eu_G E lo n nL Q σ (pc) lv (st) :=
  fun H locs ls hP hS hl => lv_aload C.1 C.2.1 hd (lv_at hl j hk) (k H locs ls hP hS hl)
theorem eg_astore_n {E : eu_E} {rm : Room} {lo n nL : Nat} {cc : ByteArray} {own : String} {ws : List Cond} {ret : Option FieldType} (C : eu_C E rm lo n nL cc own ws ret) {Q : State → Prop} {σ : eu_T} {pc : Nat} {lv : List (Nat × Value)} {st : List Value} {k : Fin 4} {i : Nat} {x : Nat} (lv' : List (Nat × Value)) (hd : decode cc pc = .ok (.astore_n k, 1)) (hi : (k : Nat) = i) (hn : i < nL) (hl' : (i, Value.ref x) :: lv.filter (fun q => !(q.1 == i) && !(q.1 + 1 == i && q.2.category == 2)) = lv') (kk : eu_G E lo n nL Q σ (pc + 1) lv' (st)) : eu_G E lo n nL Q σ (pc) lv (.ref x :: st) :=
  fun H locs ls hP hS hl => lv_astore_n C.1 C.2.1 hd hi hl hn hl' (fun ls2 hl2 => kk H locs ls2 hP hS hl2)
theorem eg_astore {E : eu_E} {rm : Room} {lo n nL : Nat} {cc : ByteArray} {own : String} {ws : List Cond} {ret : Option FieldType} (C : eu_C E rm lo n nL cc own ws ret) {Q : State → Prop} {σ : eu_T} {pc : Nat} {lv : List (Nat × Value)} {st : List Value} {i : Nat} {x : Nat} (lv' : List (Nat × Value)) (hd : decode cc pc = .ok (.astore i, 2)) (hn : i < nL) (hl' : (i, Value.ref x) :: lv.filter (fun q => !(q.1 == i) && !(q.1 + 1 == i && q.2.category == 2)) = lv') (k : eu_G E lo n nL Q σ (pc + 2) lv' (st)) : eu_G E lo n nL Q σ (pc) lv (.ref x :: st) :=
  fun H locs ls hP hS hl => lv_astore C.1 C.2.1 hd hl hn hl' (fun ls2 hl2 => k H locs ls2 hP hS hl2)
theorem eg_iinc {E : eu_E} {rm : Room} {lo n nL : Nat} {cc : ByteArray} {own : String} {ws : List Cond} {ret : Option FieldType} (C : eu_C E rm lo n nL cc own ws ret) {Q : State → Prop} {σ : eu_T} {pc : Nat} {lv : List (Nat × Value)} {st : List Value} {i : Nat} {a : Int} {x : Int32} (j : Nat) (v : Int32) (lv' : List (Nat × Value)) (hd : decode cc pc = .ok (.iinc i a, 3)) (hk : lv[j]? = some (i, .int x)) (hv : x + Int32.ofInt a = v) (hn : i < nL) (hl' : (i, Value.int v) :: lv.filter (fun q => !(q.1 == i) && !(q.1 + 1 == i && q.2.category == 2)) = lv') (k : eu_G E lo n nL Q σ (pc + 3) lv' (st)) : eu_G E lo n nL Q σ (pc) lv (st) :=
  fun H locs ls hP hS hl => lv_iinc C.1 C.2.1 hd hl hk hv hn hl' (fun ls2 hl2 => k H locs ls2 hP hS hl2)
theorem eg_dup {E : eu_E} {rm : Room} {lo n nL : Nat} {cc : ByteArray} {own : String} {ws : List Cond} {ret : Option FieldType} (C : eu_C E rm lo n nL cc own ws ret) {Q : State → Prop} {σ : eu_T} {pc : Nat} {lv : List (Nat × Value)} {st : List Value} {v : Value} (hd : decode cc pc = .ok (.dup, 1)) (hv : v.category = 1) (k : eu_G E lo n nL Q σ (pc + 1) lv (v :: v :: st)) : eu_G E lo n nL Q σ (pc) lv (v :: st) :=
  fun H locs ls hP hS hl => lv_dup C.1 C.2.1 hd hv (k H locs ls hP hS hl)
theorem eg_dup2 {E : eu_E} {rm : Room} {lo n nL : Nat} {cc : ByteArray} {own : String} {ws : List Cond} {ret : Option FieldType} (C : eu_C E rm lo n nL cc own ws ret) {Q : State → Prop} {σ : eu_T} {pc : Nat} {lv : List (Nat × Value)} {st : List Value} {v w : Value} (hd : decode cc pc = .ok (.dup2, 1)) (hv : v.category = 1) (hw : w.category = 1) (k : eu_G E lo n nL Q σ (pc + 1) lv (v :: w :: v :: w :: st)) : eu_G E lo n nL Q σ (pc) lv (v :: w :: st) :=
  fun H locs ls hP hS hl => lv_dup2_11 C.1 C.2.1 hd hv hw (k H locs ls hP hS hl)
theorem eg_pop {E : eu_E} {rm : Room} {lo n nL : Nat} {cc : ByteArray} {own : String} {ws : List Cond} {ret : Option FieldType} (C : eu_C E rm lo n nL cc own ws ret) {Q : State → Prop} {σ : eu_T} {pc : Nat} {lv : List (Nat × Value)} {st : List Value} {v : Value} (hd : decode cc pc = .ok (.pop, 1)) (hv : v.category = 1) (k : eu_G E lo n nL Q σ (pc + 1) lv (st)) : eu_G E lo n nL Q σ (pc) lv (v :: st) :=
  fun H locs ls hP hS hl => lv_pop C.1 C.2.1 hd hv (k H locs ls hP hS hl)
theorem eg_goto {E : eu_E} {rm : Room} {lo n nL : Nat} {cc : ByteArray} {own : String} {ws : List Cond} {ret : Option FieldType} (C : eu_C E rm lo n nL cc own ws ret) {Q : State → Prop} {σ : eu_T} {pc : Nat} {lv : List (Nat × Value)} {st : List Value} {off : Int} (tgt : Nat) (hd : decode cc pc = .ok (.goto off, 3)) (ht : (pc : Int) + off = (tgt : Int)) (k : eu_G E lo n nL Q σ (tgt) lv (st)) : eu_G E lo n nL Q σ (pc) lv (st) :=
  fun H locs ls hP hS hl => lv_goto C.1 C.2.1 hd ht (k H locs ls hP hS hl)
theorem eg_if_eq {E : eu_E} {rm : Room} {lo n nL : Nat} {cc : ByteArray} {own : String} {ws : List Cond} {ret : Option FieldType} (C : eu_C E rm lo n nL cc own ws ret) {Q : State → Prop} {σ : eu_T} {pc : Nat} {lv : List (Nat × Value)} {st : List Value} {x : Int32} {off : Int} (tgt : Nat) (hd : decode cc pc = .ok (.ifCond .eq off, 3)) (ht : (pc : Int) + off = (tgt : Int)) (kt : x = 0 → eu_G E lo n nL Q σ (tgt) lv (st)) (kf : ¬ x = 0 → eu_G E lo n nL Q σ (pc + 3) lv (st)) : eu_G E lo n nL Q σ (pc) lv (.int x :: st) :=
  fun H locs ls hP hS hl => lv_if_eq C.1 C.2.1 hd ht (fun c => kt c H locs ls hP hS hl) (fun c => kf c H locs ls hP hS hl)
theorem eg_icmp_eq {E : eu_E} {rm : Room} {lo n nL : Nat} {cc : ByteArray} {own : String} {ws : List Cond} {ret : Option FieldType} (C : eu_C E rm lo n nL cc own ws ret) {Q : State → Prop} {σ : eu_T} {pc : Nat} {lv : List (Nat × Value)} {st : List Value} {x y : Int32} {off : Int} (tgt : Nat) (hd : decode cc pc = .ok (.if_icmp .eq off, 3)) (ht : (pc : Int) + off = (tgt : Int)) (kt : x = y → eu_G E lo n nL Q σ (tgt) lv (st)) (kf : ¬ x = y → eu_G E lo n nL Q σ (pc + 3) lv (st)) : eu_G E lo n nL Q σ (pc) lv (.int y :: .int x :: st) :=
  fun H locs ls hP hS hl => lv_icmp_eq C.1 C.2.1 hd ht (fun c => kt c H locs ls hP hS hl) (fun c => kf c H locs ls hP hS hl)
theorem eg_if_ne {E : eu_E} {rm : Room} {lo n nL : Nat} {cc : ByteArray} {own : String} {ws : List Cond} {ret : Option FieldType} (C : eu_C E rm lo n nL cc own ws ret) {Q : State → Prop} {σ : eu_T} {pc : Nat} {lv : List (Nat × Value)} {st : List Value} {x : Int32} {off : Int} (tgt : Nat) (hd : decode cc pc = .ok (.ifCond .ne off, 3)) (ht : (pc : Int) + off = (tgt : Int)) (kt : ¬ x = 0 → eu_G E lo n nL Q σ (tgt) lv (st)) (kf : x = 0 → eu_G E lo n nL Q σ (pc + 3) lv (st)) : eu_G E lo n nL Q σ (pc) lv (.int x :: st) :=
  fun H locs ls hP hS hl => lv_if_ne C.1 C.2.1 hd ht (fun c => kt c H locs ls hP hS hl) (fun c => kf c H locs ls hP hS hl)
theorem eg_icmp_ne {E : eu_E} {rm : Room} {lo n nL : Nat} {cc : ByteArray} {own : String} {ws : List Cond} {ret : Option FieldType} (C : eu_C E rm lo n nL cc own ws ret) {Q : State → Prop} {σ : eu_T} {pc : Nat} {lv : List (Nat × Value)} {st : List Value} {x y : Int32} {off : Int} (tgt : Nat) (hd : decode cc pc = .ok (.if_icmp .ne off, 3)) (ht : (pc : Int) + off = (tgt : Int)) (kt : ¬ x = y → eu_G E lo n nL Q σ (tgt) lv (st)) (kf : x = y → eu_G E lo n nL Q σ (pc + 3) lv (st)) : eu_G E lo n nL Q σ (pc) lv (.int y :: .int x :: st) :=
  fun H locs ls hP hS hl => lv_icmp_ne C.1 C.2.1 hd ht (fun c => kt c H locs ls hP hS hl) (fun c => kf c H locs ls hP hS hl)
theorem eg_if_lt {E : eu_E} {rm : Room} {lo n nL : Nat} {cc : ByteArray} {own : String} {ws : List Cond} {ret : Option FieldType} (C : eu_C E rm lo n nL cc own ws ret) {Q : State → Prop} {σ : eu_T} {pc : Nat} {lv : List (Nat × Value)} {st : List Value} {x : Int32} {off : Int} (tgt : Nat) (hd : decode cc pc = .ok (.ifCond .lt off, 3)) (ht : (pc : Int) + off = (tgt : Int)) (kt : x < 0 → eu_G E lo n nL Q σ (tgt) lv (st)) (kf : ¬ x < 0 → eu_G E lo n nL Q σ (pc + 3) lv (st)) : eu_G E lo n nL Q σ (pc) lv (.int x :: st) :=
  fun H locs ls hP hS hl => lv_if_lt C.1 C.2.1 hd ht (fun c => kt c H locs ls hP hS hl) (fun c => kf c H locs ls hP hS hl)
theorem eg_icmp_lt {E : eu_E} {rm : Room} {lo n nL : Nat} {cc : ByteArray} {own : String} {ws : List Cond} {ret : Option FieldType} (C : eu_C E rm lo n nL cc own ws ret) {Q : State → Prop} {σ : eu_T} {pc : Nat} {lv : List (Nat × Value)} {st : List Value} {x y : Int32} {off : Int} (tgt : Nat) (hd : decode cc pc = .ok (.if_icmp .lt off, 3)) (ht : (pc : Int) + off = (tgt : Int)) (kt : x < y → eu_G E lo n nL Q σ (tgt) lv (st)) (kf : ¬ x < y → eu_G E lo n nL Q σ (pc + 3) lv (st)) : eu_G E lo n nL Q σ (pc) lv (.int y :: .int x :: st) :=
  fun H locs ls hP hS hl => lv_icmp_lt C.1 C.2.1 hd ht (fun c => kt c H locs ls hP hS hl) (fun c => kf c H locs ls hP hS hl)
theorem eg_if_ge {E : eu_E} {rm : Room} {lo n nL : Nat} {cc : ByteArray} {own : String} {ws : List Cond} {ret : Option FieldType} (C : eu_C E rm lo n nL cc own ws ret) {Q : State → Prop} {σ : eu_T} {pc : Nat} {lv : List (Nat × Value)} {st : List Value} {x : Int32} {off : Int} (tgt : Nat) (hd : decode cc pc = .ok (.ifCond .ge off, 3)) (ht : (pc : Int) + off = (tgt : Int)) (kt : 0 ≤ x → eu_G E lo n nL Q σ (tgt) lv (st)) (kf : ¬ 0 ≤ x → eu_G E lo n nL Q σ (pc + 3) lv (st)) : eu_G E lo n nL Q σ (pc) lv (.int x :: st) :=
  fun H locs ls hP hS hl => lv_if_ge C.1 C.2.1 hd ht (fun c => kt c H locs ls hP hS hl) (fun c => kf c H locs ls hP hS hl)
theorem eg_icmp_ge {E : eu_E} {rm : Room} {lo n nL : Nat} {cc : ByteArray} {own : String} {ws : List Cond} {ret : Option FieldType} (C : eu_C E rm lo n nL cc own ws ret) {Q : State → Prop} {σ : eu_T} {pc : Nat} {lv : List (Nat × Value)} {st : List Value} {x y : Int32} {off : Int} (tgt : Nat) (hd : decode cc pc = .ok (.if_icmp .ge off, 3)) (ht : (pc : Int) + off = (tgt : Int)) (kt : y ≤ x → eu_G E lo n nL Q σ (tgt) lv (st)) (kf : ¬ y ≤ x → eu_G E lo n nL Q σ (pc + 3) lv (st)) : eu_G E lo n nL Q σ (pc) lv (.int y :: .int x :: st) :=
  fun H locs ls hP hS hl => lv_icmp_ge C.1 C.2.1 hd ht (fun c => kt c H locs ls hP hS hl) (fun c => kf c H locs ls hP hS hl)
theorem eg_if_gt {E : eu_E} {rm : Room} {lo n nL : Nat} {cc : ByteArray} {own : String} {ws : List Cond} {ret : Option FieldType} (C : eu_C E rm lo n nL cc own ws ret) {Q : State → Prop} {σ : eu_T} {pc : Nat} {lv : List (Nat × Value)} {st : List Value} {x : Int32} {off : Int} (tgt : Nat) (hd : decode cc pc = .ok (.ifCond .gt off, 3)) (ht : (pc : Int) + off = (tgt : Int)) (kt : 0 < x → eu_G E lo n nL Q σ (tgt) lv (st)) (kf : ¬ 0 < x → eu_G E lo n nL Q σ (pc + 3) lv (st)) : eu_G E lo n nL Q σ (pc) lv (.int x :: st) :=
  fun H locs ls hP hS hl => lv_if_gt C.1 C.2.1 hd ht (fun c => kt c H locs ls hP hS hl) (fun c => kf c H locs ls hP hS hl)
theorem eg_icmp_gt {E : eu_E} {rm : Room} {lo n nL : Nat} {cc : ByteArray} {own : String} {ws : List Cond} {ret : Option FieldType} (C : eu_C E rm lo n nL cc own ws ret) {Q : State → Prop} {σ : eu_T} {pc : Nat} {lv : List (Nat × Value)} {st : List Value} {x y : Int32} {off : Int} (tgt : Nat) (hd : decode cc pc = .ok (.if_icmp .gt off, 3)) (ht : (pc : Int) + off = (tgt : Int)) (kt : y < x → eu_G E lo n nL Q σ (tgt) lv (st)) (kf : ¬ y < x → eu_G E lo n nL Q σ (pc + 3) lv (st)) : eu_G E lo n nL Q σ (pc) lv (.int y :: .int x :: st) :=
  fun H locs ls hP hS hl => lv_icmp_gt C.1 C.2.1 hd ht (fun c => kt c H locs ls hP hS hl) (fun c => kf c H locs ls hP hS hl)
theorem eg_if_le {E : eu_E} {rm : Room} {lo n nL : Nat} {cc : ByteArray} {own : String} {ws : List Cond} {ret : Option FieldType} (C : eu_C E rm lo n nL cc own ws ret) {Q : State → Prop} {σ : eu_T} {pc : Nat} {lv : List (Nat × Value)} {st : List Value} {x : Int32} {off : Int} (tgt : Nat) (hd : decode cc pc = .ok (.ifCond .le off, 3)) (ht : (pc : Int) + off = (tgt : Int)) (kt : x ≤ 0 → eu_G E lo n nL Q σ (tgt) lv (st)) (kf : ¬ x ≤ 0 → eu_G E lo n nL Q σ (pc + 3) lv (st)) : eu_G E lo n nL Q σ (pc) lv (.int x :: st) :=
  fun H locs ls hP hS hl => lv_if_le C.1 C.2.1 hd ht (fun c => kt c H locs ls hP hS hl) (fun c => kf c H locs ls hP hS hl)
theorem eg_icmp_le {E : eu_E} {rm : Room} {lo n nL : Nat} {cc : ByteArray} {own : String} {ws : List Cond} {ret : Option FieldType} (C : eu_C E rm lo n nL cc own ws ret) {Q : State → Prop} {σ : eu_T} {pc : Nat} {lv : List (Nat × Value)} {st : List Value} {x y : Int32} {off : Int} (tgt : Nat) (hd : decode cc pc = .ok (.if_icmp .le off, 3)) (ht : (pc : Int) + off = (tgt : Int)) (kt : x ≤ y → eu_G E lo n nL Q σ (tgt) lv (st)) (kf : ¬ x ≤ y → eu_G E lo n nL Q σ (pc + 3) lv (st)) : eu_G E lo n nL Q σ (pc) lv (.int y :: .int x :: st) :=
  fun H locs ls hP hS hl => lv_icmp_le C.1 C.2.1 hd ht (fun c => kt c H locs ls hP hS hl) (fun c => kf c H locs ls hP hS hl)
theorem eg_tin {E : eu_E} {rm : Room} {lo n nL : Nat} {cc : ByteArray} {own : String} {ws : List Cond} {ret : Option FieldType} (C : eu_C E rm lo n nL cc own ws ret) {Q : State → Prop} {σ : eu_T} {pc : Nat} {lv : List (Nat × Value)} {st : List Value} {dflt lo' hi : Int} {offs : Array Int} {len : Nat} {x : Int32} {off : Int} (v : Int32) (tgt : Nat) (hd : decode cc pc = .ok (.tableswitch dflt lo' hi offs, len)) (hx : x = v) (h1 : ¬ v.toInt < lo') (h2 : ¬ hi < v.toInt) (ho : offs[(v.toInt - lo').toNat]? = some off) (ht : (pc : Int) + off = (tgt : Int)) (k : eu_G E lo n nL Q σ (tgt) lv (st)) : eu_G E lo n nL Q σ (pc) lv (.int x :: st) :=
  fun H locs ls hP hS hl => lv_tableIn C.1 C.2.1 hd (by rw [hx]; exact h1) (by rw [hx]; exact h2) (by rw [hx]; exact ho) ht (k H locs ls hP hS hl)
theorem eg_tout {E : eu_E} {rm : Room} {lo n nL : Nat} {cc : ByteArray} {own : String} {ws : List Cond} {ret : Option FieldType} (C : eu_C E rm lo n nL cc own ws ret) {Q : State → Prop} {σ : eu_T} {pc : Nat} {lv : List (Nat × Value)} {st : List Value} {dflt lo' hi : Int} {offs : Array Int} {len : Nat} {x : Int32} (tgt : Nat) (hd : decode cc pc = .ok (.tableswitch dflt lo' hi offs, len)) (hx : x.toInt < lo' ∨ hi < x.toInt) (ht : (pc : Int) + dflt = (tgt : Int)) (k : eu_G E lo n nL Q σ (tgt) lv (st)) : eu_G E lo n nL Q σ (pc) lv (.int x :: st) :=
  fun H locs ls hP hS hl => lv_tableOut C.1 C.2.1 hd hx ht (k H locs ls hP hS hl)
theorem eg_sub {E : eu_E} {rm : Room} {lo n nL : Nat} {cc : ByteArray} {own : String} {ws : List Cond} {ret : Option FieldType} (C : eu_C E rm lo n nL cc own ws ret) {Q : State → Prop} {σ : eu_T} {pc : Nat} {lv : List (Nat × Value)} {st : List Value} {lv' : List (Nat × Value)} (ks : List Nat) (h : lv_pick lv ks = lv') (k : eu_G E lo n nL Q σ (pc) lv' (st)) : eu_G E lo n nL Q σ (pc) lv (st) :=
  fun H locs ls hP hS hl => k H locs ls hP hS (lv_sub hl ks h)
theorem eu_nsw {x k : Int32} {a : Int} (h : ¬ x = k) (hk : k.toInt = a) : ¬ x.toInt = a := fun q => h (Int32.toInt_inj.mp (by rw [hk]; exact q))
theorem hnw : ∀ w ∈ eu_nl, w.onTables = true := by decide +kernel
theorem eg_get {E : eu_E} {rm : Room} {lo n nL : Nat} {cc : ByteArray} {own : String} {ws : List Cond} {ret : Option FieldType} (C : eu_C E rm lo n nL cc own ws ret) {Q : State → Prop} {σ : eu_T} {pc : Nat} {lv : List (Nat × Value)} {st : List Value} {ref Cn : String} {T : u_T} {N idx ci : Nat} (hin : ∀ w ∈ u_ws Cn T N, w ∈ ws) (j : Nat) (hj : j < N) (hlink : Cond.fieldLink own idx ref (T j).2.1 (T j).2.2.1 ∈ ws) (hsame : ref = (T j).1) (k : Nat) (hk : lo ≤ k ∧ k < lo + n) {fs : List Value} (he : eu_we (eu_cy E) (eu_ad E) (σ k) k = .inr (ci, fs)) (hc : vwCl[ci]? = some (Cn, T, N)) {v : Value} (hv : fs[j]? = some v) (hd : decode cc pc = .ok (.getfield idx, 3)) (kk : eu_G E lo n nL Q σ (pc + 3) lv (v :: st)) : eu_G E lo n nL Q σ (pc) lv (.ref (eu_ad E k) :: st) :=
  fun H locs ls hP hS hl => va_get C.1 C.2.1 C.2.2.2.2.1 hin C.2.2.2.1 C.2.2.2.2.2.2.1 hP (k - lo) (by rw [eu_wd_get hk, he]) hc j hj (C.2.2.2.2.1 _ hlink) (fun x hx => by rw [hsame]; exact hx) hv hd (kk H locs ls hP hS hl)
theorem eg_put {E : eu_E} {rm : Room} {lo n nL : Nat} {cc : ByteArray} {own : String} {ws : List Cond} {ret : Option FieldType} (C : eu_C E rm lo n nL cc own ws ret) {Q : State → Prop} {σ : eu_T} {pc : Nat} {lv : List (Nat × Value)} {st : List Value} {ref Cn : String} {T : u_T} {N idx ci : Nat} (hin : ∀ w ∈ u_ws Cn T N, w ∈ ws) {ty0 : Nat → FieldType} (hty : ∀ k, k < N → parseFieldDescriptor (T k).2.2.1 = some (ty0 k)) (hnm : ∀ a, a < N → ∀ b, b < N → a ≠ b → (T a).2.1 ≠ (T b).2.1) (j : Nat) (hj : j < N) (hlink : Cond.fieldLink own idx ref (T j).2.1 (T j).2.2.1 ∈ ws) (hsame : ref = (T j).1) (k : Nat) (hk : lo ≤ k ∧ k < lo + n) {fs : List Value} (he : eu_we (eu_cy E) (eu_ad E) (σ k) k = .inr (ci, fs)) (hc : vwCl[ci]? = some (Cn, T, N)) {x : Int32} {ty : FieldType} (hfin : (T j).2.2.2 = false) (hdesc : parseFieldDescriptor (T j).2.2.1 = some ty) (hnar : narrow ty (.int x) = .int x) (hfit : fits ty (.int x) = true) (hlt : j < fs.length) (he' : eu_we (eu_cy E) (eu_ad E) (upd (σ k) j x) k = .inr (ci, fs.set j (.int x))) (hd : decode cc pc = .ok (.putfield idx, 3)) (kk : eu_G E lo n nL Q (eu_up σ k j x) (pc + 3) lv (st)) : eu_G E lo n nL Q σ (pc) lv (.int x :: .ref (eu_ad E k) :: st) :=
  fun H locs ls hP hS hl => va_put C.1 C.2.1 C.2.2.2.2.1 hin ty0 hty hnm C.2.2.2.1 C.2.2.2.2.2.2.1 hP (eu_wd_D σ C.2.2.2.2.2.2.2.2.1 C.2.2.2.2.2.2.2.2.2.2.1) hS (k - lo) (by rw [eu_wd_get hk, he]) hc j hj (C.2.2.2.2.1 _ hlink) (fun x hx => by rw [hsame]; exact hx) hfin hdesc hnar hfit hlt hd (fun H1 locs1 hP1 _ hS1 => kk H1 locs1 ls (by rw [eu_wd_set hk he'] at hP1; exact hP1) hS1 hl)
theorem eg_getN {E : eu_E} {rm : Room} {lo n nL : Nat} {cc : ByteArray} {own : String} {ws : List Cond} {ret : Option FieldType} (C : eu_C E rm lo n nL cc own ws ret) {Q : State → Prop} {σ : eu_T} {pc : Nat} {lv : List (Nat × Value)} {st : List Value} {ref Cn host : String} {T : u_T} {N idx ci : Nat} (hin : ∀ w ∈ u_ws Cn T N, w ∈ ws) (j : Nat) (hj : j < N) (hlink : Cond.fieldLinkNest own idx ref (T j).2.1 (T j).2.2.1 host ∈ eu_nl) (hsame : ref = (T j).1) (k : Nat) (hk : lo ≤ k ∧ k < lo + n) {fs : List Value} (he : eu_we (eu_cy E) (eu_ad E) (σ k) k = .inr (ci, fs)) (hc : vwCl[ci]? = some (Cn, T, N)) {v : Value} (hv : fs[j]? = some v) (hd : decode cc pc = .ok (.getfield idx, 3)) (kk : eu_G E lo n nL Q σ (pc + 3) lv (v :: st)) : eu_G E lo n nL Q σ (pc) lv (.ref (eu_ad E k) :: st) :=
  fun H locs ls hP hS hl => va_getN C.1 C.2.1 C.2.2.2.2.1 hin C.2.2.2.1 C.2.2.2.2.2.2.1 hP (k - lo) (by rw [eu_wd_get hk, he]) hc j hj (va_Nw.use (hnw _ hlink) (C.2.2.2.2.2.2.2.1 _ hlink)) (fun x hx => by rw [hsame]; exact hx) hv hd (kk H locs ls hP hS hl)
theorem eg_putN {E : eu_E} {rm : Room} {lo n nL : Nat} {cc : ByteArray} {own : String} {ws : List Cond} {ret : Option FieldType} (C : eu_C E rm lo n nL cc own ws ret) {Q : State → Prop} {σ : eu_T} {pc : Nat} {lv : List (Nat × Value)} {st : List Value} {ref Cn host : String} {T : u_T} {N idx ci : Nat} (hin : ∀ w ∈ u_ws Cn T N, w ∈ ws) {ty0 : Nat → FieldType} (hty : ∀ k, k < N → parseFieldDescriptor (T k).2.2.1 = some (ty0 k)) (hnm : ∀ a, a < N → ∀ b, b < N → a ≠ b → (T a).2.1 ≠ (T b).2.1) (j : Nat) (hj : j < N) (hlink : Cond.fieldLinkNest own idx ref (T j).2.1 (T j).2.2.1 host ∈ eu_nl) (hsame : ref = (T j).1) (k : Nat) (hk : lo ≤ k ∧ k < lo + n) {fs : List Value} (he : eu_we (eu_cy E) (eu_ad E) (σ k) k = .inr (ci, fs)) (hc : vwCl[ci]? = some (Cn, T, N)) {x : Int32} {ty : FieldType} (hfin : (T j).2.2.2 = false) (hdesc : parseFieldDescriptor (T j).2.2.1 = some ty) (hnar : narrow ty (.int x) = .int x) (hfit : fits ty (.int x) = true) (hlt : j < fs.length) (he' : eu_we (eu_cy E) (eu_ad E) (upd (σ k) j x) k = .inr (ci, fs.set j (.int x))) (hd : decode cc pc = .ok (.putfield idx, 3)) (kk : eu_G E lo n nL Q (eu_up σ k j x) (pc + 3) lv (st)) : eu_G E lo n nL Q σ (pc) lv (.int x :: .ref (eu_ad E k) :: st) :=
  fun H locs ls hP hS hl => va_putN C.1 C.2.1 C.2.2.2.2.1 hin ty0 hty hnm C.2.2.2.1 C.2.2.2.2.2.2.1 hP (eu_wd_D σ C.2.2.2.2.2.2.2.2.1 C.2.2.2.2.2.2.2.2.2.2.1) hS (k - lo) (by rw [eu_wd_get hk, he]) hc j hj (va_Nw.use (hnw _ hlink) (C.2.2.2.2.2.2.2.1 _ hlink)) (fun x hx => by rw [hsame]; exact hx) hfin hdesc hnar hfit hlt hd (fun H1 locs1 hP1 _ hS1 => kk H1 locs1 ls (by rw [eu_wd_set hk he'] at hP1; exact hP1) hS1 hl)
theorem eg_iald {E : eu_E} {rm : Room} {lo n nL : Nat} {cc : ByteArray} {own : String} {ws : List Cond} {ret : Option FieldType} (C : eu_C E rm lo n nL cc own ws ret) {Q : State → Prop} {σ : eu_T} {pc : Nat} {lv : List (Nat × Value)} {st : List Value} (k : Nat) (hk : lo ≤ k ∧ k < lo + n) {z : Nat} (he : ∀ f, eu_we (eu_cy E) (eu_ad E) f k = .inl (eu_cy E 0, z, .inl f)) {i : Int32} (hin : vp_in i z) (hd : decode cc pc = .ok (.iaload, 1)) (kk : eu_G E lo n nL Q σ (pc + 1) lv (.int (σ k i.toNatClampNeg) :: st)) : eu_G E lo n nL Q σ (pc) lv (.int i :: .ref (eu_ad E k) :: st) :=
  fun H locs ls hP hS hl => va_iald C.1 C.2.1 C.2.2.2.2.2.2.1 hP (k - lo) 0 (by rw [eu_wd_get hk, he]) rfl hin hd (kk H locs ls hP hS hl)
theorem eg_zald {E : eu_E} {rm : Room} {lo n nL : Nat} {cc : ByteArray} {own : String} {ws : List Cond} {ret : Option FieldType} (C : eu_C E rm lo n nL cc own ws ret) {Q : State → Prop} {σ : eu_T} {pc : Nat} {lv : List (Nat × Value)} {st : List Value} (k : Nat) (hk : lo ≤ k ∧ k < lo + n) {z : Nat} (he : ∀ f, eu_we (eu_cy E) (eu_ad E) f k = .inl (eu_cy E 1, z, .inl f)) {i : Int32} (hin : vp_in i z) (hd : decode cc pc = .ok (.baload, 1)) (kk : eu_G E lo n nL Q σ (pc + 1) lv (.int (σ k i.toNatClampNeg) :: st)) : eu_G E lo n nL Q σ (pc) lv (.int i :: .ref (eu_ad E k) :: st) :=
  fun H locs ls hP hS hl => va_zald C.1 C.2.1 C.2.2.2.2.2.2.1 hP (k - lo) 1 (by rw [eu_wd_get hk, he]) rfl hin hd (kk H locs ls hP hS hl)
theorem eg_aald {E : eu_E} {rm : Room} {lo n nL : Nat} {cc : ByteArray} {own : String} {ws : List Cond} {ret : Option FieldType} (C : eu_C E rm lo n nL cc own ws ret) {Q : State → Prop} {σ : eu_T} {pc : Nat} {lv : List (Nat × Value)} {st : List Value} {Cn : String} (t : Nat) (ht : (eu_ty (eu_cy E))[t]? = some (eu_cy E t, .object Cn)) (k : Nat) (hk : lo ≤ k ∧ k < lo + n) {z b : Nat} (he : ∀ f, eu_we (eu_cy E) (eu_ad E) f k = .inl (eu_cy E t, z, .inr (.inr (.inr (.inr (fun j => some (eu_ad E (b + j)))))))) {i : Int32} (hin : vp_in i z) (hd : decode cc pc = .ok (.aaload, 1)) (kk : eu_G E lo n nL Q σ (pc + 1) lv (.ref (eu_ad E (b + i.toNatClampNeg)) :: st)) : eu_G E lo n nL Q σ (pc) lv (.int i :: .ref (eu_ad E k) :: st) :=
  fun H locs ls hP hS hl => va_aldq (f := fun j => some (eu_ad E (b + j))) C.1 C.2.1 C.2.2.2.2.2.2.1 hP (k - lo) t (by rw [eu_wd_get hk, he]) ht hin hd (kk H locs ls hP hS hl)
theorem eg_aalA {E : eu_E} {rm : Room} {lo n nL : Nat} {cc : ByteArray} {own : String} {ws : List Cond} {ret : Option FieldType} (C : eu_C E rm lo n nL cc own ws ret) {Q : State → Prop} {σ : eu_T} {pc : Nat} {lv : List (Nat × Value)} {st : List Value} (k : Nat) (hk : lo ≤ k ∧ k < lo + n) {z b : Nat} (he : ∀ f, eu_we (eu_cy E) (eu_ad E) f k = .inl (eu_cy E 3, z, .inr (.inr (.inr (.inr (fun j => some (eu_ad E (b + j)))))))) {i : Int32} (hin : vp_in i z) (hd : decode cc pc = .ok (.aaload, 1)) (kk : eu_G E lo n nL Q σ (pc + 1) lv (.ref (eu_ad E (b + i.toNatClampNeg)) :: st)) : eu_G E lo n nL Q σ (pc) lv (.int i :: .ref (eu_ad E k) :: st) := by
  intro H locs ls hP hS hl
  have hlt : i.toNatClampNeg < z := Nat.not_le.mp fun q => hin (Or.inr q)
  have hcell := hP (k - lo) _ (by rw [eu_wd_get hk, he])
  exact W.aald (v := .ref (eu_ad E (b + i.toNatClampNeg))) (ty := .array .int) C.1 C.2.1 hcell ((C.2.2.2.2.2.2.1.2 3 _ rfl).1 z (fun j => va_rf (some (eu_ad E (b + j))))) rfl (fun q => by cases q) (by show ¬ (i < 0 ∨ (arrV _ _ _).slots.size ≤ _); rw [arrV_size]; exact hin) (by show (arrV _ _ _).slots[_]? = _; rw [arrV_read _ _ hlt]; rfl) rfl rfl hd (kk H locs ls hP hS hl)
theorem eg_iast {E : eu_E} {rm : Room} {lo n nL : Nat} {cc : ByteArray} {own : String} {ws : List Cond} {ret : Option FieldType} (C : eu_C E rm lo n nL cc own ws ret) {Q : State → Prop} {σ : eu_T} {pc : Nat} {lv : List (Nat × Value)} {st : List Value} (k : Nat) (hk : lo ≤ k ∧ k < lo + n) {z : Nat} (he : ∀ f, eu_we (eu_cy E) (eu_ad E) f k = .inl (eu_cy E 0, z, .inl f)) {i x : Int32} (hin : vp_in i z) (hd : decode cc pc = .ok (.iastore, 1)) (kk : eu_G E lo n nL Q (eu_up σ k i.toNatClampNeg x) (pc + 1) lv (st)) : eu_G E lo n nL Q σ (pc) lv (.int x :: .int i :: .ref (eu_ad E k) :: st) :=
  fun H locs ls hP hS hl => va_iast C.1 C.2.1 C.2.2.2.2.2.2.1 hP (eu_wd_D σ C.2.2.2.2.2.2.2.2.1 C.2.2.2.2.2.2.2.2.2.2.1) hS (k - lo) 0 (by rw [eu_wd_get hk, he]) rfl hin hd (fun H1 locs1 hP1 _ hS1 => kk H1 locs1 ls (by rw [eu_wd_set hk (he _)] at hP1; exact hP1) hS1 hl)
theorem eg_zast {E : eu_E} {rm : Room} {lo n nL : Nat} {cc : ByteArray} {own : String} {ws : List Cond} {ret : Option FieldType} (C : eu_C E rm lo n nL cc own ws ret) {Q : State → Prop} {σ : eu_T} {pc : Nat} {lv : List (Nat × Value)} {st : List Value} (k : Nat) (hk : lo ≤ k ∧ k < lo + n) {z : Nat} (he : ∀ f, eu_we (eu_cy E) (eu_ad E) f k = .inl (eu_cy E 1, z, .inl f)) {i x : Int32} (hz : x = 0 ∨ x = 1) (hin : vp_in i z) (hd : decode cc pc = .ok (.bastore, 1)) (kk : eu_G E lo n nL Q (eu_up σ k i.toNatClampNeg x) (pc + 1) lv (st)) : eu_G E lo n nL Q σ (pc) lv (.int x :: .int i :: .ref (eu_ad E k) :: st) :=
  fun H locs ls hP hS hl => va_zast C.1 C.2.1 C.2.2.2.2.2.2.1 hP (eu_wd_D σ C.2.2.2.2.2.2.2.2.1 C.2.2.2.2.2.2.2.2.2.2.1) hS (k - lo) 1 (by rw [eu_wd_get hk, he]) rfl hin hd (fun H1 locs1 hP1 _ hS1 => kk H1 locs1 ls (by rw [show vp_nar .boolean x = x by rcases hz with e | e <;> subst e <;> rfl, eu_wd_set hk (he _)] at hP1; exact hP1) hS1 hl)
theorem eg_copy {E : eu_E} {rm : Room} {lo n nL : Nat} {cc : ByteArray} {own : String} {ws : List Cond} {ret : Option FieldType} (C : eu_C E rm lo n nL cc own ws ret) {Q : State → Prop} {σ : eu_T} {pc : Nat} {lv : List (Nat × Value)} {st : List Value} (k1 k2 : Nat) (hk1 : lo ≤ k1 ∧ k1 < lo + n) (hk2 : lo ≤ k2 ∧ k2 < lo + n) {z1 z2 : Nat} (he1 : ∀ f, eu_we (eu_cy E) (eu_ad E) f k1 = .inl (eu_cy E 0, z1, .inl f)) (he2 : ∀ f, eu_we (eu_cy E) (eu_ad E) f k2 = .inl (eu_cy E 0, z2, .inl f)) {idx : Nat} (hlink : Cond.methodLink own idx arraycopyName ∈ ws) (hnat : Cond.native arraycopyName ∈ ws) (hstat : Cond.static arraycopyName ∈ ws) (hini : Cond.initialized "java/lang/System" ∈ ws) {sp dp a : Int32} (h1 : ¬ sp < 0) (h2 : ¬ dp < 0) (h3 : ¬ a < 0) (h4 : sp.toNatClampNeg + a.toNatClampNeg ≤ z1) (h5 : dp.toNatClampNeg + a.toNatClampNeg ≤ z2) (hfr : 1 ≤ rm.frames) (hlo : (st.map fun v => v.category).sum + (nativeFrameWords "java/lang/System" "arraycopy" 5 + 11) ≤ rm.locals) (hd : decode cc pc = .ok (.invokestatic idx, 3)) (kk : eu_G E lo n nL Q (eu_sk σ k2 (va_cpy (σ k1) (σ k2) sp.toNatClampNeg dp.toNatClampNeg a.toNatClampNeg)) (pc + 3) lv (st)) : eu_G E lo n nL Q σ (pc) lv (.int a :: .int dp :: .ref (eu_ad E k2) :: .int sp :: .ref (eu_ad E k1) :: st) :=
  fun H locs ls hP hS hl => va_copyi C.1 C.2.1 (C.2.2.1.trans hl.1.symm) C.2.2.2.1 (C.2.2.2.2.1 _ hlink) (C.2.2.2.2.1 _ hnat) (C.2.2.2.2.1 _ hstat) (C.2.2.2.2.1 _ hini) C.2.2.2.2.2.2.1 hP (eu_wd_D σ C.2.2.2.2.2.2.2.2.1 C.2.2.2.2.2.2.2.2.2.2.1) hS (k1 - lo) (k2 - lo) 0 0 (by rw [eu_wd_get hk1, he1]) (by rw [eu_wd_get hk2, he2]) rfl rfl rfl h1 h2 h3 h4 h5 (fun i hi => rfl) (by rw [C.2.2.2.2.2.2.2.2.2.1]; exact hfr) (by rw [C.2.2.2.2.2.2.2.2.2.1]; exact hlo) hd (fun H1 locs1 hP1 _ hS1 => kk H1 locs1 ls (by rw [eu_wd_set hk2 (he2 _)] at hP1; exact hP1) hS1 hl)
theorem eg_iret {E : eu_E} {rm : Room} {lo n nL : Nat} {cc : ByteArray} {own : String} {ws : List Cond} {ret : Option FieldType} (C : eu_C E rm lo n nL cc own ws ret) {σ : eu_T} {pc : Nat} {lv : List (Nat × Value)} {st : List Value} (hr : ret = some .int) {v : Int32} (hd : decode cc pc = .ok (.ireturn, 1)) : eu_G E lo n nL (eu_QI E lo n σ v) σ pc lv [.int v] :=
  fun H locs ls hP hS hl => W.iret C.1 C.2.1 (C.2.2.2.2.2.2.2.2.2.2.2.trans hr) (fun t ht hW => ⟨⟨v, (), rfl, rfl, by show va_P _ _ _ t.heap; rw [ht]; exact hP⟩, hS.F ht⟩) hS.2.2 hd C.2.2.2.2.2.1
theorem eg_zret {E : eu_E} {rm : Room} {lo n nL : Nat} {cc : ByteArray} {own : String} {ws : List Cond} {ret : Option FieldType} (C : eu_C E rm lo n nL cc own ws ret) {σ : eu_T} {pc : Nat} {lv : List (Nat × Value)} {st : List Value} (hr : ret = some .boolean) {v : Int32} (hz : v = 0 ∨ v = 1) (hd : decode cc pc = .ok (.ireturn, 1)) : eu_G E lo n nL (eu_QI E lo n σ v) σ pc lv [.int v] :=
  fun H locs ls hP hS hl => W.zret C.1 C.2.1 (C.2.2.2.2.2.2.2.2.2.2.2.trans hr) (by rcases hz with e | e <;> subst e <;> rfl) (fun t ht hW => ⟨⟨v, (), rfl, rfl, by show va_P _ _ _ t.heap; rw [ht]; exact hP⟩, hS.F ht⟩) hS.2.2 hd C.2.2.2.2.2.1
theorem eg_lret {E : eu_E} {rm : Room} {lo n nL : Nat} {cc : ByteArray} {own : String} {ws : List Cond} {ret : Option FieldType} (C : eu_C E rm lo n nL cc own ws ret) {σ : eu_T} {pc : Nat} {lv : List (Nat × Value)} {st : List Value} (hr : ret = some .long) {v : Int64} (hd : decode cc pc = .ok (.lreturn, 1)) : eu_G E lo n nL (eu_QL E lo n σ v) σ pc lv [.long v] :=
  fun H locs ls hP hS hl => W.lret C.1 C.2.1 (C.2.2.2.2.2.2.2.2.2.2.2.trans hr) (fun t ht hW => ⟨⟨v, (), rfl, rfl, by show va_P _ _ _ t.heap; rw [ht]; exact hP⟩, hS.F ht⟩) hS.2.2 hd C.2.2.2.2.2.1
theorem eg_vret {E : eu_E} {rm : Room} {lo n nL : Nat} {cc : ByteArray} {own : String} {ws : List Cond} {ret : Option FieldType} (C : eu_C E rm lo n nL cc own ws ret) {σ : eu_T} {pc : Nat} {lv : List (Nat × Value)} {st : List Value} (hr : ret = none) (v : Int32) (hd : decode cc pc = .ok (.return_, 1)) : eu_G E lo n nL (eu_QV E lo n σ v) σ pc lv [] :=
  fun H locs ls hP hS hl => W.vret C.1 C.2.1 (C.2.2.2.2.2.2.2.2.2.2.2.trans hr) (fun t ht hW => ⟨⟨(), rfl, trivial, by show va_P _ _ _ t.heap; rw [ht]; exact hP⟩, hS.F ht⟩) hS.2.2 hd C.2.2.2.2.2.1
theorem eu_blind (lo n : Nat) (av : (Nat → Nat) → List Value) (σ : eu_T) (D : va_G) (cy : Nat → ClassId) (ad : Nat → Nat) : FrameBlind (eu_Pc lo n av σ D cy ad) := fun a U g mk q => ⟨q.1, q.2.1, va_K.moved (u := U) (U := U.calling g mk a) (Vm.Alike.refl U.vm) q.2.2.1, eu_N_same (s := U) (U := U.calling g mk a) rfl q.2.2.2⟩
theorem eg_callI {E : eu_E} {rm : Room} {lo n nL : Nat} {cc : ByteArray} {own : String} {ws : List Cond} {ret : Option FieldType} (C : eu_C E rm lo n nL cc own ws ret) {Q : State → Prop} {σ : eu_T} {pc : Nat} {lv : List (Nat × Value)} {st : List Value} {y : MethodName} {bytes : ByteArray} {maxL idx na : Nat} {retY : Option FieldType} {wsy : List Cond} {rmy : Room} {Cn : String} (cw : CallW (eu_R E) (eu_s E) (eu_a E) own Cn idx y bytes maxL retY wsy rmy 0 0 na) {av : List Value} (b : Nat) (hb : lo ≤ b ∧ b < lo + n) {σ' : eu_T} {r : Int32} (hM : eu_KI (eu_l E) y wsy rmy lo n (fun ad => .ref (ad b) :: av) σ σ' r) (hna : av.length = na) {ci : Nat} {fs : List Value} {q : vw_C} (he : eu_we (eu_cy E) (eu_ad E) (σ b) b = .inr (ci, fs)) (hc : vwCl[ci]? = some q) (hq : q.1 = Cn) {stk : List Value} (hst : stk = av.reverse ++ .ref (eu_ad E b) :: st) (hroom : (st.map fun v => v.category).sum ≤ 8) (hd : decode cc pc = .ok (.invokevirtual idx, 3)) (kk : eu_G E lo n nL Q σ' (pc + 3) lv (.int r :: st)) : eu_G E lo n nL Q σ pc lv stk :=
  fun H locs ls hP hS hl => va_calli (va_runV (As := av) (rest := st) ⟨C.1, C.2.1, C.2.2.1, C.2.2.2.1, C.2.2.2.2.1⟩ (hM (eu_D E) (eu_cy E) (eu_ad E) C.2.2.2.2.2.2.2.2.1) cw ⟨eu_blind lo n (fun ad => .ref (ad b) :: av) σ (eu_D E) (eu_cy E) (eu_ad E), by rw [← hq]; exact va_recv C.2.2.2.2.2.2.1 hP hc (q0 := b - lo) (ci := ci) (fs := fs) (by rw [eu_wd_get hb, he]), fun U hU hW => ⟨rfl, by rw [hU]; exact hP, va_K.moved hW.alike C.2.2.2.2.2.2.1, eu_N_warm hW C.2.2.2.2.2.2.2.1⟩⟩ rfl hna hl.1 hst (lv_room hroom) hd ⟨Nat.zero_le _, Nat.zero_le _⟩) hS (fun q _ h => h) (fun q h => h) (fun r' u t H1 locs1 ht hvm hp hB hz hk hS1 => by
    have e : r' = r := hp
    subst e
    exact kk H1 locs1 ls (by rw [← ht]; exact hB) hS1 hl)
theorem eg_callNI {E : eu_E} {rm : Room} {lo n nL : Nat} {cc : ByteArray} {own : String} {ws : List Cond} {ret : Option FieldType} (C : eu_C E rm lo n nL cc own ws ret) {Q : State → Prop} {σ : eu_T} {pc : Nat} {lv : List (Nat × Value)} {st : List Value} {y : MethodName} {bytes : ByteArray} {maxL idx na : Nat} {retY : Option FieldType} {wsy : List Cond} {rmy : Room} {Cn : String} {host : String} (cw : va_CN (eu_R E) (eu_s E) (eu_a E) own idx y host bytes maxL retY wsy rmy 0 0 na ∧ (Cond.instanceMethod y).before (eu_a E) (eu_s E) = true ∧ (Cond.selects Cn y y).before (eu_a E) (eu_s E) = true) {av : List Value} (b : Nat) (hb : lo ≤ b ∧ b < lo + n) {σ' : eu_T} {r : Int32} (hM : eu_KI (eu_l E) y wsy rmy lo n (fun ad => .ref (ad b) :: av) σ σ' r) (hna : av.length = na) {ci : Nat} {fs : List Value} {q : vw_C} (he : eu_we (eu_cy E) (eu_ad E) (σ b) b = .inr (ci, fs)) (hc : vwCl[ci]? = some q) (hq : q.1 = Cn) {stk : List Value} (hst : stk = av.reverse ++ .ref (eu_ad E b) :: st) (hroom : (st.map fun v => v.category).sum ≤ 8) (hd : decode cc pc = .ok (.invokevirtual idx, 3)) (kk : eu_G E lo n nL Q σ' (pc + 3) lv (.int r :: st)) : eu_G E lo n nL Q σ pc lv stk :=
  fun H locs ls hP hS hl => va_calli (va_runVN (As := av) (rest := st) ⟨C.1, C.2.1, C.2.2.1, C.2.2.2.1, C.2.2.2.2.1⟩ (hM (eu_D E) (eu_cy E) (eu_ad E) C.2.2.2.2.2.2.2.2.1) cw ⟨eu_blind lo n (fun ad => .ref (ad b) :: av) σ (eu_D E) (eu_cy E) (eu_ad E), by rw [← hq]; exact va_recv C.2.2.2.2.2.2.1 hP hc (q0 := b - lo) (ci := ci) (fs := fs) (by rw [eu_wd_get hb, he]), fun U hU hW => ⟨rfl, by rw [hU]; exact hP, va_K.moved hW.alike C.2.2.2.2.2.2.1, eu_N_warm hW C.2.2.2.2.2.2.2.1⟩⟩ rfl hna hl.1 hst (lv_room hroom) hd ⟨Nat.zero_le _, Nat.zero_le _⟩) hS (fun q _ h => h) (fun q h => h) (fun r' u t H1 locs1 ht hvm hp hB hz hk hS1 => by
    have e : r' = r := hp
    subst e
    exact kk H1 locs1 ls (by rw [← ht]; exact hB) hS1 hl)
theorem eg_scallI {E : eu_E} {rm : Room} {lo n nL : Nat} {cc : ByteArray} {own : String} {ws : List Cond} {ret : Option FieldType} (C : eu_C E rm lo n nL cc own ws ret) {Q : State → Prop} {σ : eu_T} {pc : Nat} {lv : List (Nat × Value)} {st : List Value} {y : MethodName} {bytes : ByteArray} {maxL idx na : Nat} {retY : Option FieldType} {wsy : List Cond} {rmy : Room} (cw : CallB (eu_R E) (eu_s E) (eu_a E) own idx y bytes maxL retY wsy rmy 0 0 na ∧ (Cond.static y).before (eu_a E) (eu_s E) = true) {av : List Value} {σ' : eu_T} {r : Int32} (hM : eu_KI (eu_l E) y wsy rmy lo n (fun _ => av) σ σ' r) (hna : av.length = na) {stk : List Value} (hst : stk = av.reverse ++ st) (hroom : (st.map fun v => v.category).sum ≤ 8) (hd : decode cc pc = .ok (.invokestatic idx, 3)) (kk : eu_G E lo n nL Q σ' (pc + 3) lv (.int r :: st)) : eu_G E lo n nL Q σ pc lv stk :=
  fun H locs ls hP hS hl => va_calli (va_runS (As := av) (rest := st) ⟨C.1, C.2.1, C.2.2.1, C.2.2.2.1, C.2.2.2.2.1⟩ (hM (eu_D E) (eu_cy E) (eu_ad E) C.2.2.2.2.2.2.2.2.1) cw ⟨eu_blind lo n (fun _ => av) σ (eu_D E) (eu_cy E) (eu_ad E), fun U hU hW => ⟨rfl, by rw [hU]; exact hP, va_K.moved hW.alike C.2.2.2.2.2.2.1, eu_N_warm hW C.2.2.2.2.2.2.2.1⟩⟩ rfl hna hl.1 hst (lv_room hroom) hd ⟨Nat.zero_le _, Nat.zero_le _⟩) hS (fun q _ h => h) (fun q h => h) (fun r' u t H1 locs1 ht hvm hp hB hz hk hS1 => by
    have e : r' = r := hp
    subst e
    exact kk H1 locs1 ls (by rw [← ht]; exact hB) hS1 hl)
theorem eg_scallNI {E : eu_E} {rm : Room} {lo n nL : Nat} {cc : ByteArray} {own : String} {ws : List Cond} {ret : Option FieldType} (C : eu_C E rm lo n nL cc own ws ret) {Q : State → Prop} {σ : eu_T} {pc : Nat} {lv : List (Nat × Value)} {st : List Value} {y : MethodName} {bytes : ByteArray} {maxL idx na : Nat} {retY : Option FieldType} {wsy : List Cond} {rmy : Room} {host : String} (cw : va_CN (eu_R E) (eu_s E) (eu_a E) own idx y host bytes maxL retY wsy rmy 0 0 na ∧ (Cond.static y).before (eu_a E) (eu_s E) = true ∧ True) {av : List Value} {σ' : eu_T} {r : Int32} (hM : eu_KI (eu_l E) y wsy rmy lo n (fun _ => av) σ σ' r) (hna : av.length = na) {stk : List Value} (hst : stk = av.reverse ++ st) (hroom : (st.map fun v => v.category).sum ≤ 8) (hd : decode cc pc = .ok (.invokestatic idx, 3)) (kk : eu_G E lo n nL Q σ' (pc + 3) lv (.int r :: st)) : eu_G E lo n nL Q σ pc lv stk :=
  fun H locs ls hP hS hl => va_calli (va_runSN (As := av) (rest := st) ⟨C.1, C.2.1, C.2.2.1, C.2.2.2.1, C.2.2.2.2.1⟩ (hM (eu_D E) (eu_cy E) (eu_ad E) C.2.2.2.2.2.2.2.2.1) cw ⟨eu_blind lo n (fun _ => av) σ (eu_D E) (eu_cy E) (eu_ad E), fun U hU hW => ⟨rfl, by rw [hU]; exact hP, va_K.moved hW.alike C.2.2.2.2.2.2.1, eu_N_warm hW C.2.2.2.2.2.2.2.1⟩⟩ rfl hna hl.1 hst (lv_room hroom) hd ⟨Nat.zero_le _, Nat.zero_le _⟩) hS (fun q _ h => h) (fun q h => h) (fun r' u t H1 locs1 ht hvm hp hB hz hk hS1 => by
    have e : r' = r := hp
    subst e
    exact kk H1 locs1 ls (by rw [← ht]; exact hB) hS1 hl)
theorem eg_callL {E : eu_E} {rm : Room} {lo n nL : Nat} {cc : ByteArray} {own : String} {ws : List Cond} {ret : Option FieldType} (C : eu_C E rm lo n nL cc own ws ret) {Q : State → Prop} {σ : eu_T} {pc : Nat} {lv : List (Nat × Value)} {st : List Value} {y : MethodName} {bytes : ByteArray} {maxL idx na : Nat} {retY : Option FieldType} {wsy : List Cond} {rmy : Room} {Cn : String} (cw : CallW (eu_R E) (eu_s E) (eu_a E) own Cn idx y bytes maxL retY wsy rmy 0 0 na) {av : List Value} (b : Nat) (hb : lo ≤ b ∧ b < lo + n) {σ' : eu_T} {r : Int64} (hM : eu_KL (eu_l E) y wsy rmy lo n (fun ad => .ref (ad b) :: av) σ σ' r) (hna : av.length = na) {ci : Nat} {fs : List Value} {q : vw_C} (he : eu_we (eu_cy E) (eu_ad E) (σ b) b = .inr (ci, fs)) (hc : vwCl[ci]? = some q) (hq : q.1 = Cn) {stk : List Value} (hst : stk = av.reverse ++ .ref (eu_ad E b) :: st) (hroom : (st.map fun v => v.category).sum ≤ 8) (hd : decode cc pc = .ok (.invokevirtual idx, 3)) (kk : eu_G E lo n nL Q σ' (pc + 3) lv (.long r :: st)) : eu_G E lo n nL Q σ pc lv stk :=
  fun H locs ls hP hS hl => va_calll (va_runV (As := av) (rest := st) ⟨C.1, C.2.1, C.2.2.1, C.2.2.2.1, C.2.2.2.2.1⟩ (hM (eu_D E) (eu_cy E) (eu_ad E) C.2.2.2.2.2.2.2.2.1) cw ⟨eu_blind lo n (fun ad => .ref (ad b) :: av) σ (eu_D E) (eu_cy E) (eu_ad E), by rw [← hq]; exact va_recv C.2.2.2.2.2.2.1 hP hc (q0 := b - lo) (ci := ci) (fs := fs) (by rw [eu_wd_get hb, he]), fun U hU hW => ⟨rfl, by rw [hU]; exact hP, va_K.moved hW.alike C.2.2.2.2.2.2.1, eu_N_warm hW C.2.2.2.2.2.2.2.1⟩⟩ rfl hna hl.1 hst (lv_room hroom) hd ⟨Nat.zero_le _, Nat.zero_le _⟩) hS (fun q _ h => h) (fun q h => h) (fun r' u t H1 locs1 ht hvm hp hB hz hk hS1 => by
    have e : r' = r := hp
    subst e
    exact kk H1 locs1 ls (by rw [← ht]; exact hB) hS1 hl)
theorem eg_callNL {E : eu_E} {rm : Room} {lo n nL : Nat} {cc : ByteArray} {own : String} {ws : List Cond} {ret : Option FieldType} (C : eu_C E rm lo n nL cc own ws ret) {Q : State → Prop} {σ : eu_T} {pc : Nat} {lv : List (Nat × Value)} {st : List Value} {y : MethodName} {bytes : ByteArray} {maxL idx na : Nat} {retY : Option FieldType} {wsy : List Cond} {rmy : Room} {Cn : String} {host : String} (cw : va_CN (eu_R E) (eu_s E) (eu_a E) own idx y host bytes maxL retY wsy rmy 0 0 na ∧ (Cond.instanceMethod y).before (eu_a E) (eu_s E) = true ∧ (Cond.selects Cn y y).before (eu_a E) (eu_s E) = true) {av : List Value} (b : Nat) (hb : lo ≤ b ∧ b < lo + n) {σ' : eu_T} {r : Int64} (hM : eu_KL (eu_l E) y wsy rmy lo n (fun ad => .ref (ad b) :: av) σ σ' r) (hna : av.length = na) {ci : Nat} {fs : List Value} {q : vw_C} (he : eu_we (eu_cy E) (eu_ad E) (σ b) b = .inr (ci, fs)) (hc : vwCl[ci]? = some q) (hq : q.1 = Cn) {stk : List Value} (hst : stk = av.reverse ++ .ref (eu_ad E b) :: st) (hroom : (st.map fun v => v.category).sum ≤ 8) (hd : decode cc pc = .ok (.invokevirtual idx, 3)) (kk : eu_G E lo n nL Q σ' (pc + 3) lv (.long r :: st)) : eu_G E lo n nL Q σ pc lv stk :=
  fun H locs ls hP hS hl => va_calll (va_runVN (As := av) (rest := st) ⟨C.1, C.2.1, C.2.2.1, C.2.2.2.1, C.2.2.2.2.1⟩ (hM (eu_D E) (eu_cy E) (eu_ad E) C.2.2.2.2.2.2.2.2.1) cw ⟨eu_blind lo n (fun ad => .ref (ad b) :: av) σ (eu_D E) (eu_cy E) (eu_ad E), by rw [← hq]; exact va_recv C.2.2.2.2.2.2.1 hP hc (q0 := b - lo) (ci := ci) (fs := fs) (by rw [eu_wd_get hb, he]), fun U hU hW => ⟨rfl, by rw [hU]; exact hP, va_K.moved hW.alike C.2.2.2.2.2.2.1, eu_N_warm hW C.2.2.2.2.2.2.2.1⟩⟩ rfl hna hl.1 hst (lv_room hroom) hd ⟨Nat.zero_le _, Nat.zero_le _⟩) hS (fun q _ h => h) (fun q h => h) (fun r' u t H1 locs1 ht hvm hp hB hz hk hS1 => by
    have e : r' = r := hp
    subst e
    exact kk H1 locs1 ls (by rw [← ht]; exact hB) hS1 hl)
theorem eg_scallL {E : eu_E} {rm : Room} {lo n nL : Nat} {cc : ByteArray} {own : String} {ws : List Cond} {ret : Option FieldType} (C : eu_C E rm lo n nL cc own ws ret) {Q : State → Prop} {σ : eu_T} {pc : Nat} {lv : List (Nat × Value)} {st : List Value} {y : MethodName} {bytes : ByteArray} {maxL idx na : Nat} {retY : Option FieldType} {wsy : List Cond} {rmy : Room} (cw : CallB (eu_R E) (eu_s E) (eu_a E) own idx y bytes maxL retY wsy rmy 0 0 na ∧ (Cond.static y).before (eu_a E) (eu_s E) = true) {av : List Value} {σ' : eu_T} {r : Int64} (hM : eu_KL (eu_l E) y wsy rmy lo n (fun _ => av) σ σ' r) (hna : av.length = na) {stk : List Value} (hst : stk = av.reverse ++ st) (hroom : (st.map fun v => v.category).sum ≤ 8) (hd : decode cc pc = .ok (.invokestatic idx, 3)) (kk : eu_G E lo n nL Q σ' (pc + 3) lv (.long r :: st)) : eu_G E lo n nL Q σ pc lv stk :=
  fun H locs ls hP hS hl => va_calll (va_runS (As := av) (rest := st) ⟨C.1, C.2.1, C.2.2.1, C.2.2.2.1, C.2.2.2.2.1⟩ (hM (eu_D E) (eu_cy E) (eu_ad E) C.2.2.2.2.2.2.2.2.1) cw ⟨eu_blind lo n (fun _ => av) σ (eu_D E) (eu_cy E) (eu_ad E), fun U hU hW => ⟨rfl, by rw [hU]; exact hP, va_K.moved hW.alike C.2.2.2.2.2.2.1, eu_N_warm hW C.2.2.2.2.2.2.2.1⟩⟩ rfl hna hl.1 hst (lv_room hroom) hd ⟨Nat.zero_le _, Nat.zero_le _⟩) hS (fun q _ h => h) (fun q h => h) (fun r' u t H1 locs1 ht hvm hp hB hz hk hS1 => by
    have e : r' = r := hp
    subst e
    exact kk H1 locs1 ls (by rw [← ht]; exact hB) hS1 hl)
theorem eg_scallNL {E : eu_E} {rm : Room} {lo n nL : Nat} {cc : ByteArray} {own : String} {ws : List Cond} {ret : Option FieldType} (C : eu_C E rm lo n nL cc own ws ret) {Q : State → Prop} {σ : eu_T} {pc : Nat} {lv : List (Nat × Value)} {st : List Value} {y : MethodName} {bytes : ByteArray} {maxL idx na : Nat} {retY : Option FieldType} {wsy : List Cond} {rmy : Room} {host : String} (cw : va_CN (eu_R E) (eu_s E) (eu_a E) own idx y host bytes maxL retY wsy rmy 0 0 na ∧ (Cond.static y).before (eu_a E) (eu_s E) = true ∧ True) {av : List Value} {σ' : eu_T} {r : Int64} (hM : eu_KL (eu_l E) y wsy rmy lo n (fun _ => av) σ σ' r) (hna : av.length = na) {stk : List Value} (hst : stk = av.reverse ++ st) (hroom : (st.map fun v => v.category).sum ≤ 8) (hd : decode cc pc = .ok (.invokestatic idx, 3)) (kk : eu_G E lo n nL Q σ' (pc + 3) lv (.long r :: st)) : eu_G E lo n nL Q σ pc lv stk :=
  fun H locs ls hP hS hl => va_calll (va_runSN (As := av) (rest := st) ⟨C.1, C.2.1, C.2.2.1, C.2.2.2.1, C.2.2.2.2.1⟩ (hM (eu_D E) (eu_cy E) (eu_ad E) C.2.2.2.2.2.2.2.2.1) cw ⟨eu_blind lo n (fun _ => av) σ (eu_D E) (eu_cy E) (eu_ad E), fun U hU hW => ⟨rfl, by rw [hU]; exact hP, va_K.moved hW.alike C.2.2.2.2.2.2.1, eu_N_warm hW C.2.2.2.2.2.2.2.1⟩⟩ rfl hna hl.1 hst (lv_room hroom) hd ⟨Nat.zero_le _, Nat.zero_le _⟩) hS (fun q _ h => h) (fun q h => h) (fun r' u t H1 locs1 ht hvm hp hB hz hk hS1 => by
    have e : r' = r := hp
    subst e
    exact kk H1 locs1 ls (by rw [← ht]; exact hB) hS1 hl)
theorem eg_callV {E : eu_E} {rm : Room} {lo n nL : Nat} {cc : ByteArray} {own : String} {ws : List Cond} {ret : Option FieldType} (C : eu_C E rm lo n nL cc own ws ret) {Q : State → Prop} {σ : eu_T} {pc : Nat} {lv : List (Nat × Value)} {st : List Value} {y : MethodName} {bytes : ByteArray} {maxL idx na : Nat} {retY : Option FieldType} {wsy : List Cond} {rmy : Room} {Cn : String} (cw : CallW (eu_R E) (eu_s E) (eu_a E) own Cn idx y bytes maxL retY wsy rmy 0 0 na) {av : List Value} (b : Nat) (hb : lo ≤ b ∧ b < lo + n) {σ' : eu_T} {r : Int32} (hM : eu_KV (eu_l E) y wsy rmy lo n (fun ad => .ref (ad b) :: av) σ σ' r) (hna : av.length = na) {ci : Nat} {fs : List Value} {q : vw_C} (he : eu_we (eu_cy E) (eu_ad E) (σ b) b = .inr (ci, fs)) (hc : vwCl[ci]? = some q) (hq : q.1 = Cn) {stk : List Value} (hst : stk = av.reverse ++ .ref (eu_ad E b) :: st) (hroom : (st.map fun v => v.category).sum ≤ 8) (hd : decode cc pc = .ok (.invokevirtual idx, 3)) (kk : eu_G E lo n nL Q σ' (pc + 3) lv ( st)) : eu_G E lo n nL Q σ pc lv stk :=
  fun H locs ls hP hS hl => va_callv (va_runV (As := av) (rest := st) ⟨C.1, C.2.1, C.2.2.1, C.2.2.2.1, C.2.2.2.2.1⟩ (hM (eu_D E) (eu_cy E) (eu_ad E) C.2.2.2.2.2.2.2.2.1) cw ⟨eu_blind lo n (fun ad => .ref (ad b) :: av) σ (eu_D E) (eu_cy E) (eu_ad E), by rw [← hq]; exact va_recv C.2.2.2.2.2.2.1 hP hc (q0 := b - lo) (ci := ci) (fs := fs) (by rw [eu_wd_get hb, he]), fun U hU hW => ⟨rfl, by rw [hU]; exact hP, va_K.moved hW.alike C.2.2.2.2.2.2.1, eu_N_warm hW C.2.2.2.2.2.2.2.1⟩⟩ rfl hna hl.1 hst (lv_room hroom) hd ⟨Nat.zero_le _, Nat.zero_le _⟩) hS (fun q _ h => h) (fun q h => h) (fun u t H1 locs1 ht hvm hp hB hz hk hS1 => kk H1 locs1 ls (by rw [← ht]; exact hB) hS1 hl)
theorem eg_callNV {E : eu_E} {rm : Room} {lo n nL : Nat} {cc : ByteArray} {own : String} {ws : List Cond} {ret : Option FieldType} (C : eu_C E rm lo n nL cc own ws ret) {Q : State → Prop} {σ : eu_T} {pc : Nat} {lv : List (Nat × Value)} {st : List Value} {y : MethodName} {bytes : ByteArray} {maxL idx na : Nat} {retY : Option FieldType} {wsy : List Cond} {rmy : Room} {Cn : String} {host : String} (cw : va_CN (eu_R E) (eu_s E) (eu_a E) own idx y host bytes maxL retY wsy rmy 0 0 na ∧ (Cond.instanceMethod y).before (eu_a E) (eu_s E) = true ∧ (Cond.selects Cn y y).before (eu_a E) (eu_s E) = true) {av : List Value} (b : Nat) (hb : lo ≤ b ∧ b < lo + n) {σ' : eu_T} {r : Int32} (hM : eu_KV (eu_l E) y wsy rmy lo n (fun ad => .ref (ad b) :: av) σ σ' r) (hna : av.length = na) {ci : Nat} {fs : List Value} {q : vw_C} (he : eu_we (eu_cy E) (eu_ad E) (σ b) b = .inr (ci, fs)) (hc : vwCl[ci]? = some q) (hq : q.1 = Cn) {stk : List Value} (hst : stk = av.reverse ++ .ref (eu_ad E b) :: st) (hroom : (st.map fun v => v.category).sum ≤ 8) (hd : decode cc pc = .ok (.invokevirtual idx, 3)) (kk : eu_G E lo n nL Q σ' (pc + 3) lv ( st)) : eu_G E lo n nL Q σ pc lv stk :=
  fun H locs ls hP hS hl => va_callv (va_runVN (As := av) (rest := st) ⟨C.1, C.2.1, C.2.2.1, C.2.2.2.1, C.2.2.2.2.1⟩ (hM (eu_D E) (eu_cy E) (eu_ad E) C.2.2.2.2.2.2.2.2.1) cw ⟨eu_blind lo n (fun ad => .ref (ad b) :: av) σ (eu_D E) (eu_cy E) (eu_ad E), by rw [← hq]; exact va_recv C.2.2.2.2.2.2.1 hP hc (q0 := b - lo) (ci := ci) (fs := fs) (by rw [eu_wd_get hb, he]), fun U hU hW => ⟨rfl, by rw [hU]; exact hP, va_K.moved hW.alike C.2.2.2.2.2.2.1, eu_N_warm hW C.2.2.2.2.2.2.2.1⟩⟩ rfl hna hl.1 hst (lv_room hroom) hd ⟨Nat.zero_le _, Nat.zero_le _⟩) hS (fun q _ h => h) (fun q h => h) (fun u t H1 locs1 ht hvm hp hB hz hk hS1 => kk H1 locs1 ls (by rw [← ht]; exact hB) hS1 hl)
theorem eg_scallV {E : eu_E} {rm : Room} {lo n nL : Nat} {cc : ByteArray} {own : String} {ws : List Cond} {ret : Option FieldType} (C : eu_C E rm lo n nL cc own ws ret) {Q : State → Prop} {σ : eu_T} {pc : Nat} {lv : List (Nat × Value)} {st : List Value} {y : MethodName} {bytes : ByteArray} {maxL idx na : Nat} {retY : Option FieldType} {wsy : List Cond} {rmy : Room} (cw : CallB (eu_R E) (eu_s E) (eu_a E) own idx y bytes maxL retY wsy rmy 0 0 na ∧ (Cond.static y).before (eu_a E) (eu_s E) = true) {av : List Value} {σ' : eu_T} {r : Int32} (hM : eu_KV (eu_l E) y wsy rmy lo n (fun _ => av) σ σ' r) (hna : av.length = na) {stk : List Value} (hst : stk = av.reverse ++ st) (hroom : (st.map fun v => v.category).sum ≤ 8) (hd : decode cc pc = .ok (.invokestatic idx, 3)) (kk : eu_G E lo n nL Q σ' (pc + 3) lv ( st)) : eu_G E lo n nL Q σ pc lv stk :=
  fun H locs ls hP hS hl => va_callv (va_runS (As := av) (rest := st) ⟨C.1, C.2.1, C.2.2.1, C.2.2.2.1, C.2.2.2.2.1⟩ (hM (eu_D E) (eu_cy E) (eu_ad E) C.2.2.2.2.2.2.2.2.1) cw ⟨eu_blind lo n (fun _ => av) σ (eu_D E) (eu_cy E) (eu_ad E), fun U hU hW => ⟨rfl, by rw [hU]; exact hP, va_K.moved hW.alike C.2.2.2.2.2.2.1, eu_N_warm hW C.2.2.2.2.2.2.2.1⟩⟩ rfl hna hl.1 hst (lv_room hroom) hd ⟨Nat.zero_le _, Nat.zero_le _⟩) hS (fun q _ h => h) (fun q h => h) (fun u t H1 locs1 ht hvm hp hB hz hk hS1 => kk H1 locs1 ls (by rw [← ht]; exact hB) hS1 hl)
theorem eg_scallNV {E : eu_E} {rm : Room} {lo n nL : Nat} {cc : ByteArray} {own : String} {ws : List Cond} {ret : Option FieldType} (C : eu_C E rm lo n nL cc own ws ret) {Q : State → Prop} {σ : eu_T} {pc : Nat} {lv : List (Nat × Value)} {st : List Value} {y : MethodName} {bytes : ByteArray} {maxL idx na : Nat} {retY : Option FieldType} {wsy : List Cond} {rmy : Room} {host : String} (cw : va_CN (eu_R E) (eu_s E) (eu_a E) own idx y host bytes maxL retY wsy rmy 0 0 na ∧ (Cond.static y).before (eu_a E) (eu_s E) = true ∧ True) {av : List Value} {σ' : eu_T} {r : Int32} (hM : eu_KV (eu_l E) y wsy rmy lo n (fun _ => av) σ σ' r) (hna : av.length = na) {stk : List Value} (hst : stk = av.reverse ++ st) (hroom : (st.map fun v => v.category).sum ≤ 8) (hd : decode cc pc = .ok (.invokestatic idx, 3)) (kk : eu_G E lo n nL Q σ' (pc + 3) lv ( st)) : eu_G E lo n nL Q σ pc lv stk :=
  fun H locs ls hP hS hl => va_callv (va_runSN (As := av) (rest := st) ⟨C.1, C.2.1, C.2.2.1, C.2.2.2.1, C.2.2.2.2.1⟩ (hM (eu_D E) (eu_cy E) (eu_ad E) C.2.2.2.2.2.2.2.2.1) cw ⟨eu_blind lo n (fun _ => av) σ (eu_D E) (eu_cy E) (eu_ad E), fun U hU hW => ⟨rfl, by rw [hU]; exact hP, va_K.moved hW.alike C.2.2.2.2.2.2.1, eu_N_warm hW C.2.2.2.2.2.2.2.1⟩⟩ rfl hna hl.1 hst (lv_room hroom) hd ⟨Nat.zero_le _, Nat.zero_le _⟩) hS (fun q _ h => h) (fun q h => h) (fun u t H1 locs1 ht hvm hp hB hz hk hS1 => kk H1 locs1 ls (by rw [← ht]; exact hB) hS1 hl)
/-! words for the functions that the walks compute -/
def eu_gd {α : Type} (c : Prop) [Decidable c] (k : Option α) : Option α := if c then k else none
theorem eu_gd_some {α : Type} {c : Prop} [Decidable c] {k : Option α} {r : α} (h : eu_gd c k = some r) : c ∧ k = some r := by
  unfold eu_gd at h
  split at h
  · exact ⟨by assumption, h⟩
  · cases h
theorem eu_gd_t {α : Type} {c : Prop} [Decidable c] {k : Option α} (h : c) : eu_gd c k = k := if_pos h
def eu_bd {α β : Type} (o : Option α) (k : α → Option β) : Option β := match o with
  | none => none
  | some a => k a
theorem eu_bd_some {α β : Type} {o : Option α} {k : α → Option β} {r : β} (h : eu_bd o k = some r) : ∃ a, o = some a ∧ k a = some r := by
  cases o with
  | none => cases h
  | some a => exact ⟨a, rfl, h⟩
theorem eu_bd_2 {α γ β : Type} {o : Option (α × γ)} {k : α → γ → Option β} {r : β} (h : eu_bd o (fun q => k q.1 q.2) = some r) : ∃ a c, o = some (a, c) ∧ k a c = some r := by
  cases o with
  | none => cases h
  | some a => exact ⟨a.1, a.2, rfl, h⟩
theorem eu_bd_t {α β : Type} {a : α} {k : α → Option β} : eu_bd (some a) k = k a := rfl
def eu_lt {α β : Type} (v : α) (k : α → β) : β := k v
theorem eu_lt_x {α β : Type} {v : α} {k : α → β} {r : β} (h : eu_lt v k = r) : ∃ x, x = v ∧ k x = r := ⟨v, rfl, h⟩
abbrev eu_in (i : Int32) (z : Nat) : Prop := 0 ≤ i.toInt ∧ i.toInt < (z : Int)
theorem eu_in_vp {i : Int32} {z : Nat} (h : eu_in i z) : vp_in i z := vp_in_iff.mpr h
abbrev eu_bo (x : Int32) : Prop := x = 0 ∨ x = 1
end
