section
-- ===== PART A: goes FIRST, ahead of the names: the tables' words, and 'selects' of the private methods out of them =====
/-- a private method of a class that the tables say can be made, by its rows of tables_1 -/
def lw_okq (q : MethodName × Nat) : Prop := (q.1.cls ≠ "java/lang/invoke/MethodHandle" ∧ q.1.cls ≠ "java/lang/invoke/VarHandle") ∧ Cond.instantiable q.1.cls q.2 ∈ tables_1 ∧ Cond.privateMethod q.1 ∈ tables_1 ∧ Cond.instanceMethod q.1 ∈ tables_1
theorem lw_p0 : lw_okq (⟨"EachUndoes$Deeds", "append", "(I)I"⟩, 7) := ⟨⟨by decide +kernel, by decide +kernel⟩, List.mem_of_getElem? (i := 31) (by decide +kernel), List.mem_of_getElem? (i := 174) (by decide +kernel), List.mem_of_getElem? (i := 175) (by decide +kernel)⟩
theorem lw_p1 : lw_okq (⟨"EachUndoes$Deeds", "parse", "()V"⟩, 7) := ⟨⟨by decide +kernel, by decide +kernel⟩, List.mem_of_getElem? (i := 31) (by decide +kernel), List.mem_of_getElem? (i := 178) (by decide +kernel), List.mem_of_getElem? (i := 179) (by decide +kernel)⟩
theorem lw_p2 : lw_okq (⟨"EachUndoes$Deeds", "begin", "(I)I"⟩, 7) := ⟨⟨by decide +kernel, by decide +kernel⟩, List.mem_of_getElem? (i := 31) (by decide +kernel), List.mem_of_getElem? (i := 182) (by decide +kernel), List.mem_of_getElem? (i := 183) (by decide +kernel)⟩
theorem lw_p3 : lw_okq (⟨"EachUndoes$Deeds", "goOn", "(II)I"⟩, 7) := ⟨⟨by decide +kernel, by decide +kernel⟩, List.mem_of_getElem? (i := 31) (by decide +kernel), List.mem_of_getElem? (i := 187) (by decide +kernel), List.mem_of_getElem? (i := 188) (by decide +kernel)⟩
theorem lw_p4 : lw_okq (⟨"EachUndoes$Deeds", "clear", "()I"⟩, 7) := ⟨⟨by decide +kernel, by decide +kernel⟩, List.mem_of_getElem? (i := 31) (by decide +kernel), List.mem_of_getElem? (i := 201) (by decide +kernel), List.mem_of_getElem? (i := 202) (by decide +kernel)⟩
theorem lw_p5 : lw_okq (⟨"EachUndoes$Undoings", "tell", "(II)Z"⟩, 4) := ⟨⟨by decide +kernel, by decide +kernel⟩, List.mem_of_getElem? (i := 25) (by decide +kernel), List.mem_of_getElem? (i := 220) (by decide +kernel), List.mem_of_getElem? (i := 221) (by decide +kernel)⟩
theorem lw_p6 : lw_okq (⟨"EachUndoes", "found", "(I)I"⟩, 8) := ⟨⟨by decide +kernel, by decide +kernel⟩, List.mem_of_getElem? (i := 11) (by decide +kernel), List.mem_of_getElem? (i := 228) (by decide +kernel), List.mem_of_getElem? (i := 229) (by decide +kernel)⟩
theorem lw_p7 : lw_okq (⟨"EachUndoes$Undoings", "lawful", "(I)I"⟩, 4) := ⟨⟨by decide +kernel, by decide +kernel⟩, List.mem_of_getElem? (i := 25) (by decide +kernel), List.mem_of_getElem? (i := 244) (by decide +kernel), List.mem_of_getElem? (i := 245) (by decide +kernel)⟩
theorem lw_p8 : lw_okq (⟨"EachUndoes$Undoings", "ownerOf", "(II)I"⟩, 4) := ⟨⟨by decide +kernel, by decide +kernel⟩, List.mem_of_getElem? (i := 25) (by decide +kernel), List.mem_of_getElem? (i := 248) (by decide +kernel), List.mem_of_getElem? (i := 249) (by decide +kernel)⟩
theorem lw_p9 : lw_okq (⟨"EachUndoes$Undoings", "holding", "(I)I"⟩, 4) := ⟨⟨by decide +kernel, by decide +kernel⟩, List.mem_of_getElem? (i := 25) (by decide +kernel), List.mem_of_getElem? (i := 257) (by decide +kernel), List.mem_of_getElem? (i := 258) (by decide +kernel)⟩
theorem lw_p10 : lw_okq (⟨"EachUndoes", "standingBehind", "(I)I"⟩, 8) := ⟨⟨by decide +kernel, by decide +kernel⟩, List.mem_of_getElem? (i := 11) (by decide +kernel), List.mem_of_getElem? (i := 265) (by decide +kernel), List.mem_of_getElem? (i := 266) (by decide +kernel)⟩
theorem lw_p11 : lw_okq (⟨"EachUndoes$Undoings", "lawfulOfFirst", "(I)I"⟩, 4) := ⟨⟨by decide +kernel, by decide +kernel⟩, List.mem_of_getElem? (i := 25) (by decide +kernel), List.mem_of_getElem? (i := 269) (by decide +kernel), List.mem_of_getElem? (i := 270) (by decide +kernel)⟩
theorem lw_p12 : lw_okq (⟨"EachUndoes$Undoings", "standing", "(I)I"⟩, 4) := ⟨⟨by decide +kernel, by decide +kernel⟩, List.mem_of_getElem? (i := 25) (by decide +kernel), List.mem_of_getElem? (i := 277) (by decide +kernel), List.mem_of_getElem? (i := 278) (by decide +kernel)⟩
theorem lw_p13 : lw_okq (⟨"EachUndoes$Undoings", "undone", "(I)I"⟩, 4) := ⟨⟨by decide +kernel, by decide +kernel⟩, List.mem_of_getElem? (i := 25) (by decide +kernel), List.mem_of_getElem? (i := 281) (by decide +kernel), List.mem_of_getElem? (i := 282) (by decide +kernel)⟩
theorem lw_p14 : lw_okq (⟨"EachUndoes$Deeds", "standing", "(I)I"⟩, 7) := ⟨⟨by decide +kernel, by decide +kernel⟩, List.mem_of_getElem? (i := 31) (by decide +kernel), List.mem_of_getElem? (i := 286) (by decide +kernel), List.mem_of_getElem? (i := 287) (by decide +kernel)⟩
theorem lw_p15 : lw_okq (⟨"EachUndoes$Deeds", "fallen", "(I)I"⟩, 7) := ⟨⟨by decide +kernel, by decide +kernel⟩, List.mem_of_getElem? (i := 31) (by decide +kernel), List.mem_of_getElem? (i := 291) (by decide +kernel), List.mem_of_getElem? (i := 292) (by decide +kernel)⟩
def lw_privs_1 : List (MethodName × Nat) := [(⟨"EachUndoes$Deeds", "append", "(I)I"⟩, 7), (⟨"EachUndoes$Deeds", "parse", "()V"⟩, 7), (⟨"EachUndoes$Deeds", "begin", "(I)I"⟩, 7), (⟨"EachUndoes$Deeds", "goOn", "(II)I"⟩, 7), (⟨"EachUndoes$Deeds", "clear", "()I"⟩, 7), (⟨"EachUndoes$Undoings", "tell", "(II)Z"⟩, 4), (⟨"EachUndoes", "found", "(I)I"⟩, 8), (⟨"EachUndoes$Undoings", "lawful", "(I)I"⟩, 4), (⟨"EachUndoes$Undoings", "ownerOf", "(II)I"⟩, 4), (⟨"EachUndoes$Undoings", "holding", "(I)I"⟩, 4), (⟨"EachUndoes", "standingBehind", "(I)I"⟩, 8), (⟨"EachUndoes$Undoings", "lawfulOfFirst", "(I)I"⟩, 4), (⟨"EachUndoes$Undoings", "standing", "(I)I"⟩, 4), (⟨"EachUndoes$Undoings", "undone", "(I)I"⟩, 4), (⟨"EachUndoes$Deeds", "standing", "(I)I"⟩, 7), (⟨"EachUndoes$Deeds", "fallen", "(I)I"⟩, 7)]
theorem lw_r1 : ∀ q ∈ lw_privs_1, lw_okq q := List.forall_mem_cons.mpr ⟨lw_p0, List.forall_mem_cons.mpr ⟨lw_p1, List.forall_mem_cons.mpr ⟨lw_p2, List.forall_mem_cons.mpr ⟨lw_p3, List.forall_mem_cons.mpr ⟨lw_p4, List.forall_mem_cons.mpr ⟨lw_p5, List.forall_mem_cons.mpr ⟨lw_p6, List.forall_mem_cons.mpr ⟨lw_p7, List.forall_mem_cons.mpr ⟨lw_p8, List.forall_mem_cons.mpr ⟨lw_p9, List.forall_mem_cons.mpr ⟨lw_p10, List.forall_mem_cons.mpr ⟨lw_p11, List.forall_mem_cons.mpr ⟨lw_p12, List.forall_mem_cons.mpr ⟨lw_p13, List.forall_mem_cons.mpr ⟨lw_p14, List.forall_mem_cons.mpr ⟨lw_p15, fun _ h => absurd h List.not_mem_nil⟩⟩⟩⟩⟩⟩⟩⟩⟩⟩⟩⟩⟩⟩⟩⟩
theorem lw_p16 : lw_okq (⟨"EachUndoes$Undoings", "unspent", "(I)I"⟩, 4) := ⟨⟨by decide +kernel, by decide +kernel⟩, List.mem_of_getElem? (i := 25) (by decide +kernel), List.mem_of_getElem? (i := 295) (by decide +kernel), List.mem_of_getElem? (i := 296) (by decide +kernel)⟩
theorem lw_p17 : lw_okq (⟨"EachUndoes$Deeds", "rootOf", "(II)I"⟩, 7) := ⟨⟨by decide +kernel, by decide +kernel⟩, List.mem_of_getElem? (i := 31) (by decide +kernel), List.mem_of_getElem? (i := 304) (by decide +kernel), List.mem_of_getElem? (i := 305) (by decide +kernel)⟩
theorem lw_p18 : lw_okq (⟨"EachUndoes$Outlook", "renew", "()V"⟩, 8) := ⟨⟨by decide +kernel, by decide +kernel⟩, List.mem_of_getElem? (i := 19) (by decide +kernel), List.mem_of_getElem? (i := 324) (by decide +kernel), List.mem_of_getElem? (i := 325) (by decide +kernel)⟩
theorem lw_p19 : lw_okq (⟨"EachUndoes$Outlook", "standingWith", "(II)I"⟩, 8) := ⟨⟨by decide +kernel, by decide +kernel⟩, List.mem_of_getElem? (i := 19) (by decide +kernel), List.mem_of_getElem? (i := 330) (by decide +kernel), List.mem_of_getElem? (i := 331) (by decide +kernel)⟩
theorem lw_p20 : lw_okq (⟨"EachUndoes$Outlook", "isAsTold", "(III)Z"⟩, 8) := ⟨⟨by decide +kernel, by decide +kernel⟩, List.mem_of_getElem? (i := 19) (by decide +kernel), List.mem_of_getElem? (i := 336) (by decide +kernel), List.mem_of_getElem? (i := 337) (by decide +kernel)⟩
theorem lw_p21 : lw_okq (⟨"EachUndoes$Outlook", "leastFirst", "(III)I"⟩, 8) := ⟨⟨by decide +kernel, by decide +kernel⟩, List.mem_of_getElem? (i := 19) (by decide +kernel), List.mem_of_getElem? (i := 341) (by decide +kernel), List.mem_of_getElem? (i := 342) (by decide +kernel)⟩
theorem lw_p22 : lw_okq (⟨"EachUndoes$Outlook", "leastTaker", "(II)I"⟩, 8) := ⟨⟨by decide +kernel, by decide +kernel⟩, List.mem_of_getElem? (i := 19) (by decide +kernel), List.mem_of_getElem? (i := 345) (by decide +kernel), List.mem_of_getElem? (i := 346) (by decide +kernel)⟩
theorem lw_p23 : lw_okq (⟨"EachUndoes$Outlook", "takersOf", "(I)I"⟩, 8) := ⟨⟨by decide +kernel, by decide +kernel⟩, List.mem_of_getElem? (i := 19) (by decide +kernel), List.mem_of_getElem? (i := 349) (by decide +kernel), List.mem_of_getElem? (i := 350) (by decide +kernel)⟩
theorem lw_p24 : lw_okq (⟨"EachUndoes$Outlook", "lasting", "(I)I"⟩, 8) := ⟨⟨by decide +kernel, by decide +kernel⟩, List.mem_of_getElem? (i := 19) (by decide +kernel), List.mem_of_getElem? (i := 361) (by decide +kernel), List.mem_of_getElem? (i := 362) (by decide +kernel)⟩
theorem lw_p25 : lw_okq (⟨"EachUndoes$Outlook", "bestMove", "(II)I"⟩, 8) := ⟨⟨by decide +kernel, by decide +kernel⟩, List.mem_of_getElem? (i := 19) (by decide +kernel), List.mem_of_getElem? (i := 369) (by decide +kernel), List.mem_of_getElem? (i := 370) (by decide +kernel)⟩
theorem lw_p26 : lw_okq (⟨"EachUndoes$Outlook", "bestReply", "(II)I"⟩, 8) := ⟨⟨by decide +kernel, by decide +kernel⟩, List.mem_of_getElem? (i := 19) (by decide +kernel), List.mem_of_getElem? (i := 373) (by decide +kernel), List.mem_of_getElem? (i := 374) (by decide +kernel)⟩
theorem lw_p27 : lw_okq (⟨"EachUndoes$Outlook", "worthOf", "(II)I"⟩, 8) := ⟨⟨by decide +kernel, by decide +kernel⟩, List.mem_of_getElem? (i := 19) (by decide +kernel), List.mem_of_getElem? (i := 377) (by decide +kernel), List.mem_of_getElem? (i := 378) (by decide +kernel)⟩
theorem lw_p28 : lw_okq (⟨"EachUndoes$Outlook", "canTake", "(III)Z"⟩, 8) := ⟨⟨by decide +kernel, by decide +kernel⟩, List.mem_of_getElem? (i := 19) (by decide +kernel), List.mem_of_getElem? (i := 381) (by decide +kernel), List.mem_of_getElem? (i := 382) (by decide +kernel)⟩
theorem lw_p29 : lw_okq (⟨"EachUndoes$Outlook", "draw", "(II)V"⟩, 8) := ⟨⟨by decide +kernel, by decide +kernel⟩, List.mem_of_getElem? (i := 19) (by decide +kernel), List.mem_of_getElem? (i := 403) (by decide +kernel), List.mem_of_getElem? (i := 404) (by decide +kernel)⟩
theorem lw_p30 : lw_okq (⟨"EachUndoes$Outlook", "lotOf", "(I)I"⟩, 8) := ⟨⟨by decide +kernel, by decide +kernel⟩, List.mem_of_getElem? (i := 19) (by decide +kernel), List.mem_of_getElem? (i := 410) (by decide +kernel), List.mem_of_getElem? (i := 411) (by decide +kernel)⟩
theorem lw_p31 : lw_okq (⟨"EachUndoes$Deeds", "doneBy", "(I)I"⟩, 7) := ⟨⟨by decide +kernel, by decide +kernel⟩, List.mem_of_getElem? (i := 31) (by decide +kernel), List.mem_of_getElem? (i := 416) (by decide +kernel), List.mem_of_getElem? (i := 417) (by decide +kernel)⟩
def lw_privs_2 : List (MethodName × Nat) := [(⟨"EachUndoes$Undoings", "unspent", "(I)I"⟩, 4), (⟨"EachUndoes$Deeds", "rootOf", "(II)I"⟩, 7), (⟨"EachUndoes$Outlook", "renew", "()V"⟩, 8), (⟨"EachUndoes$Outlook", "standingWith", "(II)I"⟩, 8), (⟨"EachUndoes$Outlook", "isAsTold", "(III)Z"⟩, 8), (⟨"EachUndoes$Outlook", "leastFirst", "(III)I"⟩, 8), (⟨"EachUndoes$Outlook", "leastTaker", "(II)I"⟩, 8), (⟨"EachUndoes$Outlook", "takersOf", "(I)I"⟩, 8), (⟨"EachUndoes$Outlook", "lasting", "(I)I"⟩, 8), (⟨"EachUndoes$Outlook", "bestMove", "(II)I"⟩, 8), (⟨"EachUndoes$Outlook", "bestReply", "(II)I"⟩, 8), (⟨"EachUndoes$Outlook", "worthOf", "(II)I"⟩, 8), (⟨"EachUndoes$Outlook", "canTake", "(III)Z"⟩, 8), (⟨"EachUndoes$Outlook", "draw", "(II)V"⟩, 8), (⟨"EachUndoes$Outlook", "lotOf", "(I)I"⟩, 8), (⟨"EachUndoes$Deeds", "doneBy", "(I)I"⟩, 7)]
theorem lw_r2 : ∀ q ∈ lw_privs_2, lw_okq q := List.forall_mem_cons.mpr ⟨lw_p16, List.forall_mem_cons.mpr ⟨lw_p17, List.forall_mem_cons.mpr ⟨lw_p18, List.forall_mem_cons.mpr ⟨lw_p19, List.forall_mem_cons.mpr ⟨lw_p20, List.forall_mem_cons.mpr ⟨lw_p21, List.forall_mem_cons.mpr ⟨lw_p22, List.forall_mem_cons.mpr ⟨lw_p23, List.forall_mem_cons.mpr ⟨lw_p24, List.forall_mem_cons.mpr ⟨lw_p25, List.forall_mem_cons.mpr ⟨lw_p26, List.forall_mem_cons.mpr ⟨lw_p27, List.forall_mem_cons.mpr ⟨lw_p28, List.forall_mem_cons.mpr ⟨lw_p29, List.forall_mem_cons.mpr ⟨lw_p30, List.forall_mem_cons.mpr ⟨lw_p31, fun _ h => absurd h List.not_mem_nil⟩⟩⟩⟩⟩⟩⟩⟩⟩⟩⟩⟩⟩⟩⟩⟩
theorem lw_p32 : lw_okq (⟨"EachUndoes$Sheet", "begin", "(II)V"⟩, 4) := ⟨⟨by decide +kernel, by decide +kernel⟩, List.mem_of_getElem? (i := 119) (by decide +kernel), List.mem_of_getElem? (i := 425) (by decide +kernel), List.mem_of_getElem? (i := 426) (by decide +kernel)⟩
theorem lw_p33 : lw_okq (⟨"EachUndoes$Sheet", "findingAt", "(II)I"⟩, 4) := ⟨⟨by decide +kernel, by decide +kernel⟩, List.mem_of_getElem? (i := 119) (by decide +kernel), List.mem_of_getElem? (i := 437) (by decide +kernel), List.mem_of_getElem? (i := 438) (by decide +kernel)⟩
theorem lw_p34 : lw_okq (⟨"EachUndoes$Sheet", "put", "(II)V"⟩, 4) := ⟨⟨by decide +kernel, by decide +kernel⟩, List.mem_of_getElem? (i := 119) (by decide +kernel), List.mem_of_getElem? (i := 442) (by decide +kernel), List.mem_of_getElem? (i := 443) (by decide +kernel)⟩
theorem lw_p35 : lw_okq (⟨"EachUndoes$Sheet", "hasItems", "(II)Z"⟩, 4) := ⟨⟨by decide +kernel, by decide +kernel⟩, List.mem_of_getElem? (i := 119) (by decide +kernel), List.mem_of_getElem? (i := 455) (by decide +kernel), List.mem_of_getElem? (i := 456) (by decide +kernel)⟩
theorem lw_p36 : lw_okq (⟨"EachUndoes", "withDeeds", "(J)J"⟩, 8) := ⟨⟨by decide +kernel, by decide +kernel⟩, List.mem_of_getElem? (i := 11) (by decide +kernel), List.mem_of_getElem? (i := 484) (by decide +kernel), List.mem_of_getElem? (i := 485) (by decide +kernel)⟩
theorem lw_p37 : lw_okq (⟨"EachUndoes", "withUndoings", "(J)J"⟩, 8) := ⟨⟨by decide +kernel, by decide +kernel⟩, List.mem_of_getElem? (i := 11) (by decide +kernel), List.mem_of_getElem? (i := 490) (by decide +kernel), List.mem_of_getElem? (i := 491) (by decide +kernel)⟩
theorem lw_p38 : lw_okq (⟨"EachUndoesModel", "met", "(I)I"⟩, 23) := ⟨⟨by decide +kernel, by decide +kernel⟩, List.mem_of_getElem? (i := 503) (by decide +kernel), List.mem_of_getElem? (i := 592) (by decide +kernel), List.mem_of_getElem? (i := 593) (by decide +kernel)⟩
theorem lw_p39 : lw_okq (⟨"EachUndoesModel", "lacks", "(III)I"⟩, 23) := ⟨⟨by decide +kernel, by decide +kernel⟩, List.mem_of_getElem? (i := 503) (by decide +kernel), List.mem_of_getElem? (i := 604) (by decide +kernel), List.mem_of_getElem? (i := 605) (by decide +kernel)⟩
theorem lw_p40 : lw_okq (⟨"EachUndoesModel", "reads", "()I"⟩, 23) := ⟨⟨by decide +kernel, by decide +kernel⟩, List.mem_of_getElem? (i := 503) (by decide +kernel), List.mem_of_getElem? (i := 633) (by decide +kernel), List.mem_of_getElem? (i := 634) (by decide +kernel)⟩
theorem lw_p41 : lw_okq (⟨"EachUndoesModel", "readsPart", "()Z"⟩, 23) := ⟨⟨by decide +kernel, by decide +kernel⟩, List.mem_of_getElem? (i := 503) (by decide +kernel), List.mem_of_getElem? (i := 637) (by decide +kernel), List.mem_of_getElem? (i := 638) (by decide +kernel)⟩
theorem lw_p42 : lw_okq (⟨"EachUndoesModel", "here", "()I"⟩, 23) := ⟨⟨by decide +kernel, by decide +kernel⟩, List.mem_of_getElem? (i := 503) (by decide +kernel), List.mem_of_getElem? (i := 641) (by decide +kernel), List.mem_of_getElem? (i := 642) (by decide +kernel)⟩
theorem lw_p43 : lw_okq (⟨"EachUndoesModel", "none", "()I"⟩, 23) := ⟨⟨by decide +kernel, by decide +kernel⟩, List.mem_of_getElem? (i := 503) (by decide +kernel), List.mem_of_getElem? (i := 649) (by decide +kernel), List.mem_of_getElem? (i := 650) (by decide +kernel)⟩
theorem lw_p44 : lw_okq (⟨"EachUndoesModel", "isDeed", "(I)Z"⟩, 23) := ⟨⟨by decide +kernel, by decide +kernel⟩, List.mem_of_getElem? (i := 503) (by decide +kernel), List.mem_of_getElem? (i := 657) (by decide +kernel), List.mem_of_getElem? (i := 658) (by decide +kernel)⟩
theorem lw_p45 : lw_okq (⟨"EachUndoesModel", "tells", "(III)V"⟩, 23) := ⟨⟨by decide +kernel, by decide +kernel⟩, List.mem_of_getElem? (i := 503) (by decide +kernel), List.mem_of_getElem? (i := 666) (by decide +kernel), List.mem_of_getElem? (i := 667) (by decide +kernel)⟩
theorem lw_p46 : lw_okq (⟨"EachUndoesModel", "find", "()V"⟩, 23) := ⟨⟨by decide +kernel, by decide +kernel⟩, List.mem_of_getElem? (i := 503) (by decide +kernel), List.mem_of_getElem? (i := 690) (by decide +kernel), List.mem_of_getElem? (i := 691) (by decide +kernel)⟩
theorem lw_p47 : lw_okq (⟨"EachUndoesModel", "judges", "(II)V"⟩, 23) := ⟨⟨by decide +kernel, by decide +kernel⟩, List.mem_of_getElem? (i := 503) (by decide +kernel), List.mem_of_getElem? (i := 694) (by decide +kernel), List.mem_of_getElem? (i := 695) (by decide +kernel)⟩
def lw_privs_3 : List (MethodName × Nat) := [(⟨"EachUndoes$Sheet", "begin", "(II)V"⟩, 4), (⟨"EachUndoes$Sheet", "findingAt", "(II)I"⟩, 4), (⟨"EachUndoes$Sheet", "put", "(II)V"⟩, 4), (⟨"EachUndoes$Sheet", "hasItems", "(II)Z"⟩, 4), (⟨"EachUndoes", "withDeeds", "(J)J"⟩, 8), (⟨"EachUndoes", "withUndoings", "(J)J"⟩, 8), (⟨"EachUndoesModel", "met", "(I)I"⟩, 23), (⟨"EachUndoesModel", "lacks", "(III)I"⟩, 23), (⟨"EachUndoesModel", "reads", "()I"⟩, 23), (⟨"EachUndoesModel", "readsPart", "()Z"⟩, 23), (⟨"EachUndoesModel", "here", "()I"⟩, 23), (⟨"EachUndoesModel", "none", "()I"⟩, 23), (⟨"EachUndoesModel", "isDeed", "(I)Z"⟩, 23), (⟨"EachUndoesModel", "tells", "(III)V"⟩, 23), (⟨"EachUndoesModel", "find", "()V"⟩, 23), (⟨"EachUndoesModel", "judges", "(II)V"⟩, 23)]
theorem lw_r3 : ∀ q ∈ lw_privs_3, lw_okq q := List.forall_mem_cons.mpr ⟨lw_p32, List.forall_mem_cons.mpr ⟨lw_p33, List.forall_mem_cons.mpr ⟨lw_p34, List.forall_mem_cons.mpr ⟨lw_p35, List.forall_mem_cons.mpr ⟨lw_p36, List.forall_mem_cons.mpr ⟨lw_p37, List.forall_mem_cons.mpr ⟨lw_p38, List.forall_mem_cons.mpr ⟨lw_p39, List.forall_mem_cons.mpr ⟨lw_p40, List.forall_mem_cons.mpr ⟨lw_p41, List.forall_mem_cons.mpr ⟨lw_p42, List.forall_mem_cons.mpr ⟨lw_p43, List.forall_mem_cons.mpr ⟨lw_p44, List.forall_mem_cons.mpr ⟨lw_p45, List.forall_mem_cons.mpr ⟨lw_p46, List.forall_mem_cons.mpr ⟨lw_p47, fun _ h => absurd h List.not_mem_nil⟩⟩⟩⟩⟩⟩⟩⟩⟩⟩⟩⟩⟩⟩⟩⟩
theorem lw_p48 : lw_okq (⟨"EachUndoesModel", "isLawful", "(I)Z"⟩, 23) := ⟨⟨by decide +kernel, by decide +kernel⟩, List.mem_of_getElem? (i := 503) (by decide +kernel), List.mem_of_getElem? (i := 698) (by decide +kernel), List.mem_of_getElem? (i := 699) (by decide +kernel)⟩
theorem lw_p49 : lw_okq (⟨"EachUndoesModel", "holding", "(I)I"⟩, 23) := ⟨⟨by decide +kernel, by decide +kernel⟩, List.mem_of_getElem? (i := 503) (by decide +kernel), List.mem_of_getElem? (i := 709) (by decide +kernel), List.mem_of_getElem? (i := 710) (by decide +kernel)⟩
theorem lw_p50 : lw_okq (⟨"EachUndoesModel", "stateOf", "(II)I"⟩, 23) := ⟨⟨by decide +kernel, by decide +kernel⟩, List.mem_of_getElem? (i := 503) (by decide +kernel), List.mem_of_getElem? (i := 720) (by decide +kernel), List.mem_of_getElem? (i := 721) (by decide +kernel)⟩
theorem lw_p51 : lw_okq (⟨"EachUndoesModel", "standing", "(I)I"⟩, 23) := ⟨⟨by decide +kernel, by decide +kernel⟩, List.mem_of_getElem? (i := 503) (by decide +kernel), List.mem_of_getElem? (i := 724) (by decide +kernel), List.mem_of_getElem? (i := 725) (by decide +kernel)⟩
theorem lw_p52 : lw_okq (⟨"EachUndoesModel", "struck", "(I)I"⟩, 23) := ⟨⟨by decide +kernel, by decide +kernel⟩, List.mem_of_getElem? (i := 503) (by decide +kernel), List.mem_of_getElem? (i := 728) (by decide +kernel), List.mem_of_getElem? (i := 729) (by decide +kernel)⟩
theorem lw_p53 : lw_okq (⟨"EachUndoesModel", "rootOf", "(I)I"⟩, 23) := ⟨⟨by decide +kernel, by decide +kernel⟩, List.mem_of_getElem? (i := 503) (by decide +kernel), List.mem_of_getElem? (i := 736) (by decide +kernel), List.mem_of_getElem? (i := 737) (by decide +kernel)⟩
theorem lw_p54 : lw_okq (⟨"EachUndoesModel", "byOf", "(I)I"⟩, 23) := ⟨⟨by decide +kernel, by decide +kernel⟩, List.mem_of_getElem? (i := 503) (by decide +kernel), List.mem_of_getElem? (i := 744) (by decide +kernel), List.mem_of_getElem? (i := 745) (by decide +kernel)⟩
theorem lw_p55 : lw_okq (⟨"EachUndoesModel", "withoutOf", "(II)I"⟩, 23) := ⟨⟨by decide +kernel, by decide +kernel⟩, List.mem_of_getElem? (i := 503) (by decide +kernel), List.mem_of_getElem? (i := 752) (by decide +kernel), List.mem_of_getElem? (i := 753) (by decide +kernel)⟩
theorem lw_p56 : lw_okq (⟨"EachUndoesModel", "fewestOf", "(IIII)I"⟩, 23) := ⟨⟨by decide +kernel, by decide +kernel⟩, List.mem_of_getElem? (i := 503) (by decide +kernel), List.mem_of_getElem? (i := 764) (by decide +kernel), List.mem_of_getElem? (i := 765) (by decide +kernel)⟩
theorem lw_p57 : lw_okq (⟨"EachUndoesModel", "isSo", "(III)Z"⟩, 23) := ⟨⟨by decide +kernel, by decide +kernel⟩, List.mem_of_getElem? (i := 503) (by decide +kernel), List.mem_of_getElem? (i := 768) (by decide +kernel), List.mem_of_getElem? (i := 769) (by decide +kernel)⟩
theorem lw_p58 : lw_okq (⟨"EachUndoesModel", "adds", "(II)Z"⟩, 23) := ⟨⟨by decide +kernel, by decide +kernel⟩, List.mem_of_getElem? (i := 503) (by decide +kernel), List.mem_of_getElem? (i := 772) (by decide +kernel), List.mem_of_getElem? (i := 773) (by decide +kernel)⟩
theorem lw_p59 : lw_okq (⟨"EachUndoesModel", "canBe", "(III)Z"⟩, 23) := ⟨⟨by decide +kernel, by decide +kernel⟩, List.mem_of_getElem? (i := 503) (by decide +kernel), List.mem_of_getElem? (i := 776) (by decide +kernel), List.mem_of_getElem? (i := 777) (by decide +kernel)⟩
theorem lw_p60 : lw_okq (⟨"EachUndoesModel", "safeOf", "(I)I"⟩, 23) := ⟨⟨by decide +kernel, by decide +kernel⟩, List.mem_of_getElem? (i := 503) (by decide +kernel), List.mem_of_getElem? (i := 784) (by decide +kernel), List.mem_of_getElem? (i := 785) (by decide +kernel)⟩
theorem lw_p61 : lw_okq (⟨"EachUndoesModel", "afterAny", "(II)I"⟩, 23) := ⟨⟨by decide +kernel, by decide +kernel⟩, List.mem_of_getElem? (i := 503) (by decide +kernel), List.mem_of_getElem? (i := 788) (by decide +kernel), List.mem_of_getElem? (i := 789) (by decide +kernel)⟩
theorem lw_p62 : lw_okq (⟨"EachUndoesModel", "lastOf", "(III)I"⟩, 23) := ⟨⟨by decide +kernel, by decide +kernel⟩, List.mem_of_getElem? (i := 503) (by decide +kernel), List.mem_of_getElem? (i := 796) (by decide +kernel), List.mem_of_getElem? (i := 797) (by decide +kernel)⟩
theorem lw_p63 : lw_okq (⟨"EachUndoesModel", "answers", "(II)V"⟩, 23) := ⟨⟨by decide +kernel, by decide +kernel⟩, List.mem_of_getElem? (i := 503) (by decide +kernel), List.mem_of_getElem? (i := 800) (by decide +kernel), List.mem_of_getElem? (i := 801) (by decide +kernel)⟩
def lw_privs_4 : List (MethodName × Nat) := [(⟨"EachUndoesModel", "isLawful", "(I)Z"⟩, 23), (⟨"EachUndoesModel", "holding", "(I)I"⟩, 23), (⟨"EachUndoesModel", "stateOf", "(II)I"⟩, 23), (⟨"EachUndoesModel", "standing", "(I)I"⟩, 23), (⟨"EachUndoesModel", "struck", "(I)I"⟩, 23), (⟨"EachUndoesModel", "rootOf", "(I)I"⟩, 23), (⟨"EachUndoesModel", "byOf", "(I)I"⟩, 23), (⟨"EachUndoesModel", "withoutOf", "(II)I"⟩, 23), (⟨"EachUndoesModel", "fewestOf", "(IIII)I"⟩, 23), (⟨"EachUndoesModel", "isSo", "(III)Z"⟩, 23), (⟨"EachUndoesModel", "adds", "(II)Z"⟩, 23), (⟨"EachUndoesModel", "canBe", "(III)Z"⟩, 23), (⟨"EachUndoesModel", "safeOf", "(I)I"⟩, 23), (⟨"EachUndoesModel", "afterAny", "(II)I"⟩, 23), (⟨"EachUndoesModel", "lastOf", "(III)I"⟩, 23), (⟨"EachUndoesModel", "answers", "(II)V"⟩, 23)]
theorem lw_r4 : ∀ q ∈ lw_privs_4, lw_okq q := List.forall_mem_cons.mpr ⟨lw_p48, List.forall_mem_cons.mpr ⟨lw_p49, List.forall_mem_cons.mpr ⟨lw_p50, List.forall_mem_cons.mpr ⟨lw_p51, List.forall_mem_cons.mpr ⟨lw_p52, List.forall_mem_cons.mpr ⟨lw_p53, List.forall_mem_cons.mpr ⟨lw_p54, List.forall_mem_cons.mpr ⟨lw_p55, List.forall_mem_cons.mpr ⟨lw_p56, List.forall_mem_cons.mpr ⟨lw_p57, List.forall_mem_cons.mpr ⟨lw_p58, List.forall_mem_cons.mpr ⟨lw_p59, List.forall_mem_cons.mpr ⟨lw_p60, List.forall_mem_cons.mpr ⟨lw_p61, List.forall_mem_cons.mpr ⟨lw_p62, List.forall_mem_cons.mpr ⟨lw_p63, fun _ h => absurd h List.not_mem_nil⟩⟩⟩⟩⟩⟩⟩⟩⟩⟩⟩⟩⟩⟩⟩⟩
theorem lw_p64 : lw_okq (⟨"EachUndoesModel", "worthOf", "(II)I"⟩, 23) := ⟨⟨by decide +kernel, by decide +kernel⟩, List.mem_of_getElem? (i := 503) (by decide +kernel), List.mem_of_getElem? (i := 804) (by decide +kernel), List.mem_of_getElem? (i := 805) (by decide +kernel)⟩
theorem lw_p65 : lw_okq (⟨"EachUndoesModel", "oftenNow", "()I"⟩, 23) := ⟨⟨by decide +kernel, by decide +kernel⟩, List.mem_of_getElem? (i := 503) (by decide +kernel), List.mem_of_getElem? (i := 820) (by decide +kernel), List.mem_of_getElem? (i := 821) (by decide +kernel)⟩
theorem lw_p66 : lw_okq (⟨"EachUndoesModel", "drawnOf", "(III)I"⟩, 23) := ⟨⟨by decide +kernel, by decide +kernel⟩, List.mem_of_getElem? (i := 503) (by decide +kernel), List.mem_of_getElem? (i := 829) (by decide +kernel), List.mem_of_getElem? (i := 830) (by decide +kernel)⟩
theorem lw_p67 : lw_okq (⟨"EachUndoesModel", "lot", "(I)I"⟩, 23) := ⟨⟨by decide +kernel, by decide +kernel⟩, List.mem_of_getElem? (i := 503) (by decide +kernel), List.mem_of_getElem? (i := 833) (by decide +kernel), List.mem_of_getElem? (i := 834) (by decide +kernel)⟩
theorem lw_p68 : lw_okq (⟨"EachUndoesModel", "ofOthers", "(I)I"⟩, 23) := ⟨⟨by decide +kernel, by decide +kernel⟩, List.mem_of_getElem? (i := 503) (by decide +kernel), List.mem_of_getElem? (i := 841) (by decide +kernel), List.mem_of_getElem? (i := 842) (by decide +kernel)⟩
def lw_privs_5 : List (MethodName × Nat) := [(⟨"EachUndoesModel", "worthOf", "(II)I"⟩, 23), (⟨"EachUndoesModel", "oftenNow", "()I"⟩, 23), (⟨"EachUndoesModel", "drawnOf", "(III)I"⟩, 23), (⟨"EachUndoesModel", "lot", "(I)I"⟩, 23), (⟨"EachUndoesModel", "ofOthers", "(I)I"⟩, 23)]
theorem lw_r5 : ∀ q ∈ lw_privs_5, lw_okq q := List.forall_mem_cons.mpr ⟨lw_p64, List.forall_mem_cons.mpr ⟨lw_p65, List.forall_mem_cons.mpr ⟨lw_p66, List.forall_mem_cons.mpr ⟨lw_p67, List.forall_mem_cons.mpr ⟨lw_p68, fun _ h => absurd h List.not_mem_nil⟩⟩⟩⟩⟩
def lw_privs : List (MethodName × Nat) := lw_privs_1 ++ (lw_privs_2 ++ (lw_privs_3 ++ (lw_privs_4 ++ (lw_privs_5))))
def lw_tbl : List Cond := k2_sels lw_privs ++ tables_1
theorem lw_privs_ok : ∀ q ∈ lw_privs, lw_okq q := by
  show ∀ q ∈ lw_privs_1 ++ (lw_privs_2 ++ (lw_privs_3 ++ (lw_privs_4 ++ (lw_privs_5)))), lw_okq q
  exact List.forall_mem_append.mpr ⟨lw_r1, List.forall_mem_append.mpr ⟨lw_r2, List.forall_mem_append.mpr ⟨lw_r3, List.forall_mem_append.mpr ⟨lw_r4, lw_r5⟩⟩⟩⟩
-- ===== end of PART A; then your names; then what follows =====
end
section
/-! ===== BEGIN words of one list among another's, by their places ===== -/
theorem goodIn_r {big : List Cond} (ws : List Cond) (ps : List Nat) (hp : ws = ps.filterMap (fun i => big[i]?)) (h : ws.all goodWord = true) : GoodIn big ws := by
  intro w hw
  have h1 := List.all_eq_true.mp h w hw
  rw [hp] at hw
  obtain ⟨i, -, hi⟩ := List.mem_filterMap.mp hw
  have hm : w ∈ big := by first | exact List.mem_of_getElem? hi | exact List.getElem?_mem hi
  exact ⟨hm, good_of_word h1⟩
theorem goodIn_app {big a b : List Cond} (ha : GoodIn big a) (hb : GoodIn big b) : GoodIn big (a ++ b) := fun w h => (List.mem_append.mp h).elim (ha w) (hb w)
theorem goodIn_ca {big a b : List Cond} {c : Cond} (ha : GoodIn big (c :: a)) (hb : GoodIn big b) : GoodIn big (c :: (a ++ b)) := fun w h => (List.mem_cons.mp h).elim (fun e => ha w (List.mem_cons.mpr (Or.inl e))) (fun h => (List.mem_append.mp h).elim (fun h => ha w (List.mem_cons.mpr (Or.inr h))) (hb w))
theorem goodIn_sub {big ws : List Cond} (hm : ∀ w ∈ ws, w ∈ big) (h : ws.all goodWord = true) : GoodIn big ws := fun w hw => ⟨hm w hw, good_of_word (List.all_eq_true.mp h w hw)⟩
/-! ===== END ===== -/

/-! ===== BEGIN new T[n][m]: the outer array a place, the inner ones among the pooled ===== -/
/-- f, but v at every address of l -/
def vr_up {α : Type} (f : Nat → α) (l : List Nat) (v : α) : Nat → α := fun a => if a ∈ l then v else f a
theorem vr_up_in {α : Type} {f : Nat → α} {l : List Nat} {v : α} {a : Nat} (h : a ∈ l) : vr_up f l v a = v := if_pos h
theorem vr_up_ne {α : Type} {f : Nat → α} {l : List Nat} {v : α} {a : Nat} (h : a ∉ l) : vr_up f l v a = f a := if_neg h
theorem vr_rows {L l : List Nat} {f : Nat → va_E} {e : va_E} (h : ∀ a, a ∈ l → a ∉ L) : va_pl L f ++ l.map (fun a => (a, e)) = va_pl (L ++ l) (vr_up f l e) := by
  unfold va_pl
  rw [List.map_append]
  congr 1
  · apply List.map_congr_left
    intro a ha
    rw [vr_up_ne (fun q => h a q ha)]
  · apply List.map_congr_left
    intro a ha
    rw [vr_up_in ha]
theorem vr_lay {X rows : va_W} {x : Nat × va_E} {pl : va_W} {D : va_G} {cl : List vw_C} {H : Heap} (hP : va_P D cl (((X ++ pl) ++ [x]) ++ rows) H) : va_P D cl ((X ++ [x]) ++ (pl ++ rows)) H := by
  rw [List.append_assoc (X ++ pl)] at hP
  have h := va_P.swap hP
  rw [← List.append_assoc X] at h
  have h2 := va_P.swap h
  rw [List.append_assoc (X ++ [x])] at h2
  exact h2
theorem vr_layD {X rows : va_W} {x : Nat × va_E} {pl : va_W} {A : Nat → Prop} (hD : va_D A (((X ++ pl) ++ [x]) ++ rows)) : va_D A ((X ++ [x]) ++ (pl ++ rows)) := by
  rw [List.append_assoc (X ++ pl)] at hD
  have h := va_D.swap hD
  rw [← List.append_assoc X] at h
  have h2 := va_D.swap h
  rw [List.append_assoc (X ++ [x])] at h2
  exact h2
theorem vr_outer (c : ClassId) (N h0 : Nat) : ∀ i : Nat, Jvm.Free.Multi.outerC c N h0 i = arrV c N (fun j => va_rf (if j < i then some (h0 + 1 + j) else none))
  | 0 => by
    show ({ cls := c, slots := Array.replicate N .null, vm := .none } : Cell) = _
    rw [arrV_new]
    refine congrArg (arrV c N) (funext fun j => ?_)
    simp [va_rf]
  | i + 1 => by
    show (Jvm.Free.Multi.outerC c N h0 i).setSlot i (.ref (h0 + 1 + i)) = _
    rw [vr_outer c N h0 i, arrV_store]
    refine congrArg (arrV c N) (funext fun j => ?_)
    by_cases e : j = i
    · subst e
      simp [updV, va_rf]
    · by_cases h : j < i
      · simp [updV, e, h, Nat.lt_succ_of_lt h]
      · simp [updV, e, h, show ¬ j < i + 1 by omega]
def va_AOA (t : FieldType) (U : State) : Prop := (Cond.arrayOver (.array t)).before #[] U = true
theorem va_AOA.of {t : FieldType} {A : Array Value} {U : State} (h : (Cond.arrayOver (.array t)).before A U = true) : va_AOA t U := h
theorem va_AOA.use {t : FieldType} {A : Array Value} {U : State} (h : va_AOA t U) : (Cond.arrayOver (.array t)).before A U = true := h
section VGM
variable {p : Program} {l : Launch} {e : Env} {R : Room} {s : State} {m : MethodId} {args : Array Value} {below : List Frame} {meth : Method} {c : Code} {H : Heap} {locs : List Loc} {cells slots : Nat} {Q : State → Prop}
variable {cc : ByteArray} {pc : Nat} {ls : Array Slot} {rest : List Value} {D : va_G} {cl : List vw_C} {A : Nat → Prop} {a : Nat} {tys : List (ClassId × FieldType)} {ws : va_W} {H0 : Heap}
theorem va_mna {X : va_W} {L : List Nat} {f : Nat → va_E} {cc : ByteArray} (hexec : p.tables.exec = Jvm.exec) (hb : c.code = cc) {own : String} {index : Nat} {ty : FieldType} {cy : ClassId} (hown : s.vm.findClass own = some m.cls) (hclink : (Cond.classLink own index ("[" ++ (FieldType.array ty).toString)).before args s = true) (hover : va_AOA ty s) (harr : (Cond.arrayClass ty).before args s = true) (hcy : s.vm.findClass (FieldType.array ty).toString = some cy)
    (hK : va_K D cl tys s) (hP : va_P D cl (X ++ va_pl L f) H) (hD : va_D A (X ++ va_pl L f)) (hS : va_S A H0 H locs) (hA : ∀ q, H0.size ≤ q → A q) {n k : Int32} {N' K' : Nat} {z : vp_A} (hn : ¬ n < 0) (hk : ¬ k < 0) (hN : n.toNatClampNeg = N') (hM : k.toNatClampNeg = K')
    (hb1 : N' * 4 ≤ 536870912) (hb2 : K' * componentBytes ty ≤ 536870912) (hb3 : K' ≤ 536870912) (hdf : fits ty (defaultValue ty) = true) (hdd : (defaultValue ty).isDefault = true) (hcells : cells + (1 + N') ≤ R.cells) (hslots : slots + (N' + N' * K') ≤ R.slots) (hz : ∀ c : ClassId, Jvm.Free.Multi.innerC c K' (defaultValue ty) = vp_cell c z) (hdg : decode cc pc = .ok (.multianewarray index 2, 4))
    (kk : ∀ (q : Nat) (r : Nat → Nat) (cA : ClassId) (H1 : Heap), (∀ i j : Nat, i < N' → j < N' → r i = r j → i = j) → (∀ i : Nat, i < N' → r i ∉ L) → va_K D cl (tys ++ [(cA, .array ty)]) s →
      va_P D cl ((X ++ [(q, .inl (cA, N', .inr (.inr (.inr (.inr (fun i => if i < N' then some (r i) else none))))))]) ++ va_pl (L ++ (List.range N').map r) (vr_up f ((List.range N').map r) (.inl (cy, z)))) H1 → va_D A ((X ++ [(q, .inl (cA, N', .inr (.inr (.inr (.inr (fun i => if i < N' then some (r i) else none))))))]) ++ va_pl (L ++ (List.range N').map r) (vr_up f ((List.range N').map r) (.inl (cy, z)))) → va_S A H0 H1 locs →
      W p l e R s m args below meth c H1 locs (cells + 1 + N') (slots + N' + N' * K') Q (F0 m (pc + 4) ls (.ref q :: rest))) : W p l e R s m args below meth c H locs cells slots Q (F0 m pc ls (.int k :: .int n :: rest)) := by
  subst hN
  subst hM
  intro T hT Xs
  obtain ⟨vm₁, cA, comp, -, fA, fC, hO, -, X', step⟩ := Xs.multianewarray2F hexec hown hclink (va_AOA.use hover) harr (g := F0 m pc ls (.int k :: .int n :: rest)) rfl (by rw [hb]; exact hdg) rfl hn hk hb1 hb2 hb3 hdf hdd hcells hslots
  have ec : some cy = some comp := hcy.symm.trans fC
  cases ec
  generalize hF : Jvm.Free.Multi.fill (T.setVm vm₁) cA cy n.toNatClampNeg k.toNatClampNeg (defaultValue ty) n.toNatClampNeg = F at X' step
  have hTh : (T.setVm vm₁).heap = H := hT
  obtain ⟨f1, f2, -, -⟩ := Jvm.Free.Multi.fill_facts (T.setVm vm₁) cA cy n.toNatClampNeg k.toNatClampNeg (defaultValue ty) n.toNatClampNeg
  rw [hF, hTh] at f1 f2
  have hold : ∀ x : Nat, x < H.size → F.heap[x]? = H[x]? := fun x hx => by
    have := Jvm.Free.Multi.fill_old (T.setVm vm₁) cA cy n.toNatClampNeg k.toNatClampNeg (defaultValue ty) (a := x) (by rw [hTh]; exact hx) n.toNatClampNeg
    rw [hF, hTh] at this
    exact this
  have hrow : ∀ j : Nat, j < n.toNatClampNeg → F.heap[H.size + 1 + j]? = some (vp_cell cy z) := fun j hj => by
    have := Jvm.Free.Multi.fill_inner (T.setVm vm₁) cA cy n.toNatClampNeg k.toNatClampNeg (defaultValue ty) n.toNatClampNeg j hj
    rw [hF, hTh, hz] at this
    exact this
  have hout : Jvm.Free.Multi.outerC cA n.toNatClampNeg H.size n.toNatClampNeg = vp_cell cA (n.toNatClampNeg, .inr (.inr (.inr (.inr (fun i => if i < n.toNatClampNeg then some (H.size + 1 + i) else none))))) := by
    rw [vp_cell_q]
    exact vr_outer cA n.toNatClampNeg H.size n.toNatClampNeg
  rw [hout] at f2
  have hlt : ∀ a, a ∈ L → a < H.size := fun a ha => by
    obtain ⟨k9, hk9⟩ := va_pl_get (X := X) (f := f) ha
    exact (hP k9 _ hk9).lt
  have hnl : ∀ i : Nat, i < n.toNatClampNeg → H.size + 1 + i ∉ L := fun i _ h => by
    have := hlt _ h
    omega
  have hnm : ∀ a, a ∈ (List.range n.toNatClampNeg).map (fun i => H.size + 1 + i) → a ∉ L := fun a ha h => by
    obtain ⟨i, -, rfl⟩ := List.mem_map.mp ha
    have := hlt _ h
    omega
  have hP0 : va_P D cl (X ++ va_pl L f) F.heap := hP.kept (fun k9 x hx => hold x.1 ((hP k9 x hx).lt))
  have hP1 : va_P D cl ((X ++ va_pl L f) ++ [(H.size, .inl (cA, n.toNatClampNeg, .inr (.inr (.inr (.inr (fun i => if i < n.toNatClampNeg then some (H.size + 1 + i) else none))))))]) F.heap := hP0.app (fun k9 x hx => by
    have h0 : k9 < 1 := (List.getElem?_eq_some_iff.mp hx).1
    rw [show k9 = 0 by omega] at hx
    cases hx
    exact f2)
  have hP2 : va_P D cl (((X ++ va_pl L f) ++ [(H.size, .inl (cA, n.toNatClampNeg, .inr (.inr (.inr (.inr (fun i => if i < n.toNatClampNeg then some (H.size + 1 + i) else none))))))]) ++ ((List.range n.toNatClampNeg).map (fun i => H.size + 1 + i)).map (fun a => (a, .inl (cy, z)))) F.heap := hP1.app (fun k9 x hx => by
    obtain ⟨a, ha, rfl⟩ := List.mem_map.mp (List.mem_of_getElem? hx)
    obtain ⟨i, hi, rfl⟩ := List.mem_map.mp ha
    exact hrow i (List.mem_range.mp hi))
  have hD2 : va_D A (((X ++ va_pl L f) ++ [(H.size, .inl (cA, n.toNatClampNeg, .inr (.inr (.inr (.inr (fun i => if i < n.toNatClampNeg then some (H.size + 1 + i) else none))))))]) ++ ((List.range n.toNatClampNeg).map (fun i => H.size + 1 + i)).map (fun a => (a, .inl (cy, z)))) := by
    have hD1 := hD.push (e := .inl (cA, n.toNatClampNeg, .inr (.inr (.inr (.inr (fun i => if i < n.toNatClampNeg then some (H.size + 1 + i) else none)))))) hP rfl (hA _ hS.1)
    generalize hW1 : (X ++ va_pl L f) ++ [(H.size, .inl (cA, n.toNatClampNeg, .inr (.inr (.inr (.inr (fun i => if i < n.toNatClampNeg then some (H.size + 1 + i) else none))))))] = W1 at hD1 hP1 ⊢
    have hle : ∀ (k9 : Nat) (x : Nat × va_E), W1[k9]? = some x → x.1 ≤ H.size := fun k9 x hx => by
      rw [← hW1] at hx
      by_cases hl : k9 < (X ++ va_pl L f).length
      · rw [List.getElem?_append_left hl] at hx
        exact Nat.le_of_lt ((hP k9 x hx).lt)
      · rw [List.getElem?_append_right (by omega)] at hx
        have h0 : k9 - (X ++ va_pl L f).length < 1 := (List.getElem?_eq_some_iff.mp hx).1
        rw [show k9 - (X ++ va_pl L f).length = 0 by omega] at hx
        cases hx
        exact Nat.le_refl _
    have hr : ∀ (k9 : Nat) (x : Nat × va_E), (((List.range n.toNatClampNeg).map (fun i => H.size + 1 + i)).map (fun a => ((a, .inl (cy, z)) : Nat × va_E)))[k9]? = some x → x.1 = H.size + 1 + k9 := fun k9 x hx => by
      rw [List.getElem?_map, List.getElem?_map] at hx
      by_cases h9 : k9 < n.toNatClampNeg
      · rw [List.getElem?_range h9] at hx
        cases hx
        rfl
      · have hn0 : (List.range n.toNatClampNeg)[k9]? = none := List.getElem?_eq_none (by rw [List.length_range]; omega)
        rw [hn0] at hx
        cases hx
    refine ⟨fun i j x y hi hj hxy => ?_, fun k9 x hx => ?_⟩
    · by_cases h1 : i < W1.length <;> by_cases h2 : j < W1.length
      · rw [List.getElem?_append_left h1] at hi
        rw [List.getElem?_append_left h2] at hj
        exact hD1.1 i j x y hi hj hxy
      · rw [List.getElem?_append_left h1] at hi
        rw [List.getElem?_append_right (by omega)] at hj
        have := hle _ _ hi
        have := hr _ _ hj
        omega
      · rw [List.getElem?_append_right (by omega)] at hi
        rw [List.getElem?_append_left h2] at hj
        have := hle _ _ hj
        have := hr _ _ hi
        omega
      · rw [List.getElem?_append_right (by omega)] at hi hj
        have := hr _ _ hi
        have := hr _ _ hj
        omega
    · by_cases h1 : k9 < W1.length
      · rw [List.getElem?_append_left h1] at hx
        exact hD1.2 k9 x hx
      · rw [List.getElem?_append_right (by omega)] at hx
        have := hr _ _ hx
        exact hA _ (by have := hS.1; omega)
  have hAr : ArrOfT s cA (.array ty) := fun N9 z9 => by
    obtain ⟨-, k9, hk9, cm9, hkk9⟩ := (hO 0 0 0).1
    exact ⟨(fun q hq => by cases hq), k9, hk9, cm9, hkk9⟩
  have hK2 : va_K D cl (tys ++ [(cA, .array ty)]) s := ⟨hK.1, fun k9 x hx => by
    by_cases hl : k9 < tys.length
    · rw [List.getElem?_append_left hl] at hx
      exact hK.2 k9 x hx
    · rw [List.getElem?_append_right (by omega)] at hx
      have h0 : k9 - tys.length < 1 := (List.getElem?_eq_some_iff.mp hx).1
      rw [show k9 - tys.length = 0 by omega] at hx
      cases hx
      exact ⟨hAr, fA⟩⟩
  obtain ⟨t, a1, b1⟩ := kk H.size (fun i => H.size + 1 + i) cA F.heap (fun i j _ _ h => by have h9 : H.size + 1 + i = H.size + 1 + j := h; omega) hnl hK2 (by rw [← vr_rows hnm]; exact vr_lay hP2) (by rw [← vr_rows hnm]; exact vr_layD hD2) ⟨by rw [f1]; have := hS.1; omega, fun x h1 h2 => (hold x (Nat.lt_of_lt_of_le h1 hS.1)).trans (hS.2.1 x h1 h2), hS.2.2⟩ F rfl X'
  refine ⟨t, step t ?_, b1⟩
  have e : T.heap.size = H.size := by rw [hT]
  rw [e]
  exact a1
end VGM
/-! ===== END ===== -/

/-! ===== BEGIN printed: names, fields, word lists, decode rows ===== -/
def RX0 : String := "EachUndoes$Deeds"
def TX0 : u_T := fun k => match k with
  | 0 => ("EachUndoes$Deeds", "bytes", "[I", true)
  | 1 => ("EachUndoes$Deeds", "doers", "[I", true)
  | 2 => ("EachUndoes$Deeds", "sources", "[I", true)
  | 3 => ("EachUndoes$Deeds", "length", "I", false)
  | 4 => ("EachUndoes$Deeds", "total", "I", false)
  | 5 => ("EachUndoes$Deeds", "own", "I", false)
  | _ => ("EachUndoes$Deeds", "fault", "I", false)
def tyX0 : Nat → FieldType := fun k => match k with
  | 0 => .array .int
  | 1 => .array .int
  | 2 => .array .int
  | 3 => .int
  | 4 => .int
  | 5 => .int
  | _ => .int
abbrev wsX00 : List Cond := u_ws RX0 TX0 7
theorem nmX0 : ∀ a, a < 7 → ∀ b, b < 7 → a ≠ b → (TX0 a).2.1 ≠ (TX0 b).2.1 := by decide +kernel
theorem tyX0_ok : ∀ k, k < 7 → parseFieldDescriptor (TX0 k).2.2.1 = some (tyX0 k) := by decide +kernel
abbrev cX0_init : ByteArray := prog_2_method_1_code
def yX0_init : MethodName := ⟨RX0, "<init>", "()V"⟩
abbrev cX0_append : ByteArray := prog_2_method_2_code
def yX0_append : MethodName := ⟨RX0, "append", "(I)I"⟩
abbrev cX0_clear : ByteArray := prog_2_method_3_code
def yX0_clear : MethodName := ⟨RX0, "clear", "()I"⟩
abbrev cX0_parse : ByteArray := prog_2_method_4_code
def yX0_parse : MethodName := ⟨RX0, "parse", "()V"⟩
abbrev cX0_begin : ByteArray := prog_2_method_5_code
def yX0_begin : MethodName := ⟨RX0, "begin", "(I)I"⟩
abbrev cX0_goOn : ByteArray := prog_2_method_6_code
def yX0_goOn : MethodName := ⟨RX0, "goOn", "(II)I"⟩
abbrev cX0_standing : ByteArray := prog_2_method_7_code
def yX0_standing : MethodName := ⟨RX0, "standing", "(I)I"⟩
abbrev cX0_fallen : ByteArray := prog_2_method_8_code
def yX0_fallen : MethodName := ⟨RX0, "fallen", "(I)I"⟩
abbrev cX0_rootOf : ByteArray := prog_2_method_9_code
def yX0_rootOf : MethodName := ⟨RX0, "rootOf", "(II)I"⟩
abbrev cX0_doneBy : ByteArray := prog_2_method_10_code
def yX0_doneBy : MethodName := ⟨RX0, "doneBy", "(I)I"⟩
def RX1 : String := "EachUndoes$Outlook"
def TX1 : u_T := fun k => match k with
  | 0 => ("EachUndoes$Outlook", "undoings", "LEachUndoes$Undoings;", true)
  | 1 => ("EachUndoes$Outlook", "deeds", "LEachUndoes$Deeds;", true)
  | 2 => ("EachUndoes$Outlook", "worths", "[[I", true)
  | 3 => ("EachUndoes$Outlook", "law", "I", false)
  | 4 => ("EachUndoes$Outlook", "unspent", "I", false)
  | 5 => ("EachUndoes$Outlook", "drawnDeeds", "I", false)
  | 6 => ("EachUndoes$Outlook", "drawnTotal", "I", false)
  | _ => ("EachUndoes$Outlook", "seed", "I", false)
def tyX1 : Nat → FieldType := fun k => match k with
  | 0 => .object "EachUndoes$Undoings"
  | 1 => .object "EachUndoes$Deeds"
  | 2 => .array (.array .int)
  | 3 => .int
  | 4 => .int
  | 5 => .int
  | 6 => .int
  | _ => .int
abbrev wsX10 : List Cond := u_ws RX1 TX1 8
theorem nmX1 : ∀ a, a < 8 → ∀ b, b < 8 → a ≠ b → (TX1 a).2.1 ≠ (TX1 b).2.1 := by decide +kernel
theorem tyX1_ok : ∀ k, k < 8 → parseFieldDescriptor (TX1 k).2.2.1 = some (tyX1 k) := by decide +kernel
abbrev cX1_init : ByteArray := prog_3_method_1_code
def yX1_init : MethodName := ⟨RX1, "<init>", "()V"⟩
abbrev cX1_renew : ByteArray := prog_3_method_2_code
def yX1_renew : MethodName := ⟨RX1, "renew", "()V"⟩
abbrev cX1_standingWith : ByteArray := prog_3_method_3_code
def yX1_standingWith : MethodName := ⟨RX1, "standingWith", "(II)I"⟩
abbrev cX1_isAsTold : ByteArray := prog_3_method_4_code
def yX1_isAsTold : MethodName := ⟨RX1, "isAsTold", "(III)Z"⟩
abbrev cX1_takersOf : ByteArray := prog_3_method_5_code
def yX1_takersOf : MethodName := ⟨RX1, "takersOf", "(I)I"⟩
abbrev cX1_leastTaker : ByteArray := prog_3_method_6_code
def yX1_leastTaker : MethodName := ⟨RX1, "leastTaker", "(II)I"⟩
abbrev cX1_leastFirst : ByteArray := prog_3_method_7_code
def yX1_leastFirst : MethodName := ⟨RX1, "leastFirst", "(III)I"⟩
abbrev cX1_lasting : ByteArray := prog_3_method_8_code
def yX1_lasting : MethodName := ⟨RX1, "lasting", "(I)I"⟩
abbrev cX1_bestMove : ByteArray := prog_3_method_9_code
def yX1_bestMove : MethodName := ⟨RX1, "bestMove", "(II)I"⟩
abbrev cX1_bestReply : ByteArray := prog_3_method_10_code
def yX1_bestReply : MethodName := ⟨RX1, "bestReply", "(II)I"⟩
abbrev cX1_canTake : ByteArray := prog_3_method_11_code
def yX1_canTake : MethodName := ⟨RX1, "canTake", "(III)Z"⟩
abbrev cX1_worthOf : ByteArray := prog_3_method_12_code
def yX1_worthOf : MethodName := ⟨RX1, "worthOf", "(II)I"⟩
abbrev cX1_draw : ByteArray := prog_3_method_13_code
def yX1_draw : MethodName := ⟨RX1, "draw", "(II)V"⟩
abbrev cX1_lotOf : ByteArray := prog_3_method_14_code
def yX1_lotOf : MethodName := ⟨RX1, "lotOf", "(I)I"⟩
def RX2 : String := "EachUndoes$Sheet"
def TX2 : u_T := fun k => match k with
  | 0 => ("EachUndoes$Sheet", "items", "[I", true)
  | 1 => ("EachUndoes$Sheet", "isLost", "Z", false)
  | 2 => ("EachUndoes$Sheet", "form", "I", false)
  | _ => ("EachUndoes$Sheet", "size", "I", false)
def tyX2 : Nat → FieldType := fun k => match k with
  | 0 => .array .int
  | 1 => .boolean
  | 2 => .int
  | _ => .int
abbrev wsX20 : List Cond := u_ws RX2 TX2 4
theorem nmX2 : ∀ a, a < 4 → ∀ b, b < 4 → a ≠ b → (TX2 a).2.1 ≠ (TX2 b).2.1 := by decide +kernel
theorem tyX2_ok : ∀ k, k < 4 → parseFieldDescriptor (TX2 k).2.2.1 = some (tyX2 k) := by decide +kernel
abbrev cX2_init : ByteArray := prog_4_method_1_code
def yX2_init : MethodName := ⟨RX2, "<init>", "()V"⟩
abbrev cX2_begin : ByteArray := prog_4_method_2_code
def yX2_begin : MethodName := ⟨RX2, "begin", "(II)V"⟩
abbrev cX2_findingAt : ByteArray := prog_4_method_3_code
def yX2_findingAt : MethodName := ⟨RX2, "findingAt", "(II)I"⟩
abbrev cX2_hasItems : ByteArray := prog_4_method_4_code
def yX2_hasItems : MethodName := ⟨RX2, "hasItems", "(II)Z"⟩
abbrev cX2_put : ByteArray := prog_4_method_5_code
def yX2_put : MethodName := ⟨RX2, "put", "(II)V"⟩
def RX3 : String := "EachUndoes$Undoings"
def TX3 : u_T := fun k => match k with
  | 0 => ("EachUndoes$Undoings", "deeds", "LEachUndoes$Deeds;", true)
  | 1 => ("EachUndoes$Undoings", "persons", "[I", true)
  | 2 => ("EachUndoes$Undoings", "things", "[I", true)
  | _ => ("EachUndoes$Undoings", "total", "I", false)
def tyX3 : Nat → FieldType := fun k => match k with
  | 0 => .object "EachUndoes$Deeds"
  | 1 => .array .int
  | 2 => .array .int
  | _ => .int
abbrev wsX30 : List Cond := u_ws RX3 TX3 4
theorem nmX3 : ∀ a, a < 4 → ∀ b, b < 4 → a ≠ b → (TX3 a).2.1 ≠ (TX3 b).2.1 := by decide +kernel
theorem tyX3_ok : ∀ k, k < 4 → parseFieldDescriptor (TX3 k).2.2.1 = some (tyX3 k) := by decide +kernel
abbrev cX3_init : ByteArray := prog_5_method_1_code
def yX3_init : MethodName := ⟨RX3, "<init>", "()V"⟩
abbrev cX3_tell : ByteArray := prog_5_method_2_code
def yX3_tell : MethodName := ⟨RX3, "tell", "(II)Z"⟩
abbrev cX3_lawful : ByteArray := prog_5_method_3_code
def yX3_lawful : MethodName := ⟨RX3, "lawful", "(I)I"⟩
abbrev cX3_lawfulOfFirst : ByteArray := prog_5_method_4_code
def yX3_lawfulOfFirst : MethodName := ⟨RX3, "lawfulOfFirst", "(I)I"⟩
abbrev cX3_ownerOf : ByteArray := prog_5_method_5_code
def yX3_ownerOf : MethodName := ⟨RX3, "ownerOf", "(II)I"⟩
abbrev cX3_unspent : ByteArray := prog_5_method_6_code
def yX3_unspent : MethodName := ⟨RX3, "unspent", "(I)I"⟩
abbrev cX3_holding : ByteArray := prog_5_method_7_code
def yX3_holding : MethodName := ⟨RX3, "holding", "(I)I"⟩
abbrev cX3_undone : ByteArray := prog_5_method_8_code
def yX3_undone : MethodName := ⟨RX3, "undone", "(I)I"⟩
abbrev cX3_standing : ByteArray := prog_5_method_9_code
def yX3_standing : MethodName := ⟨RX3, "standing", "(I)I"⟩
def RX4 : String := "EachUndoes"
def TX4 : u_T := fun k => match k with
  | 0 => ("EachUndoes", "outlook", "LEachUndoes$Outlook;", true)
  | 1 => ("EachUndoes", "undoings", "LEachUndoes$Undoings;", true)
  | 2 => ("EachUndoes", "deeds", "LEachUndoes$Deeds;", true)
  | 3 => ("EachUndoes", "sheets", "[LEachUndoes$Sheet;", true)
  | 4 => ("EachUndoes", "seenTotal", "I", false)
  | 5 => ("EachUndoes", "seenStanding", "I", false)
  | 6 => ("EachUndoes", "seenMissing", "I", false)
  | _ => ("EachUndoes", "finding", "I", false)
def tyX4 : Nat → FieldType := fun k => match k with
  | 0 => .object "EachUndoes$Outlook"
  | 1 => .object "EachUndoes$Undoings"
  | 2 => .object "EachUndoes$Deeds"
  | 3 => .array (.object "EachUndoes$Sheet")
  | 4 => .int
  | 5 => .int
  | 6 => .int
  | _ => .int
abbrev wsX40 : List Cond := u_ws RX4 TX4 8
theorem nmX4 : ∀ a, a < 8 → ∀ b, b < 8 → a ≠ b → (TX4 a).2.1 ≠ (TX4 b).2.1 := by decide +kernel
theorem tyX4_ok : ∀ k, k < 8 → parseFieldDescriptor (TX4 k).2.2.1 = some (tyX4 k) := by decide +kernel
abbrev cX4_init : ByteArray := prog_1_method_1_code
def yX4_init : MethodName := ⟨RX4, "<init>", "()V"⟩
abbrev cX4_type : ByteArray := prog_1_method_2_code
def yX4_type : MethodName := ⟨RX4, "type", "(I)I"⟩
abbrev cX4_wipe : ByteArray := prog_1_method_3_code
def yX4_wipe : MethodName := ⟨RX4, "wipe", "()I"⟩
abbrev cX4_fault : ByteArray := prog_1_method_4_code
def yX4_fault : MethodName := ⟨RX4, "fault", "()I"⟩
abbrev cX4_deed : ByteArray := prog_1_method_5_code
def yX4_deed : MethodName := ⟨RX4, "deed", "(II)I"⟩
abbrev cX4_undoes : ByteArray := prog_1_method_6_code
def yX4_undoes : MethodName := ⟨RX4, "undoes", "(II)I"⟩
abbrev cX4_read : ByteArray := prog_1_method_7_code
def yX4_read : MethodName := ⟨RX4, "read", "(I)I"⟩
abbrev cX4_undo : ByteArray := prog_1_method_8_code
def yX4_undo : MethodName := ⟨RX4, "undo", "()I"⟩
abbrev cX4_worth : ByteArray := prog_1_method_9_code
def yX4_worth : MethodName := ⟨RX4, "worth", "(III)I"⟩
abbrev cX4_judged : ByteArray := prog_1_method_10_code
def yX4_judged : MethodName := ⟨RX4, "judged", "()I"⟩
abbrev cX4_holds : ByteArray := prog_1_method_11_code
def yX4_holds : MethodName := ⟨RX4, "holds", "(I)I"⟩
abbrev cX4_state : ByteArray := prog_1_method_12_code
def yX4_state : MethodName := ⟨RX4, "state", "(II)I"⟩
abbrev cX4_root : ByteArray := prog_1_method_13_code
def yX4_root : MethodName := ⟨RX4, "root", "(I)I"⟩
abbrev cX4_by : ByteArray := prog_1_method_14_code
def yX4_by : MethodName := ⟨RX4, "by", "(I)I"⟩
abbrev cX4_without : ByteArray := prog_1_method_15_code
def yX4_without : MethodName := ⟨RX4, "without", "(II)I"⟩
abbrev cX4_standingBehind : ByteArray := prog_1_method_16_code
def yX4_standingBehind : MethodName := ⟨RX4, "standingBehind", "(I)I"⟩
abbrev cX4_fewest : ByteArray := prog_1_method_17_code
def yX4_fewest : MethodName := ⟨RX4, "fewest", "(IIII)I"⟩
abbrev cX4_safe : ByteArray := prog_1_method_18_code
def yX4_safe : MethodName := ⟨RX4, "safe", "(I)I"⟩
abbrev cX4_last : ByteArray := prog_1_method_19_code
def yX4_last : MethodName := ⟨RX4, "last", "(III)I"⟩
abbrev cX4_seen : ByteArray := prog_1_method_20_code
def yX4_seen : MethodName := ⟨RX4, "seen", "(II)I"⟩
abbrev cX4_forget : ByteArray := prog_1_method_21_code
def yX4_forget : MethodName := ⟨RX4, "forget", "()I"⟩
abbrev cX4_often : ByteArray := prog_1_method_22_code
def yX4_often : MethodName := ⟨RX4, "often", "()I"⟩
abbrev cX4_drawn : ByteArray := prog_1_method_23_code
def yX4_drawn : MethodName := ⟨RX4, "drawn", "(III)I"⟩
abbrev cX4_sheet : ByteArray := prog_1_method_24_code
def yX4_sheet : MethodName := ⟨RX4, "sheet", "(III)I"⟩
abbrev cX4_lose : ByteArray := prog_1_method_25_code
def yX4_lose : MethodName := ⟨RX4, "lose", "(I)I"⟩
abbrev cX4_lay : ByteArray := prog_1_method_26_code
def yX4_lay : MethodName := ⟨RX4, "lay", "(IIII)I"⟩
abbrev cX4_get : ByteArray := prog_1_method_27_code
def yX4_get : MethodName := ⟨RX4, "get", "(III)I"⟩
abbrev cX4_copy : ByteArray := prog_1_method_28_code
def yX4_copy : MethodName := ⟨RX4, "copy", "(IIIII)I"⟩
abbrev cX4_write : ByteArray := prog_1_method_29_code
def yX4_write : MethodName := ⟨RX4, "write", "(I)I"⟩
abbrev cX4_count : ByteArray := prog_1_method_30_code
def yX4_count : MethodName := ⟨RX4, "count", "(I)I"⟩
abbrev cX4_digest : ByteArray := prog_1_method_31_code
def yX4_digest : MethodName := ⟨RX4, "digest", "()J"⟩
abbrev cX4_withDeeds : ByteArray := prog_1_method_32_code
def yX4_withDeeds : MethodName := ⟨RX4, "withDeeds", "(J)J"⟩
abbrev cX4_withUndoings : ByteArray := prog_1_method_33_code
def yX4_withUndoings : MethodName := ⟨RX4, "withUndoings", "(J)J"⟩
abbrev cX4_found : ByteArray := prog_1_method_34_code
def yX4_found : MethodName := ⟨RX4, "found", "(I)I"⟩
abbrev cX4_mixed : ByteArray := prog_1_method_35_code
def yX4_mixed : MethodName := ⟨RX4, "mixed", "(JJ)J"⟩
abbrev cX4_isBelow : ByteArray := prog_1_method_36_code
def yX4_isBelow : MethodName := ⟨RX4, "isBelow", "(II)Z"⟩
abbrev cX4_bitOf : ByteArray := prog_1_method_37_code
def yX4_bitOf : MethodName := ⟨RX4, "bitOf", "(II)I"⟩
abbrev cX4_firstBits : ByteArray := prog_1_method_38_code
def yX4_firstBits : MethodName := ⟨RX4, "firstBits", "(I)I"⟩
abbrev cX4_leastOf : ByteArray := prog_1_method_39_code
def yX4_leastOf : MethodName := ⟨RX4, "leastOf", "(I)I"⟩
def RX5 : String := "EachUndoesModel"
def TX5 : u_T := fun k => match k with
  | 0 => ("EachUndoesModel", "forms", "[I", true)
  | 1 => ("EachUndoesModel", "sizes", "[I", true)
  | 2 => ("EachUndoesModel", "items", "[I", true)
  | 3 => ("EachUndoesModel", "moved", "[I", true)
  | 4 => ("EachUndoesModel", "latest", "I", false)
  | 5 => ("EachUndoesModel", "text", "[I", true)
  | 6 => ("EachUndoesModel", "typed", "I", false)
  | 7 => ("EachUndoesModel", "at", "I", false)
  | 8 => ("EachUndoesModel", "deeds", "I", false)
  | 9 => ("EachUndoesModel", "deed", "[I", true)
  | 10 => ("EachUndoesModel", "undoings", "I", false)
  | 11 => ("EachUndoesModel", "told", "[I", true)
  | 12 => ("EachUndoesModel", "worths", "[I", true)
  | 13 => ("EachUndoesModel", "lawful", "[Z", true)
  | 14 => ("EachUndoesModel", "against", "I", false)
  | 15 => ("EachUndoesModel", "firstAgainst", "I", false)
  | 16 => ("EachUndoesModel", "spent", "I", false)
  | 17 => ("EachUndoesModel", "roots", "[I", true)
  | 18 => ("EachUndoesModel", "answer", "I", false)
  | 19 => ("EachUndoesModel", "answered", "I", false)
  | 20 => ("EachUndoesModel", "sights", "I", false)
  | 21 => ("EachUndoesModel", "seen", "[I", true)
  | _ => ("EachUndoesModel", "now", "I", false)
def tyX5 : Nat → FieldType := fun k => match k with
  | 0 => .array .int
  | 1 => .array .int
  | 2 => .array .int
  | 3 => .array .int
  | 4 => .int
  | 5 => .array .int
  | 6 => .int
  | 7 => .int
  | 8 => .int
  | 9 => .array .int
  | 10 => .int
  | 11 => .array .int
  | 12 => .array .int
  | 13 => .array .boolean
  | 14 => .int
  | 15 => .int
  | 16 => .int
  | 17 => .array .int
  | 18 => .int
  | 19 => .int
  | 20 => .int
  | 21 => .array .int
  | _ => .int
abbrev wsX50 : List Cond := u_ws RX5 TX5 23
theorem nmX5 : ∀ a, a < 23 → ∀ b, b < 23 → a ≠ b → (TX5 a).2.1 ≠ (TX5 b).2.1 := by decide +kernel
theorem tyX5_ok : ∀ k, k < 23 → parseFieldDescriptor (TX5 k).2.2.1 = some (tyX5 k) := by decide +kernel
abbrev cX5_init : ByteArray := prog_7_method_1_code
def yX5_init : MethodName := ⟨RX5, "<init>", "()V"⟩
abbrev cX5_in : ByteArray := prog_7_method_3_code
def yX5_in : MethodName := ⟨RX5, "in", "(JJJ)Z"⟩
abbrev cX5_isTwo : ByteArray := prog_7_method_4_code
def yX5_isTwo : MethodName := ⟨RX5, "isTwo", "(I)Z"⟩
abbrev cX5_isIn : ByteArray := prog_7_method_5_code
def yX5_isIn : MethodName := ⟨RX5, "isIn", "(II)Z"⟩
abbrev cX5_ones : ByteArray := prog_7_method_6_code
def yX5_ones : MethodName := ⟨RX5, "ones", "(I)I"⟩
abbrev cX5_met : ByteArray := prog_7_method_7_code
def yX5_met : MethodName := ⟨RX5, "met", "(I)I"⟩
abbrev cX5_isSheet : ByteArray := prog_7_method_8_code
def yX5_isSheet : MethodName := ⟨RX5, "isSheet", "(I)Z"⟩
abbrev cX5_sheet : ByteArray := prog_7_method_9_code
def yX5_sheet : MethodName := ⟨RX5, "sheet", "(III)I"⟩
abbrev cX5_lose : ByteArray := prog_7_method_10_code
def yX5_lose : MethodName := ⟨RX5, "lose", "(I)I"⟩
abbrev cX5_lacks : ByteArray := prog_7_method_11_code
def yX5_lacks : MethodName := ⟨RX5, "lacks", "(III)I"⟩
abbrev cX5_cut : ByteArray := prog_7_method_12_code
def yX5_cut : MethodName := ⟨RX5, "cut", "(II)I"⟩
abbrev cX5_lay : ByteArray := prog_7_method_13_code
def yX5_lay : MethodName := ⟨RX5, "lay", "(IIII)I"⟩
abbrev cX5_get : ByteArray := prog_7_method_14_code
def yX5_get : MethodName := ⟨RX5, "get", "(III)I"⟩
abbrev cX5_copy : ByteArray := prog_7_method_15_code
def yX5_copy : MethodName := ⟨RX5, "copy", "(IIIII)I"⟩
abbrev cX5_type : ByteArray := prog_7_method_16_code
def yX5_type : MethodName := ⟨RX5, "type", "(I)I"⟩
abbrev cX5_wipe : ByteArray := prog_7_method_17_code
def yX5_wipe : MethodName := ⟨RX5, "wipe", "()I"⟩
abbrev cX5_here : ByteArray := prog_7_method_18_code
def yX5_here : MethodName := ⟨RX5, "here", "()I"⟩
abbrev cX5_none : ByteArray := prog_7_method_19_code
def yX5_none : MethodName := ⟨RX5, "none", "()I"⟩
abbrev cX5_readsPart : ByteArray := prog_7_method_20_code
def yX5_readsPart : MethodName := ⟨RX5, "readsPart", "()Z"⟩
abbrev cX5_reads : ByteArray := prog_7_method_21_code
def yX5_reads : MethodName := ⟨RX5, "reads", "()I"⟩
abbrev cX5_fault : ByteArray := prog_7_method_22_code
def yX5_fault : MethodName := ⟨RX5, "fault", "()I"⟩
abbrev cX5_isDeed : ByteArray := prog_7_method_23_code
def yX5_isDeed : MethodName := ⟨RX5, "isDeed", "(I)Z"⟩
abbrev cX5_deed : ByteArray := prog_7_method_24_code
def yX5_deed : MethodName := ⟨RX5, "deed", "(II)I"⟩
abbrev cX5_undoes : ByteArray := prog_7_method_25_code
def yX5_undoes : MethodName := ⟨RX5, "undoes", "(II)I"⟩
abbrev cX5_tells : ByteArray := prog_7_method_26_code
def yX5_tells : MethodName := ⟨RX5, "tells", "(III)V"⟩
abbrev cX5_read : ByteArray := prog_7_method_27_code
def yX5_read : MethodName := ⟨RX5, "read", "(I)I"⟩
abbrev cX5_undo : ByteArray := prog_7_method_28_code
def yX5_undo : MethodName := ⟨RX5, "undo", "()I"⟩
abbrev cX5_worth : ByteArray := prog_7_method_29_code
def yX5_worth : MethodName := ⟨RX5, "worth", "(III)I"⟩
abbrev cX5_isLawful : ByteArray := prog_7_method_30_code
def yX5_isLawful : MethodName := ⟨RX5, "isLawful", "(I)Z"⟩
abbrev cX5_judges : ByteArray := prog_7_method_31_code
def yX5_judges : MethodName := ⟨RX5, "judges", "(II)V"⟩
abbrev cX5_find : ByteArray := prog_7_method_32_code
def yX5_find : MethodName := ⟨RX5, "find", "()V"⟩
abbrev cX5_judged : ByteArray := prog_7_method_33_code
def yX5_judged : MethodName := ⟨RX5, "judged", "()I"⟩
abbrev cX5_holding : ByteArray := prog_7_method_34_code
def yX5_holding : MethodName := ⟨RX5, "holding", "(I)I"⟩
abbrev cX5_struck : ByteArray := prog_7_method_35_code
def yX5_struck : MethodName := ⟨RX5, "struck", "(I)I"⟩
abbrev cX5_standing : ByteArray := prog_7_method_36_code
def yX5_standing : MethodName := ⟨RX5, "standing", "(I)I"⟩
abbrev cX5_holds : ByteArray := prog_7_method_37_code
def yX5_holds : MethodName := ⟨RX5, "holds", "(I)I"⟩
abbrev cX5_stateOf : ByteArray := prog_7_method_38_code
def yX5_stateOf : MethodName := ⟨RX5, "stateOf", "(II)I"⟩
abbrev cX5_state : ByteArray := prog_7_method_39_code
def yX5_state : MethodName := ⟨RX5, "state", "(II)I"⟩
abbrev cX5_rootOf : ByteArray := prog_7_method_40_code
def yX5_rootOf : MethodName := ⟨RX5, "rootOf", "(I)I"⟩
abbrev cX5_root : ByteArray := prog_7_method_41_code
def yX5_root : MethodName := ⟨RX5, "root", "(I)I"⟩
abbrev cX5_byOf : ByteArray := prog_7_method_42_code
def yX5_byOf : MethodName := ⟨RX5, "byOf", "(I)I"⟩
abbrev cX5_by : ByteArray := prog_7_method_43_code
def yX5_by : MethodName := ⟨RX5, "by", "(I)I"⟩
abbrev cX5_least : ByteArray := prog_7_method_44_code
def yX5_least : MethodName := ⟨RX5, "least", "(I)I"⟩
abbrev cX5_withoutOf : ByteArray := prog_7_method_45_code
def yX5_withoutOf : MethodName := ⟨RX5, "withoutOf", "(II)I"⟩
abbrev cX5_without : ByteArray := prog_7_method_46_code
def yX5_without : MethodName := ⟨RX5, "without", "(II)I"⟩
abbrev cX5_adds : ByteArray := prog_7_method_47_code
def yX5_adds : MethodName := ⟨RX5, "adds", "(II)Z"⟩
abbrev cX5_isSo : ByteArray := prog_7_method_48_code
def yX5_isSo : MethodName := ⟨RX5, "isSo", "(III)Z"⟩
abbrev cX5_canBe : ByteArray := prog_7_method_49_code
def yX5_canBe : MethodName := ⟨RX5, "canBe", "(III)Z"⟩
abbrev cX5_fewestOf : ByteArray := prog_7_method_50_code
def yX5_fewestOf : MethodName := ⟨RX5, "fewestOf", "(IIII)I"⟩
abbrev cX5_fewest : ByteArray := prog_7_method_51_code
def yX5_fewest : MethodName := ⟨RX5, "fewest", "(IIII)I"⟩
abbrev cX5_afterAny : ByteArray := prog_7_method_52_code
def yX5_afterAny : MethodName := ⟨RX5, "afterAny", "(II)I"⟩
abbrev cX5_safeOf : ByteArray := prog_7_method_53_code
def yX5_safeOf : MethodName := ⟨RX5, "safeOf", "(I)I"⟩
abbrev cX5_safe : ByteArray := prog_7_method_54_code
def yX5_safe : MethodName := ⟨RX5, "safe", "(I)I"⟩
abbrev cX5_worthOf : ByteArray := prog_7_method_55_code
def yX5_worthOf : MethodName := ⟨RX5, "worthOf", "(II)I"⟩
abbrev cX5_answers : ByteArray := prog_7_method_56_code
def yX5_answers : MethodName := ⟨RX5, "answers", "(II)V"⟩
abbrev cX5_lastOf : ByteArray := prog_7_method_57_code
def yX5_lastOf : MethodName := ⟨RX5, "lastOf", "(III)I"⟩
abbrev cX5_last : ByteArray := prog_7_method_58_code
def yX5_last : MethodName := ⟨RX5, "last", "(III)I"⟩
abbrev cX5_seen : ByteArray := prog_7_method_59_code
def yX5_seen : MethodName := ⟨RX5, "seen", "(II)I"⟩
abbrev cX5_forget : ByteArray := prog_7_method_60_code
def yX5_forget : MethodName := ⟨RX5, "forget", "()I"⟩
abbrev cX5_oftenNow : ByteArray := prog_7_method_61_code
def yX5_oftenNow : MethodName := ⟨RX5, "oftenNow", "()I"⟩
abbrev cX5_often : ByteArray := prog_7_method_62_code
def yX5_often : MethodName := ⟨RX5, "often", "()I"⟩
abbrev cX5_lot : ByteArray := prog_7_method_63_code
def yX5_lot : MethodName := ⟨RX5, "lot", "(I)I"⟩
abbrev cX5_among : ByteArray := prog_7_method_64_code
def yX5_among : MethodName := ⟨RX5, "among", "(II)I"⟩
abbrev cX5_ofOthers : ByteArray := prog_7_method_65_code
def yX5_ofOthers : MethodName := ⟨RX5, "ofOthers", "(I)I"⟩
abbrev cX5_drawnOf : ByteArray := prog_7_method_66_code
def yX5_drawnOf : MethodName := ⟨RX5, "drawnOf", "(III)I"⟩
abbrev cX5_drawn : ByteArray := prog_7_method_67_code
def yX5_drawn : MethodName := ⟨RX5, "drawn", "(III)I"⟩
abbrev cX5_write : ByteArray := prog_7_method_68_code
def yX5_write : MethodName := ⟨RX5, "write", "(I)I"⟩
abbrev cX5_count : ByteArray := prog_7_method_69_code
def yX5_count : MethodName := ⟨RX5, "count", "(I)I"⟩
abbrev cX5_digest : ByteArray := prog_7_method_70_code
def yX5_digest : MethodName := ⟨RX5, "digest", "()J"⟩
def RJ6 : String := "java/lang/Integer"
def TJ6 : u_T := fun k => match k with
  | _ => ("", "", "", false)
def tyJ6 : Nat → FieldType := fun k => match k with
  | _ => .int
abbrev wsJ60 : List Cond := u_ws RJ6 TJ6 0
theorem nmJ6 : ∀ a, a < 0 → ∀ b, b < 0 → a ≠ b → (TJ6 a).2.1 ≠ (TJ6 b).2.1 := by decide +kernel
theorem tyJ6_ok : ∀ k, k < 0 → parseFieldDescriptor (TJ6 k).2.2.1 = some (tyJ6 k) := by decide +kernel
abbrev cJ6_bitCount_0f7a4 : ByteArray := prog_8_method_49_code
def yJ6_bitCount_0f7a4 : MethodName := ⟨RJ6, "bitCount", "(I)I"⟩
def RJ9 : String := "java/lang/Math"
def TJ9 : u_T := fun k => match k with
  | _ => ("", "", "", false)
def tyJ9 : Nat → FieldType := fun k => match k with
  | _ => .int
abbrev wsJ90 : List Cond := u_ws RJ9 TJ9 0
theorem nmJ9 : ∀ a, a < 0 → ∀ b, b < 0 → a ≠ b → (TJ9 a).2.1 ≠ (TJ9 b).2.1 := by decide +kernel
theorem tyJ9_ok : ∀ k, k < 0 → parseFieldDescriptor (TJ9 k).2.2.1 = some (tyJ9 k) := by decide +kernel
abbrev cJ9_min_7cf53 : ByteArray := prog_9_method_69_code
def yJ9_min_7cf53 : MethodName := ⟨RJ9, "min", "(II)I"⟩
def RJ10 : String := "java/lang/System"
def TJ10 : u_T := fun k => match k with
  | _ => ("", "", "", false)
def tyJ10 : Nat → FieldType := fun k => match k with
  | _ => .int
abbrev wsJ100 : List Cond := u_ws RJ10 TJ10 0
theorem nmJ10 : ∀ a, a < 0 → ∀ b, b < 0 → a ≠ b → (TJ10 a).2.1 ≠ (TJ10 b).2.1 := by decide +kernel
theorem tyJ10_ok : ∀ k, k < 0 → parseFieldDescriptor (TJ10 k).2.2.1 = some (tyJ10 k) := by decide +kernel
def RL : String := "EachUndoesLaw"
abbrev cL_law : ByteArray := code
def yL_law : MethodName := ⟨RL, "law", "([I)Z"⟩
abbrev vwCl : List vw_C := [(RX0, TX0, 7), (RX1, TX1, 8), (RX2, TX2, 4), (RX3, TX3, 4), (RX4, TX4, 8), (RX5, TX5, 23)]
end
section
def wsL_law_r1 : List Cond := [Cond.classLink RL 7 RX4, Cond.instantiable RX4 8, Cond.initialized RX4, Cond.classLink RL 10 RX5, Cond.instantiable RX5 23, Cond.initialized RX5, Cond.methodLink RL 9 yX4_init, Cond.instanceMethod yX4_init, Cond.code yX4_init cX4_init 2 none, Cond.methodLink RX4 3 objectInit, Cond.instanceMethod objectInit, Cond.code objectInit ⟨#[0xb1]⟩ 1 none, Cond.classLink RX4 9 RX1, Cond.instantiable RX1 8, Cond.initialized RX1, Cond.fieldLink RX4 12 "EachUndoes" "outlook" "LEachUndoes$Outlook;", Cond.fieldLink RX4 20 "EachUndoes" "undoings" "LEachUndoes$Undoings;", Cond.fieldLink RX4 27 "EachUndoes" "deeds" "LEachUndoes$Deeds;", Cond.classLink RX4 28 RX2, Cond.fieldLink RX4 30 "EachUndoes" "sheets" "[LEachUndoes$Sheet;", Cond.fieldLink RX4 34 "EachUndoes" "finding" "I", Cond.instantiable RX2 4, Cond.initialized RX2, Cond.instanceMethod yX1_init]
def wsL_law_r2 : List Cond := [Cond.code yX1_init cX1_init 1 none, Cond.methodLink RX1 3 objectInit, Cond.classLink RX1 9 RX3, Cond.instantiable RX3 4, Cond.initialized RX3, Cond.fieldLink RX1 12 "EachUndoes$Outlook" "undoings" "LEachUndoes$Undoings;", Cond.fieldLink RX1 22 "EachUndoes$Outlook" "deeds" "LEachUndoes$Deeds;", Cond.classLink RX1 23 "[[I", Cond.arrayClass .int, Cond.fieldLink RX1 25 "EachUndoes$Outlook" "worths" "[[I", Cond.instanceMethod yX3_init, Cond.code yX3_init cX3_init 1 none, Cond.methodLink RX3 3 objectInit, Cond.classLink RX3 9 RX0, Cond.instantiable RX0 7, Cond.initialized RX0, Cond.fieldLink RX3 12 "EachUndoes$Undoings" "deeds" "LEachUndoes$Deeds;", Cond.fieldLink RX3 18 "EachUndoes$Undoings" "persons" "[I", Cond.fieldLink RX3 22 "EachUndoes$Undoings" "things" "[I", Cond.instanceMethod yX0_init, Cond.code yX0_init cX0_init 1 none, Cond.methodLink RX0 3 objectInit, Cond.fieldLink RX0 9 "EachUndoes$Deeds" "bytes" "[I", Cond.fieldLink RX0 15 "EachUndoes$Deeds" "doers" "[I"]
def wsL_law_r3 : List Cond := [Cond.fieldLink RX0 18 "EachUndoes$Deeds" "sources" "[I", Cond.fieldLink RX0 21 "EachUndoes$Deeds" "fault" "I", Cond.instanceMethod yX2_init, Cond.code yX2_init cX2_init 1 none, Cond.methodLink RX2 3 objectInit, Cond.fieldLink RX2 9 "EachUndoes$Sheet" "items" "[I", Cond.fieldLink RX2 15 "EachUndoes$Sheet" "isLost" "Z", Cond.methodLink RL 12 yX5_init, Cond.instanceMethod yX5_init, Cond.code yX5_init cX5_init 2 none, Cond.methodLink RX5 1 objectInit, Cond.fieldLink RX5 7 "EachUndoesModel" "forms" "[I", Cond.fieldLink RX5 13 "EachUndoesModel" "sizes" "[I", Cond.fieldLink RX5 16 "EachUndoesModel" "items" "[I", Cond.fieldLink RX5 19 "EachUndoesModel" "moved" "[I", Cond.fieldLink RX5 22 "EachUndoesModel" "text" "[I", Cond.fieldLink RX5 25 "EachUndoesModel" "deed" "[I", Cond.fieldLink RX5 28 "EachUndoesModel" "told" "[I", Cond.fieldLink RX5 31 "EachUndoesModel" "worths" "[I", Cond.arrayClass .boolean, Cond.fieldLink RX5 34 "EachUndoesModel" "lawful" "[Z", Cond.fieldLink RX5 38 "EachUndoesModel" "roots" "[I", Cond.fieldLink RX5 41 "EachUndoesModel" "seen" "[I", Cond.methodLink RL 13 yX4_type]
def wsL_law_r4 : List Cond := [Cond.instanceMethod yX4_type, Cond.selects RX4 yX4_type yX4_type, Cond.code yX4_type cX4_type 2 (some .int), Cond.methodLink RX4 39 yX4_isBelow, Cond.static yX4_isBelow, Cond.code yX4_isBelow cX4_isBelow 2 (some .boolean), Cond.instanceMethod yX0_append, Cond.selects RX0 yX0_append yX0_append, Cond.code yX0_append cX0_append 2 (some .int), Cond.fieldLink RX0 25 "EachUndoes$Deeds" "length" "I", Cond.methodLink RX0 28 yX0_parse, Cond.instanceMethod yX0_parse, Cond.selects RX0 yX0_parse yX0_parse, Cond.code yX0_parse cX0_parse 3 none, Cond.fieldLink RX0 31 "EachUndoes$Deeds" "total" "I", Cond.fieldLink RX0 34 "EachUndoes$Deeds" "own" "I", Cond.methodLink RX0 37 yX0_begin, Cond.instanceMethod yX0_begin, Cond.selects RX0 yX0_begin yX0_begin, Cond.code yX0_begin cX0_begin 3 (some .int), Cond.methodLink RX0 41 yX0_goOn, Cond.instanceMethod yX0_goOn, Cond.selects RX0 yX0_goOn yX0_goOn, Cond.code yX0_goOn cX0_goOn 6 (some .int)]
def wsL_law_r5 : List Cond := [Cond.methodLink RX0 49 yJ6_bitCount_0f7a4, Cond.static yJ6_bitCount_0f7a4, Cond.initialized RJ6, Cond.code yJ6_bitCount_0f7a4 cJ6_bitCount_0f7a4 1 (some .int), Cond.constant RJ6 265 (1431655765), Cond.constant RJ6 266 (858993459), Cond.constant RJ6 267 (252645135), Cond.methodLink RL 17 yX5_type, Cond.instanceMethod yX5_type, Cond.selects RX5 yX5_type yX5_type, Cond.code yX5_type cX5_type 2 (some .int), Cond.constantLong RX5 73 (255), Cond.fieldLink RX5 75 "EachUndoesModel" "typed" "I", Cond.methodLink RX5 44 yX5_in, Cond.static yX5_in, Cond.code yX5_in cX5_in 6 (some .boolean), Cond.methodLink RL 18 yX4_wipe, Cond.instanceMethod yX4_wipe, Cond.selects RX4 yX4_wipe yX4_wipe, Cond.code yX4_wipe cX4_wipe 1 (some .int), Cond.instanceMethod yX0_clear, Cond.selects RX0 yX0_clear yX0_clear, Cond.code yX0_clear cX0_clear 2 (some .int), Cond.methodLink RL 22 yX5_wipe]
def wsL_law_r6 : List Cond := [Cond.instanceMethod yX5_wipe, Cond.selects RX5 yX5_wipe yX5_wipe, Cond.code yX5_wipe cX5_wipe 2 (some .int), Cond.methodLink RL 23 yX4_fault, Cond.instanceMethod yX4_fault, Cond.selects RX4 yX4_fault yX4_fault, Cond.code yX4_fault cX4_fault 1 (some .int), Cond.methodLink RL 26 yX5_fault, Cond.instanceMethod yX5_fault, Cond.selects RX5 yX5_fault yX5_fault, Cond.code yX5_fault cX5_fault 1 (some .int), Cond.methodLink RX5 100 yX5_reads, Cond.instanceMethod yX5_reads, Cond.selects RX5 yX5_reads yX5_reads, Cond.code yX5_reads cX5_reads 2 (some .int), Cond.fieldLink RX5 78 "EachUndoesModel" "at" "I", Cond.fieldLink RX5 81 "EachUndoesModel" "deeds" "I", Cond.methodLink RX5 93 yX5_readsPart, Cond.instanceMethod yX5_readsPart, Cond.selects RX5 yX5_readsPart yX5_readsPart, Cond.code yX5_readsPart cX5_readsPart 4 (some .boolean), Cond.constantLong RX5 88 (5), Cond.methodLink RX5 84 yX5_here, Cond.instanceMethod yX5_here]
def wsL_law_r7 : List Cond := [Cond.selects RX5 yX5_here yX5_here, Cond.code yX5_here cX5_here 1 (some .int), Cond.methodLink RX5 90 yX5_ones, Cond.static yX5_ones, Cond.code yX5_ones cX5_ones 3 (some .int), Cond.methodLink RX5 97 yX5_none, Cond.instanceMethod yX5_none, Cond.selects RX5 yX5_none yX5_none, Cond.code yX5_none cX5_none 1 (some .int), Cond.methodLink RL 27 yX4_deed, Cond.instanceMethod yX4_deed, Cond.selects RX4 yX4_deed yX4_deed, Cond.code yX4_deed cX4_deed 3 (some .int), Cond.methodLink RX4 72 yX4_bitOf, Cond.static yX4_bitOf, Cond.code yX4_bitOf cX4_bitOf 2 (some .int), Cond.methodLink RL 31 yX5_deed, Cond.instanceMethod yX5_deed, Cond.selects RX5 yX5_deed yX5_deed, Cond.code yX5_deed cX5_deed 3 (some .int), Cond.constantLong RX5 58 (2), Cond.methodLink RX5 103 yX5_isDeed, Cond.instanceMethod yX5_isDeed, Cond.selects RX5 yX5_isDeed yX5_isDeed]
def wsL_law_r8 : List Cond := [Cond.code yX5_isDeed cX5_isDeed 2 (some .boolean), Cond.methodLink RL 32 yX4_undoes, Cond.instanceMethod yX4_undoes, Cond.selects RX4 yX4_undoes yX4_undoes, Cond.code yX4_undoes cX4_undoes 3 (some .int), Cond.instanceMethod yX3_tell, Cond.selects RX3 yX3_tell yX3_tell, Cond.code yX3_tell cX3_tell 3 (some .boolean), Cond.fieldLink RX3 25 "EachUndoes$Undoings" "total" "I", Cond.methodLink RL 35 yX5_undoes, Cond.instanceMethod yX5_undoes, Cond.selects RX5 yX5_undoes yX5_undoes, Cond.code yX5_undoes cX5_undoes 3 (some .int), Cond.constantLong RX5 106 (23), Cond.fieldLink RX5 108 "EachUndoesModel" "undoings" "I", Cond.methodLink RX5 111 yX5_tells, Cond.instanceMethod yX5_tells, Cond.selects RX5 yX5_tells yX5_tells, Cond.code yX5_tells cX5_tells 4 none, Cond.methodLink RL 36 yX4_read, Cond.instanceMethod yX4_read, Cond.selects RX4 yX4_read yX4_read, Cond.code yX4_read cX4_read 6 (some .int), Cond.methodLink RX4 84 yX4_found]
def wsL_law_r9 : List Cond := [Cond.instanceMethod yX4_found, Cond.selects RX4 yX4_found yX4_found, Cond.code yX4_found cX4_found 2 (some .int), Cond.methodLink RL 39 yX5_read, Cond.instanceMethod yX5_read, Cond.selects RX5 yX5_read yX5_read, Cond.code yX5_read cX5_read 4 (some .int), Cond.methodLink RX5 54 yX5_isSheet, Cond.static yX5_isSheet, Cond.code yX5_isSheet cX5_isSheet 1 (some .boolean), Cond.constantLong RX5 52 (3), Cond.methodLink RX5 60 yX5_met, Cond.instanceMethod yX5_met, Cond.selects RX5 yX5_met yX5_met, Cond.code yX5_met cX5_met 2 (some .int), Cond.fieldLink RX5 48 "EachUndoesModel" "latest" "I", Cond.methodLink RX5 115 yX5_undoes, Cond.methodLink RL 40 yX4_undo, Cond.instanceMethod yX4_undo, Cond.selects RX4 yX4_undo yX4_undo, Cond.code yX4_undo cX4_undo 1 (some .int), Cond.methodLink RL 43 yX5_undo, Cond.instanceMethod yX5_undo, Cond.selects RX5 yX5_undo yX5_undo]
def wsL_law_r10 : List Cond := [Cond.code yX5_undo cX5_undo 1 (some .int), Cond.methodLink RL 44 yX4_worth, Cond.instanceMethod yX4_worth, Cond.selects RX4 yX4_worth yX4_worth, Cond.code yX4_worth cX4_worth 5 (some .int), Cond.methodLink RL 48 yX5_worth, Cond.instanceMethod yX5_worth, Cond.selects RX5 yX5_worth yX5_worth, Cond.code yX5_worth cX5_worth 5 (some .int), Cond.constantLong RX5 118 (11), Cond.constantLong RX5 120 (-9), Cond.constantLong RX5 122 (9), Cond.methodLink RL 49 yX4_judged, Cond.instanceMethod yX4_judged, Cond.selects RX4 yX4_judged yX4_judged, Cond.code yX4_judged cX4_judged 3 (some .int), Cond.instanceMethod yX3_lawful, Cond.selects RX3 yX3_lawful yX3_lawful, Cond.code yX3_lawful cX3_lawful 7 (some .int), Cond.methodLink RX3 29 yX3_ownerOf, Cond.instanceMethod yX3_ownerOf, Cond.selects RX3 yX3_ownerOf yX3_ownerOf, Cond.code yX3_ownerOf cX3_ownerOf 5 (some .int), Cond.methodLink RL 52 yX5_judged]
def wsL_law_r11 : List Cond := [Cond.instanceMethod yX5_judged, Cond.selects RX5 yX5_judged yX5_judged, Cond.code yX5_judged cX5_judged 1 (some .int), Cond.fieldLink RX5 134 "EachUndoesModel" "firstAgainst" "I", Cond.methodLink RX5 144 yX5_find, Cond.instanceMethod yX5_find, Cond.selects RX5 yX5_find yX5_find, Cond.code yX5_find cX5_find 1 none, Cond.methodLink RX5 140 yX5_judges, Cond.instanceMethod yX5_judges, Cond.selects RX5 yX5_judges yX5_judges, Cond.code yX5_judges cX5_judges 4 none, Cond.fieldLink RX5 131 "EachUndoesModel" "against" "I", Cond.fieldLink RX5 124 "EachUndoesModel" "spent" "I", Cond.methodLink RX5 137 yX5_isLawful, Cond.instanceMethod yX5_isLawful, Cond.selects RX5 yX5_isLawful yX5_isLawful, Cond.code yX5_isLawful cX5_isLawful 5 (some .boolean), Cond.methodLink RX5 127 yX5_isIn, Cond.static yX5_isIn, Cond.code yX5_isIn cX5_isIn 2 (some .boolean), Cond.methodLink RL 53 yX4_holds, Cond.instanceMethod yX4_holds, Cond.selects RX4 yX4_holds yX4_holds]
def wsL_law_r12 : List Cond := [Cond.code yX4_holds cX4_holds 2 (some .int), Cond.instanceMethod yX3_holding, Cond.selects RX3 yX3_holding yX3_holding, Cond.code yX3_holding cX3_holding 5 (some .int), Cond.methodLink RL 56 yX5_holds, Cond.instanceMethod yX5_holds, Cond.selects RX5 yX5_holds yX5_holds, Cond.code yX5_holds cX5_holds 2 (some .int), Cond.methodLink RX5 147 yX5_holding, Cond.instanceMethod yX5_holding, Cond.selects RX5 yX5_holding yX5_holding, Cond.code yX5_holding cX5_holding 5 (some .int), Cond.methodLink RL 57 yX4_state, Cond.instanceMethod yX4_state, Cond.selects RX4 yX4_state yX4_state, Cond.code yX4_state cX4_state 3 (some .int), Cond.methodLink RX4 103 yX4_standingBehind, Cond.instanceMethod yX4_standingBehind, Cond.selects RX4 yX4_standingBehind yX4_standingBehind, Cond.code yX4_standingBehind cX4_standingBehind 2 (some .int), Cond.instanceMethod yX3_lawfulOfFirst, Cond.selects RX3 yX3_lawfulOfFirst yX3_lawfulOfFirst, Cond.code yX3_lawfulOfFirst cX3_lawfulOfFirst 2 (some .int), Cond.methodLink RX3 36 yX3_lawful]
def wsL_law_r13 : List Cond := [Cond.static yX4_firstBits, Cond.code yX4_firstBits cX4_firstBits 1 (some .int), Cond.instanceMethod yX3_standing, Cond.selects RX3 yX3_standing yX3_standing, Cond.code yX3_standing cX3_standing 2 (some .int), Cond.methodLink RX3 50 yX3_undone, Cond.instanceMethod yX3_undone, Cond.selects RX3 yX3_undone yX3_undone, Cond.code yX3_undone cX3_undone 5 (some .int), Cond.methodLink RX3 47 yX3_holding, Cond.instanceMethod yX0_standing, Cond.selects RX0 yX0_standing yX0_standing, Cond.code yX0_standing cX0_standing 2 (some .int), Cond.methodLink RX0 57 yX0_fallen, Cond.instanceMethod yX0_fallen, Cond.selects RX0 yX0_fallen yX0_fallen, Cond.code yX0_fallen cX0_fallen 4 (some .int), Cond.instanceMethod yX3_unspent, Cond.selects RX3 yX3_unspent yX3_unspent, Cond.code yX3_unspent cX3_unspent 4 (some .int), Cond.methodLink RL 60 yX5_state, Cond.instanceMethod yX5_state, Cond.selects RX5 yX5_state yX5_state, Cond.code yX5_state cX5_state 3 (some .int)]
def wsL_law_r14 : List Cond := [Cond.methodLink RX5 156 yX5_isTwo, Cond.static yX5_isTwo, Cond.code yX5_isTwo cX5_isTwo 1 (some .boolean), Cond.methodLink RX5 159 yX5_stateOf, Cond.instanceMethod yX5_stateOf, Cond.selects RX5 yX5_stateOf yX5_stateOf, Cond.code yX5_stateOf cX5_stateOf 3 (some .int), Cond.methodLink RX5 153 yX5_standing, Cond.instanceMethod yX5_standing, Cond.selects RX5 yX5_standing yX5_standing, Cond.code yX5_standing cX5_standing 4 (some .int), Cond.methodLink RX5 150 yX5_struck, Cond.instanceMethod yX5_struck, Cond.selects RX5 yX5_struck yX5_struck, Cond.code yX5_struck cX5_struck 5 (some .int), Cond.methodLink RL 61 yX4_root, Cond.instanceMethod yX4_root, Cond.selects RX4 yX4_root yX4_root, Cond.code yX4_root cX4_root 2 (some .int), Cond.instanceMethod yX0_rootOf, Cond.selects RX0 yX0_rootOf yX0_rootOf, Cond.code yX0_rootOf cX0_rootOf 4 (some .int), Cond.methodLink RL 64 yX5_root, Cond.instanceMethod yX5_root]
def wsL_law_r15 : List Cond := [Cond.selects RX5 yX5_root yX5_root, Cond.code yX5_root cX5_root 2 (some .int), Cond.methodLink RX5 162 yX5_rootOf, Cond.instanceMethod yX5_rootOf, Cond.selects RX5 yX5_rootOf yX5_rootOf, Cond.code yX5_rootOf cX5_rootOf 6 (some .int), Cond.methodLink RL 65 yX4_by, Cond.instanceMethod yX4_by, Cond.selects RX4 yX4_by yX4_by, Cond.code yX4_by cX4_by 2 (some .int), Cond.methodLink RL 68 yX5_by, Cond.instanceMethod yX5_by, Cond.selects RX5 yX5_by yX5_by, Cond.code yX5_by cX5_by 2 (some .int), Cond.methodLink RX5 165 yX5_byOf, Cond.instanceMethod yX5_byOf, Cond.selects RX5 yX5_byOf yX5_byOf, Cond.code yX5_byOf cX5_byOf 2 (some .int), Cond.methodLink RL 69 yX4_without, Cond.instanceMethod yX4_without, Cond.selects RX4 yX4_without yX4_without, Cond.code yX4_without cX4_without 4 (some .int), Cond.methodLink RX4 121 yX4_leastOf, Cond.static yX4_leastOf]
def wsL_law_r16 : List Cond := [Cond.code yX4_leastOf cX4_leastOf 2 (some .int), Cond.methodLink RL 72 yX5_without, Cond.instanceMethod yX5_without, Cond.selects RX5 yX5_without yX5_without, Cond.code yX5_without cX5_without 3 (some .int), Cond.methodLink RX5 171 yX5_withoutOf, Cond.instanceMethod yX5_withoutOf, Cond.selects RX5 yX5_withoutOf yX5_withoutOf, Cond.code yX5_withoutOf cX5_withoutOf 5 (some .int), Cond.methodLink RX5 168 yX5_least, Cond.static yX5_least, Cond.code yX5_least cX5_least 2 (some .int), Cond.methodLink RL 73 yX4_fewest, Cond.instanceMethod yX4_fewest, Cond.selects RX4 yX4_fewest yX4_fewest, Cond.code yX4_fewest cX4_fewest 7 (some .int), Cond.instanceMethod yX1_renew, Cond.selects RX1 yX1_renew yX1_renew, Cond.code yX1_renew cX1_renew 1 none, Cond.fieldLink RX1 32 "EachUndoes$Outlook" "law" "I", Cond.fieldLink RX1 39 "EachUndoes$Outlook" "unspent" "I", Cond.instanceMethod yX1_standingWith, Cond.selects RX1 yX1_standingWith yX1_standingWith, Cond.code yX1_standingWith cX1_standingWith 5 (some .int)]
def wsL_law_r17 : List Cond := [Cond.instanceMethod yX1_isAsTold, Cond.selects RX1 yX1_isAsTold yX1_isAsTold, Cond.code yX1_isAsTold cX1_isAsTold 5 (some .boolean), Cond.instanceMethod yX1_leastFirst, Cond.selects RX1 yX1_leastFirst yX1_leastFirst, Cond.code yX1_leastFirst cX1_leastFirst 12 (some .int), Cond.methodLink RX1 70 yX1_leastTaker, Cond.instanceMethod yX1_leastTaker, Cond.selects RX1 yX1_leastTaker yX1_leastTaker, Cond.code yX1_leastTaker cX1_leastTaker 7 (some .int), Cond.methodLink RX1 64 yX1_takersOf, Cond.instanceMethod yX1_takersOf, Cond.selects RX1 yX1_takersOf yX1_takersOf, Cond.code yX1_takersOf cX1_takersOf 3 (some .int), Cond.methodLink RX1 73 yX1_standingWith, Cond.methodLink RX1 76 yX1_isAsTold, Cond.methodLink RL 77 yX5_fewest, Cond.instanceMethod yX5_fewest, Cond.selects RX5 yX5_fewest yX5_fewest, Cond.code yX5_fewest cX5_fewest 6 (some .int), Cond.constantLong RX5 184 (4095), Cond.methodLink RX5 186 yX5_fewestOf, Cond.instanceMethod yX5_fewestOf, Cond.selects RX5 yX5_fewestOf yX5_fewestOf]
def wsL_law_r18 : List Cond := [Cond.code yX5_fewestOf cX5_fewestOf 7 (some .int), Cond.methodLink RX5 177 yX5_isSo, Cond.instanceMethod yX5_isSo, Cond.selects RX5 yX5_isSo yX5_isSo, Cond.code yX5_isSo cX5_isSo 6 (some .boolean), Cond.methodLink RX5 174 yX5_adds, Cond.instanceMethod yX5_adds, Cond.selects RX5 yX5_adds yX5_adds, Cond.code yX5_adds cX5_adds 3 (some .boolean), Cond.methodLink RX5 181 yX5_canBe, Cond.instanceMethod yX5_canBe, Cond.selects RX5 yX5_canBe yX5_canBe, Cond.code yX5_canBe cX5_canBe 6 (some .boolean), Cond.methodLink RL 78 yX4_safe, Cond.instanceMethod yX4_safe, Cond.selects RX4 yX4_safe yX4_safe, Cond.code yX4_safe cX4_safe 2 (some .int), Cond.instanceMethod yX1_lasting, Cond.selects RX1 yX1_lasting yX1_lasting, Cond.code yX1_lasting cX1_lasting 7 (some .int), Cond.methodLink RL 81 yX5_safe, Cond.instanceMethod yX5_safe, Cond.selects RX5 yX5_safe yX5_safe, Cond.code yX5_safe cX5_safe 2 (some .int)]
def wsL_law_r19 : List Cond := [Cond.methodLink RX5 193 yX5_safeOf, Cond.instanceMethod yX5_safeOf, Cond.selects RX5 yX5_safeOf yX5_safeOf, Cond.code yX5_safeOf cX5_safeOf 4 (some .int), Cond.methodLink RX5 190 yX5_afterAny, Cond.instanceMethod yX5_afterAny, Cond.selects RX5 yX5_afterAny yX5_afterAny, Cond.code yX5_afterAny cX5_afterAny 5 (some .int), Cond.methodLink RL 82 yX4_last, Cond.instanceMethod yX4_last, Cond.selects RX4 yX4_last yX4_last, Cond.code yX4_last cX4_last 6 (some .int), Cond.instanceMethod yX1_bestMove, Cond.selects RX1 yX1_bestMove yX1_bestMove, Cond.code yX1_bestMove cX1_bestMove 7 (some .int), Cond.methodLink RX1 80 yX1_bestReply, Cond.instanceMethod yX1_bestReply, Cond.selects RX1 yX1_bestReply yX1_bestReply, Cond.code yX1_bestReply cX1_bestReply 7 (some .int), Cond.methodLink RX1 83 yX1_worthOf, Cond.instanceMethod yX1_worthOf, Cond.selects RX1 yX1_worthOf yX1_worthOf, Cond.code yX1_worthOf cX1_worthOf 5 (some .int), Cond.methodLink RX1 86 yX1_canTake]
def wsL_law_r20 : List Cond := [Cond.instanceMethod yX1_canTake, Cond.selects RX1 yX1_canTake yX1_canTake, Cond.code yX1_canTake cX1_canTake 6 (some .boolean), Cond.methodLink RL 85 yX5_last, Cond.instanceMethod yX5_last, Cond.selects RX5 yX5_last yX5_last, Cond.code yX5_last cX5_last 4 (some .int), Cond.methodLink RX5 208 yX5_lastOf, Cond.instanceMethod yX5_lastOf, Cond.selects RX5 yX5_lastOf yX5_lastOf, Cond.code yX5_lastOf cX5_lastOf 8 (some .int), Cond.fieldLink RX5 196 "EachUndoesModel" "answered" "I", Cond.fieldLink RX5 199 "EachUndoesModel" "answer" "I", Cond.methodLink RX5 205 yX5_answers, Cond.instanceMethod yX5_answers, Cond.selects RX5 yX5_answers yX5_answers, Cond.code yX5_answers cX5_answers 5 none, Cond.methodLink RX5 202 yX5_worthOf, Cond.instanceMethod yX5_worthOf, Cond.selects RX5 yX5_worthOf yX5_worthOf, Cond.code yX5_worthOf cX5_worthOf 5 (some .int), Cond.methodLink RL 86 yX4_seen, Cond.instanceMethod yX4_seen, Cond.selects RX4 yX4_seen yX4_seen]
def wsL_law_r21 : List Cond := [Cond.code yX4_seen cX4_seen 3 (some .int), Cond.fieldLink RX4 150 "EachUndoes" "seenTotal" "I", Cond.fieldLink RX4 153 "EachUndoes" "seenStanding" "I", Cond.fieldLink RX4 156 "EachUndoes" "seenMissing" "I", Cond.methodLink RL 89 yX5_seen, Cond.instanceMethod yX5_seen, Cond.selects RX5 yX5_seen yX5_seen, Cond.code yX5_seen cX5_seen 3 (some .int), Cond.fieldLink RX5 211 "EachUndoesModel" "sights" "I", Cond.methodLink RL 90 yX4_forget, Cond.instanceMethod yX4_forget, Cond.selects RX4 yX4_forget yX4_forget, Cond.code yX4_forget cX4_forget 2 (some .int), Cond.methodLink RL 93 yX5_forget, Cond.instanceMethod yX5_forget, Cond.selects RX5 yX5_forget yX5_forget, Cond.code yX5_forget cX5_forget 2 (some .int), Cond.methodLink RL 94 yX4_often, Cond.instanceMethod yX4_often, Cond.selects RX4 yX4_often yX4_often, Cond.code yX4_often cX4_often 4 (some .int), Cond.methodLink RL 97 yX5_often, Cond.instanceMethod yX5_often, Cond.selects RX5 yX5_often yX5_often]
def wsL_law_r22 : List Cond := [Cond.code yX5_often cX5_often 1 (some .int), Cond.methodLink RX5 214 yX5_oftenNow, Cond.instanceMethod yX5_oftenNow, Cond.selects RX5 yX5_oftenNow yX5_oftenNow, Cond.code yX5_oftenNow cX5_oftenNow 6 (some .int), Cond.methodLink RL 98 yX4_drawn, Cond.instanceMethod yX4_drawn, Cond.selects RX4 yX4_drawn yX4_drawn, Cond.code yX4_drawn cX4_drawn 4 (some .int), Cond.instanceMethod yX1_draw, Cond.selects RX1 yX1_draw yX1_draw, Cond.code yX1_draw cX1_draw 7 none, Cond.fieldLink RX1 89 "EachUndoes$Outlook" "seed" "I", Cond.fieldLink RX1 92 "EachUndoes$Outlook" "drawnDeeds" "I", Cond.fieldLink RX1 95 "EachUndoes$Outlook" "drawnTotal" "I", Cond.methodLink RX1 98 Lib.Math.min.name, Cond.static Lib.Math.min.name, Cond.initialized "java/lang/Math", Cond.code Lib.Math.min.name Lib.Math.min.code 2 (some .int), Cond.methodLink RX1 103 yX1_lotOf, Cond.instanceMethod yX1_lotOf, Cond.selects RX1 yX1_lotOf yX1_lotOf, Cond.code yX1_lotOf cX1_lotOf 6 (some .int), Cond.constant RX1 114 (1103515245)]
def wsL_law_r23 : List Cond := [Cond.methodLink RX1 109 yJ6_bitCount_0f7a4, Cond.instanceMethod yX0_doneBy, Cond.selects RX0 yX0_doneBy yX0_doneBy, Cond.code yX0_doneBy cX0_doneBy 4 (some .int), Cond.methodLink RL 101 yX5_drawn, Cond.instanceMethod yX5_drawn, Cond.selects RX5 yX5_drawn yX5_drawn, Cond.code yX5_drawn cX5_drawn 4 (some .int), Cond.constantLong RX5 230 (6), Cond.methodLink RX5 232 yX5_drawnOf, Cond.instanceMethod yX5_drawnOf, Cond.selects RX5 yX5_drawnOf yX5_drawnOf, Cond.code yX5_drawnOf cX5_drawnOf 9 (some .int), Cond.fieldLink RX5 218 "EachUndoesModel" "now" "I", Cond.methodLink RX5 221 yX5_lot, Cond.instanceMethod yX5_lot, Cond.selects RX5 yX5_lot yX5_lot, Cond.code yX5_lot cX5_lot 2 (some .int), Cond.constant RX5 217 (1103515245), Cond.methodLink RX5 224 yX5_among, Cond.static yX5_among, Cond.code yX5_among cX5_among 4 (some .int), Cond.methodLink RX5 227 yX5_ofOthers, Cond.instanceMethod yX5_ofOthers]
def wsL_law_r24 : List Cond := [Cond.selects RX5 yX5_ofOthers yX5_ofOthers, Cond.code yX5_ofOthers cX5_ofOthers 4 (some .int), Cond.methodLink RL 102 yX4_sheet, Cond.instanceMethod yX4_sheet, Cond.selects RX4 yX4_sheet yX4_sheet, Cond.code yX4_sheet cX4_sheet 4 (some .int), Cond.instanceMethod yX2_begin, Cond.selects RX2 yX2_begin yX2_begin, Cond.code yX2_begin cX2_begin 4 none, Cond.fieldLink RX2 19 "EachUndoes$Sheet" "form" "I", Cond.fieldLink RX2 23 "EachUndoes$Sheet" "size" "I", Cond.methodLink RL 105 yX5_sheet, Cond.instanceMethod yX5_sheet, Cond.selects RX5 yX5_sheet yX5_sheet, Cond.code yX5_sheet cX5_sheet 5 (some .int), Cond.methodLink RL 106 yX4_lose, Cond.instanceMethod yX4_lose, Cond.selects RX4 yX4_lose yX4_lose, Cond.code yX4_lose cX4_lose 3 (some .int), Cond.methodLink RL 109 yX5_lose, Cond.instanceMethod yX5_lose, Cond.selects RX5 yX5_lose yX5_lose, Cond.code yX5_lose cX5_lose 2 (some .int), Cond.methodLink RL 110 yX4_lay]
def wsL_law_r25 : List Cond := [Cond.instanceMethod yX4_lay, Cond.selects RX4 yX4_lay yX4_lay, Cond.code yX4_lay cX4_lay 6 (some .int), Cond.instanceMethod yX2_findingAt, Cond.selects RX2 yX2_findingAt yX2_findingAt, Cond.code yX2_findingAt cX2_findingAt 3 (some .int), Cond.instanceMethod yX2_put, Cond.selects RX2 yX2_put yX2_put, Cond.code yX2_put cX2_put 3 none, Cond.methodLink RL 113 yX5_lay, Cond.instanceMethod yX5_lay, Cond.selects RX5 yX5_lay yX5_lay, Cond.code yX5_lay cX5_lay 6 (some .int), Cond.methodLink RX5 64 yX5_lacks, Cond.instanceMethod yX5_lacks, Cond.selects RX5 yX5_lacks yX5_lacks, Cond.code yX5_lacks cX5_lacks 4 (some .int), Cond.methodLink RX5 68 yX5_cut, Cond.static yX5_cut, Cond.code yX5_cut cX5_cut 2 (some .int), Cond.methodLink RL 114 yX4_get, Cond.instanceMethod yX4_get, Cond.selects RX4 yX4_get yX4_get, Cond.code yX4_get cX4_get 5 (some .int)]
def wsL_law_r26 : List Cond := [Cond.constant RX4 179 (-2147483648), Cond.methodLink RL 117 yX5_get, Cond.instanceMethod yX5_get, Cond.selects RX5 yX5_get yX5_get, Cond.code yX5_get cX5_get 4 (some .int), Cond.constant RX5 72 (-2147483648), Cond.methodLink RL 118 yX4_copy, Cond.instanceMethod yX4_copy, Cond.selects RX4 yX4_copy yX4_copy, Cond.code yX4_copy cX4_copy 8 (some .int), Cond.methodLink RX4 186 arraycopyName, Cond.native arraycopyName, Cond.static arraycopyName, Cond.initialized "java/lang/System", Cond.instanceMethod yX2_hasItems, Cond.selects RX2 yX2_hasItems yX2_hasItems, Cond.code yX2_hasItems cX2_hasItems 3 (some .boolean), Cond.methodLink RL 122 yX5_copy, Cond.instanceMethod yX5_copy, Cond.selects RX5 yX5_copy yX5_copy, Cond.code yX5_copy cX5_copy 7 (some .int), Cond.methodLink RL 123 yX4_write, Cond.instanceMethod yX4_write, Cond.selects RX4 yX4_write yX4_write]
def wsL_law_r27 : List Cond := [Cond.code yX4_write cX4_write 6 (some .int), Cond.methodLink RX4 192 Lib.Math.min.name, Cond.methodLink RL 126 yX5_write, Cond.instanceMethod yX5_write, Cond.selects RX5 yX5_write yX5_write, Cond.code yX5_write cX5_write 4 (some .int), Cond.methodLink RL 127 yX4_count, Cond.instanceMethod yX4_count, Cond.selects RX4 yX4_count yX4_count, Cond.code yX4_count cX4_count 3 (some .int), Cond.methodLink RX4 197 yJ6_bitCount_0f7a4, Cond.methodLink RL 130 yX5_count, Cond.instanceMethod yX5_count, Cond.selects RX5 yX5_count yX5_count, Cond.code yX5_count cX5_count 4 (some .int), Cond.methodLink RL 131 yX4_digest, Cond.instanceMethod yX4_digest, Cond.selects RX4 yX4_digest yX4_digest, Cond.code yX4_digest cX4_digest 4 (some .long), Cond.constantLong RX4 202 (17), Cond.methodLink RX4 204 yX4_count, Cond.methodLink RX4 207 yX4_mixed, Cond.static yX4_mixed, Cond.code yX4_mixed cX4_mixed 4 (some .long)]
def wsL_law_r28 : List Cond := [Cond.constantLong RX4 257 (31), Cond.methodLink RX4 211 yX4_fault, Cond.methodLink RX4 213 yX4_judged, Cond.methodLink RX4 216 yX4_withDeeds, Cond.instanceMethod yX4_withDeeds, Cond.selects RX4 yX4_withDeeds yX4_withDeeds, Cond.code yX4_withDeeds cX4_withDeeds 7 (some .long), Cond.methodLink RX4 239 yX4_deed, Cond.methodLink RX4 242 yX4_root, Cond.methodLink RX4 220 yX4_withUndoings, Cond.instanceMethod yX4_withUndoings, Cond.selects RX4 yX4_withUndoings yX4_withUndoings, Cond.code yX4_withUndoings cX4_withUndoings 6 (some .long), Cond.methodLink RX4 245 yX4_holds, Cond.methodLink RX4 248 yX4_by, Cond.methodLink RX4 251 yX4_without, Cond.methodLink RX4 254 yX4_state, Cond.methodLink RX4 223 yX4_fewest, Cond.methodLink RX4 227 yX4_safe, Cond.methodLink RX4 230 yX4_last, Cond.methodLink RX4 233 yX4_often, Cond.methodLink RX4 236 yX4_drawn, Cond.methodLink RL 135 yX5_digest, Cond.instanceMethod yX5_digest]
def wsL_law_r29 : List Cond := [Cond.selects RX5 yX5_digest yX5_digest, Cond.code yX5_digest cX5_digest 5 (some .long), Cond.constantLong RX5 235 (17), Cond.constantLong RX5 237 (31), Cond.methodLink RX5 239 yX5_count, Cond.methodLink RX5 242 yX5_judged, Cond.methodLink RX5 245 yX5_holds]
def wsL_cs : List Cond := (wsL_law_r1 ++ (wsL_law_r2 ++ (wsL_law_r3 ++ (wsL_law_r4 ++ (wsL_law_r5 ++ (wsL_law_r6 ++ (wsL_law_r7 ++ (wsL_law_r8 ++ (wsL_law_r9 ++ (wsL_law_r10 ++ (wsL_law_r11 ++ (wsL_law_r12 ++ (wsL_law_r13 ++ (wsL_law_r14 ++ (wsL_law_r15 ++ (wsL_law_r16 ++ (wsL_law_r17 ++ (wsL_law_r18 ++ (wsL_law_r19 ++ (wsL_law_r20 ++ (wsL_law_r21 ++ (wsL_law_r22 ++ (wsL_law_r23 ++ (wsL_law_r24 ++ (wsL_law_r25 ++ (wsL_law_r26 ++ (wsL_law_r27 ++ (wsL_law_r28 ++ wsL_law_r29))))))))))))))))))))))))))))
def wsL_ly : List Cond := (wsX40 ++ (wsX50 ++ (wsX10 ++ (wsX30 ++ (wsX20 ++ wsX00)))))
def eu_TB : List Cond := wsL_cs ++ wsL_ly
theorem wsL_law_r1_in : ∀ w ∈ wsL_law_r1, w ∈ lw_tbl := by
  unfold wsL_law_r1
  refine List.forall_mem_cons.mpr ⟨List.mem_append_right _ (List.mem_append_left _ (List.mem_of_getElem? (i := 10) rfl)), ?_⟩
  refine List.forall_mem_cons.mpr ⟨List.mem_append_right _ (List.mem_append_left _ (List.mem_of_getElem? (i := 11) rfl)), ?_⟩
  refine List.forall_mem_cons.mpr ⟨List.mem_append_right _ (List.mem_append_left _ (List.mem_of_getElem? (i := 1) rfl)), ?_⟩
  refine List.forall_mem_cons.mpr ⟨List.mem_append_right _ (List.mem_append_right _ (List.mem_append_right _ (List.mem_append_left _ (List.mem_of_getElem? (i := 22) rfl)))), ?_⟩
  refine List.forall_mem_cons.mpr ⟨List.mem_append_right _ (List.mem_append_right _ (List.mem_append_right _ (List.mem_append_left _ (List.mem_of_getElem? (i := 23) rfl)))), ?_⟩
  refine List.forall_mem_cons.mpr ⟨List.mem_append_right _ (List.mem_append_left _ (List.mem_of_getElem? (i := 6) rfl)), ?_⟩
  refine List.forall_mem_cons.mpr ⟨List.mem_append_right _ (List.mem_append_left _ (List.mem_of_getElem? (i := 12) rfl)), ?_⟩
  refine List.forall_mem_cons.mpr ⟨List.mem_append_right _ (List.mem_append_left _ (List.mem_of_getElem? (i := 13) rfl)), ?_⟩
  refine List.forall_mem_cons.mpr ⟨List.mem_append_right _ (List.mem_append_left _ (List.mem_of_getElem? (i := 14) rfl)), ?_⟩
  refine List.forall_mem_cons.mpr ⟨List.mem_append_right _ (List.mem_append_left _ (List.mem_of_getElem? (i := 15) rfl)), ?_⟩
  refine List.forall_mem_cons.mpr ⟨List.mem_append_right _ (List.mem_append_left _ (List.mem_of_getElem? (i := 16) rfl)), ?_⟩
  refine List.forall_mem_cons.mpr ⟨List.mem_append_right _ (List.mem_append_left _ (List.mem_of_getElem? (i := 17) rfl)), ?_⟩
  refine List.forall_mem_cons.mpr ⟨List.mem_append_right _ (List.mem_append_left _ (List.mem_of_getElem? (i := 18) rfl)), ?_⟩
  refine List.forall_mem_cons.mpr ⟨List.mem_append_right _ (List.mem_append_left _ (List.mem_of_getElem? (i := 19) rfl)), ?_⟩
  refine List.forall_mem_cons.mpr ⟨List.mem_append_right _ (List.mem_append_left _ (List.mem_of_getElem? (i := 2) rfl)), ?_⟩
  refine List.forall_mem_cons.mpr ⟨List.mem_append_right _ (List.mem_append_left _ (List.mem_of_getElem? (i := 141) rfl)), ?_⟩
  refine List.forall_mem_cons.mpr ⟨List.mem_append_right _ (List.mem_append_left _ (List.mem_of_getElem? (i := 142) rfl)), ?_⟩
  refine List.forall_mem_cons.mpr ⟨List.mem_append_right _ (List.mem_append_left _ (List.mem_of_getElem? (i := 143) rfl)), ?_⟩
  refine List.forall_mem_cons.mpr ⟨List.mem_append_right _ (List.mem_append_left _ (List.mem_of_getElem? (i := 117) rfl)), ?_⟩
  refine List.forall_mem_cons.mpr ⟨List.mem_append_right _ (List.mem_append_left _ (List.mem_of_getElem? (i := 144) rfl)), ?_⟩
  refine List.forall_mem_cons.mpr ⟨List.mem_append_right _ (List.mem_append_left _ (List.mem_of_getElem? (i := 148) rfl)), ?_⟩
  refine List.forall_mem_cons.mpr ⟨List.mem_append_right _ (List.mem_append_left _ (List.mem_of_getElem? (i := 119) rfl)), ?_⟩
  refine List.forall_mem_cons.mpr ⟨List.mem_append_right _ (List.mem_append_left _ (List.mem_of_getElem? (i := 5) rfl)), ?_⟩
  refine List.forall_mem_cons.mpr ⟨List.mem_append_right _ (List.mem_append_left _ (List.mem_of_getElem? (i := 21) rfl)), ?_⟩
  exact fun _ h => absurd h List.not_mem_nil
theorem wsL_law_r1_ok : wsL_law_r1.all goodWord = true := by decide +kernel
theorem wsL_law_r2_in : ∀ w ∈ wsL_law_r2, w ∈ lw_tbl := by
  unfold wsL_law_r2
  refine List.forall_mem_cons.mpr ⟨List.mem_append_right _ (List.mem_append_left _ (List.mem_of_getElem? (i := 22) rfl)), ?_⟩
  refine List.forall_mem_cons.mpr ⟨List.mem_append_right _ (List.mem_append_left _ (List.mem_of_getElem? (i := 23) rfl)), ?_⟩
  refine List.forall_mem_cons.mpr ⟨List.mem_append_right _ (List.mem_append_left _ (List.mem_of_getElem? (i := 24) rfl)), ?_⟩
  refine List.forall_mem_cons.mpr ⟨List.mem_append_right _ (List.mem_append_left _ (List.mem_of_getElem? (i := 25) rfl)), ?_⟩
  refine List.forall_mem_cons.mpr ⟨List.mem_append_right _ (List.mem_append_left _ (List.mem_of_getElem? (i := 3) rfl)), ?_⟩
  refine List.forall_mem_cons.mpr ⟨List.mem_append_right _ (List.mem_append_left _ (List.mem_of_getElem? (i := 88) rfl)), ?_⟩
  refine List.forall_mem_cons.mpr ⟨List.mem_append_right _ (List.mem_append_left _ (List.mem_of_getElem? (i := 90) rfl)), ?_⟩
  refine List.forall_mem_cons.mpr ⟨List.mem_append_right _ (List.mem_append_left _ (List.mem_of_getElem? (i := 86) rfl)), ?_⟩
  refine List.forall_mem_cons.mpr ⟨List.mem_append_right _ (List.mem_append_left _ (List.mem_of_getElem? (i := 67) rfl)), ?_⟩
  refine List.forall_mem_cons.mpr ⟨List.mem_append_right _ (List.mem_append_left _ (List.mem_of_getElem? (i := 91) rfl)), ?_⟩
  refine List.forall_mem_cons.mpr ⟨List.mem_append_right _ (List.mem_append_left _ (List.mem_of_getElem? (i := 27) rfl)), ?_⟩
  refine List.forall_mem_cons.mpr ⟨List.mem_append_right _ (List.mem_append_left _ (List.mem_of_getElem? (i := 28) rfl)), ?_⟩
  refine List.forall_mem_cons.mpr ⟨List.mem_append_right _ (List.mem_append_left _ (List.mem_of_getElem? (i := 29) rfl)), ?_⟩
  refine List.forall_mem_cons.mpr ⟨List.mem_append_right _ (List.mem_append_left _ (List.mem_of_getElem? (i := 30) rfl)), ?_⟩
  refine List.forall_mem_cons.mpr ⟨List.mem_append_right _ (List.mem_append_left _ (List.mem_of_getElem? (i := 31) rfl)), ?_⟩
  refine List.forall_mem_cons.mpr ⟨List.mem_append_right _ (List.mem_append_left _ (List.mem_of_getElem? (i := 4) rfl)), ?_⟩
  refine List.forall_mem_cons.mpr ⟨List.mem_append_right _ (List.mem_append_left _ (List.mem_of_getElem? (i := 68) rfl)), ?_⟩
  refine List.forall_mem_cons.mpr ⟨List.mem_append_right _ (List.mem_append_left _ (List.mem_of_getElem? (i := 71) rfl)), ?_⟩
  refine List.forall_mem_cons.mpr ⟨List.mem_append_right _ (List.mem_append_left _ (List.mem_of_getElem? (i := 72) rfl)), ?_⟩
  refine List.forall_mem_cons.mpr ⟨List.mem_append_right _ (List.mem_append_left _ (List.mem_of_getElem? (i := 33) rfl)), ?_⟩
  refine List.forall_mem_cons.mpr ⟨List.mem_append_right _ (List.mem_append_left _ (List.mem_of_getElem? (i := 34) rfl)), ?_⟩
  refine List.forall_mem_cons.mpr ⟨List.mem_append_right _ (List.mem_append_left _ (List.mem_of_getElem? (i := 35) rfl)), ?_⟩
  refine List.forall_mem_cons.mpr ⟨List.mem_append_right _ (List.mem_append_left _ (List.mem_of_getElem? (i := 36) rfl)), ?_⟩
  refine List.forall_mem_cons.mpr ⟨List.mem_append_right _ (List.mem_append_left _ (List.mem_of_getElem? (i := 37) rfl)), ?_⟩
  exact fun _ h => absurd h List.not_mem_nil
theorem wsL_law_r2_ok : wsL_law_r2.all goodWord = true := by decide +kernel
theorem wsL_law_r3_in : ∀ w ∈ wsL_law_r3, w ∈ lw_tbl := by
  unfold wsL_law_r3
  refine List.forall_mem_cons.mpr ⟨List.mem_append_right _ (List.mem_append_left _ (List.mem_of_getElem? (i := 40) rfl)), ?_⟩
  refine List.forall_mem_cons.mpr ⟨List.mem_append_right _ (List.mem_append_left _ (List.mem_of_getElem? (i := 50) rfl)), ?_⟩
  refine List.forall_mem_cons.mpr ⟨List.mem_append_right _ (List.mem_append_left _ (List.mem_of_getElem? (i := 121) rfl)), ?_⟩
  refine List.forall_mem_cons.mpr ⟨List.mem_append_right _ (List.mem_append_left _ (List.mem_of_getElem? (i := 122) rfl)), ?_⟩
  refine List.forall_mem_cons.mpr ⟨List.mem_append_right _ (List.mem_append_left _ (List.mem_of_getElem? (i := 123) rfl)), ?_⟩
  refine List.forall_mem_cons.mpr ⟨List.mem_append_right _ (List.mem_append_left _ (List.mem_of_getElem? (i := 124) rfl)), ?_⟩
  refine List.forall_mem_cons.mpr ⟨List.mem_append_right _ (List.mem_append_left _ (List.mem_of_getElem? (i := 126) rfl)), ?_⟩
  refine List.forall_mem_cons.mpr ⟨List.mem_append_right _ (List.mem_append_right _ (List.mem_append_right _ (List.mem_append_left _ (List.mem_of_getElem? (i := 24) rfl)))), ?_⟩
  refine List.forall_mem_cons.mpr ⟨List.mem_append_right _ (List.mem_append_right _ (List.mem_append_right _ (List.mem_append_left _ (List.mem_of_getElem? (i := 25) rfl)))), ?_⟩
  refine List.forall_mem_cons.mpr ⟨List.mem_append_right _ (List.mem_append_right _ (List.mem_append_right _ (List.mem_append_left _ (List.mem_of_getElem? (i := 26) rfl)))), ?_⟩
  refine List.forall_mem_cons.mpr ⟨List.mem_append_right _ (List.mem_append_right _ (List.mem_append_right _ (List.mem_append_left _ (List.mem_of_getElem? (i := 27) rfl)))), ?_⟩
  refine List.forall_mem_cons.mpr ⟨List.mem_append_right _ (List.mem_append_right _ (List.mem_append_right _ (List.mem_append_left _ (List.mem_of_getElem? (i := 28) rfl)))), ?_⟩
  refine List.forall_mem_cons.mpr ⟨List.mem_append_right _ (List.mem_append_right _ (List.mem_append_right _ (List.mem_append_left _ (List.mem_of_getElem? (i := 29) rfl)))), ?_⟩
  refine List.forall_mem_cons.mpr ⟨List.mem_append_right _ (List.mem_append_right _ (List.mem_append_right _ (List.mem_append_left _ (List.mem_of_getElem? (i := 30) rfl)))), ?_⟩
  refine List.forall_mem_cons.mpr ⟨List.mem_append_right _ (List.mem_append_right _ (List.mem_append_right _ (List.mem_append_left _ (List.mem_of_getElem? (i := 31) rfl)))), ?_⟩
  refine List.forall_mem_cons.mpr ⟨List.mem_append_right _ (List.mem_append_right _ (List.mem_append_right _ (List.mem_append_left _ (List.mem_of_getElem? (i := 33) rfl)))), ?_⟩
  refine List.forall_mem_cons.mpr ⟨List.mem_append_right _ (List.mem_append_right _ (List.mem_append_right _ (List.mem_append_left _ (List.mem_of_getElem? (i := 37) rfl)))), ?_⟩
  refine List.forall_mem_cons.mpr ⟨List.mem_append_right _ (List.mem_append_right _ (List.mem_append_right _ (List.mem_append_left _ (List.mem_of_getElem? (i := 39) rfl)))), ?_⟩
  refine List.forall_mem_cons.mpr ⟨List.mem_append_right _ (List.mem_append_right _ (List.mem_append_right _ (List.mem_append_left _ (List.mem_of_getElem? (i := 40) rfl)))), ?_⟩
  refine List.forall_mem_cons.mpr ⟨List.mem_append_right _ (List.mem_append_right _ (List.mem_append_right _ (List.mem_append_left _ (List.mem_of_getElem? (i := 98) rfl)))), ?_⟩
  refine List.forall_mem_cons.mpr ⟨List.mem_append_right _ (List.mem_append_right _ (List.mem_append_right _ (List.mem_append_left _ (List.mem_of_getElem? (i := 41) rfl)))), ?_⟩
  refine List.forall_mem_cons.mpr ⟨List.mem_append_right _ (List.mem_append_right _ (List.mem_append_right _ (List.mem_append_left _ (List.mem_of_getElem? (i := 45) rfl)))), ?_⟩
  refine List.forall_mem_cons.mpr ⟨List.mem_append_right _ (List.mem_append_right _ (List.mem_append_right _ (List.mem_append_left _ (List.mem_of_getElem? (i := 49) rfl)))), ?_⟩
  refine List.forall_mem_cons.mpr ⟨List.mem_append_right _ (List.mem_append_left _ (List.mem_of_getElem? (i := 166) rfl)), ?_⟩
  exact fun _ h => absurd h List.not_mem_nil
theorem wsL_law_r3_ok : wsL_law_r3.all goodWord = true := by decide +kernel
theorem wsL_law_r4_in : ∀ w ∈ wsL_law_r4, w ∈ lw_tbl := by
  unfold wsL_law_r4
  refine List.forall_mem_cons.mpr ⟨List.mem_append_right _ (List.mem_append_left _ (List.mem_of_getElem? (i := 167) rfl)), ?_⟩
  refine List.forall_mem_cons.mpr ⟨List.mem_append_right _ (List.mem_append_left _ (List.mem_of_getElem? (i := 168) rfl)), ?_⟩
  refine List.forall_mem_cons.mpr ⟨List.mem_append_right _ (List.mem_append_left _ (List.mem_of_getElem? (i := 169) rfl)), ?_⟩
  refine List.forall_mem_cons.mpr ⟨List.mem_append_right _ (List.mem_append_left _ (List.mem_of_getElem? (i := 170) rfl)), ?_⟩
  refine List.forall_mem_cons.mpr ⟨List.mem_append_right _ (List.mem_append_left _ (List.mem_of_getElem? (i := 171) rfl)), ?_⟩
  refine List.forall_mem_cons.mpr ⟨List.mem_append_right _ (List.mem_append_left _ (List.mem_of_getElem? (i := 172) rfl)), ?_⟩
  refine List.forall_mem_cons.mpr ⟨List.mem_append_right _ (List.mem_append_left _ (List.mem_of_getElem? (i := 175) rfl)), ?_⟩
  refine List.forall_mem_cons.mpr ⟨List.mem_append_left _ (List.mem_map.mpr ⟨_, List.mem_append_left _ (List.mem_of_getElem? (i := 0) rfl), rfl⟩), ?_⟩
  refine List.forall_mem_cons.mpr ⟨List.mem_append_right _ (List.mem_append_left _ (List.mem_of_getElem? (i := 176) rfl)), ?_⟩
  refine List.forall_mem_cons.mpr ⟨List.mem_append_right _ (List.mem_append_left _ (List.mem_of_getElem? (i := 42) rfl)), ?_⟩
  refine List.forall_mem_cons.mpr ⟨List.mem_append_right _ (List.mem_append_left _ (List.mem_of_getElem? (i := 177) rfl)), ?_⟩
  refine List.forall_mem_cons.mpr ⟨List.mem_append_right _ (List.mem_append_left _ (List.mem_of_getElem? (i := 179) rfl)), ?_⟩
  refine List.forall_mem_cons.mpr ⟨List.mem_append_left _ (List.mem_map.mpr ⟨_, List.mem_append_left _ (List.mem_of_getElem? (i := 1) rfl), rfl⟩), ?_⟩
  refine List.forall_mem_cons.mpr ⟨List.mem_append_right _ (List.mem_append_left _ (List.mem_of_getElem? (i := 180) rfl)), ?_⟩
  refine List.forall_mem_cons.mpr ⟨List.mem_append_right _ (List.mem_append_left _ (List.mem_of_getElem? (i := 44) rfl)), ?_⟩
  refine List.forall_mem_cons.mpr ⟨List.mem_append_right _ (List.mem_append_left _ (List.mem_of_getElem? (i := 48) rfl)), ?_⟩
  refine List.forall_mem_cons.mpr ⟨List.mem_append_right _ (List.mem_append_left _ (List.mem_of_getElem? (i := 181) rfl)), ?_⟩
  refine List.forall_mem_cons.mpr ⟨List.mem_append_right _ (List.mem_append_left _ (List.mem_of_getElem? (i := 183) rfl)), ?_⟩
  refine List.forall_mem_cons.mpr ⟨List.mem_append_left _ (List.mem_map.mpr ⟨_, List.mem_append_left _ (List.mem_of_getElem? (i := 2) rfl), rfl⟩), ?_⟩
  refine List.forall_mem_cons.mpr ⟨List.mem_append_right _ (List.mem_append_left _ (List.mem_of_getElem? (i := 184) rfl)), ?_⟩
  refine List.forall_mem_cons.mpr ⟨List.mem_append_right _ (List.mem_append_left _ (List.mem_of_getElem? (i := 186) rfl)), ?_⟩
  refine List.forall_mem_cons.mpr ⟨List.mem_append_right _ (List.mem_append_left _ (List.mem_of_getElem? (i := 188) rfl)), ?_⟩
  refine List.forall_mem_cons.mpr ⟨List.mem_append_left _ (List.mem_map.mpr ⟨_, List.mem_append_left _ (List.mem_of_getElem? (i := 3) rfl), rfl⟩), ?_⟩
  refine List.forall_mem_cons.mpr ⟨List.mem_append_right _ (List.mem_append_left _ (List.mem_of_getElem? (i := 189) rfl)), ?_⟩
  exact fun _ h => absurd h List.not_mem_nil
theorem wsL_law_r4_ok : wsL_law_r4.all goodWord = true := by decide +kernel
theorem wsL_law_r5_in : ∀ w ∈ wsL_law_r5, w ∈ lw_tbl := by
  unfold wsL_law_r5
  refine List.forall_mem_cons.mpr ⟨List.mem_append_right _ (List.mem_append_left _ (List.mem_of_getElem? (i := 190) rfl)), ?_⟩
  refine List.forall_mem_cons.mpr ⟨List.mem_append_right _ (List.mem_append_left _ (List.mem_of_getElem? (i := 191) rfl)), ?_⟩
  refine List.forall_mem_cons.mpr ⟨List.mem_append_right _ (List.mem_append_left _ (List.mem_of_getElem? (i := 7) rfl)), ?_⟩
  refine List.forall_mem_cons.mpr ⟨List.mem_append_right _ (List.mem_append_left _ (List.mem_of_getElem? (i := 192) rfl)), ?_⟩
  refine List.forall_mem_cons.mpr ⟨List.mem_append_right _ (List.mem_append_left _ (List.mem_of_getElem? (i := 193) rfl)), ?_⟩
  refine List.forall_mem_cons.mpr ⟨List.mem_append_right _ (List.mem_append_left _ (List.mem_of_getElem? (i := 194) rfl)), ?_⟩
  refine List.forall_mem_cons.mpr ⟨List.mem_append_right _ (List.mem_append_left _ (List.mem_of_getElem? (i := 195) rfl)), ?_⟩
  refine List.forall_mem_cons.mpr ⟨List.mem_append_right _ (List.mem_append_right _ (List.mem_append_right _ (List.mem_append_left _ (List.mem_of_getElem? (i := 139) rfl)))), ?_⟩
  refine List.forall_mem_cons.mpr ⟨List.mem_append_right _ (List.mem_append_right _ (List.mem_append_right _ (List.mem_append_left _ (List.mem_of_getElem? (i := 140) rfl)))), ?_⟩
  refine List.forall_mem_cons.mpr ⟨List.mem_append_right _ (List.mem_append_right _ (List.mem_append_right _ (List.mem_append_left _ (List.mem_of_getElem? (i := 141) rfl)))), ?_⟩
  refine List.forall_mem_cons.mpr ⟨List.mem_append_right _ (List.mem_append_right _ (List.mem_append_right _ (List.mem_append_left _ (List.mem_of_getElem? (i := 142) rfl)))), ?_⟩
  refine List.forall_mem_cons.mpr ⟨List.mem_append_right _ (List.mem_append_right _ (List.mem_append_right _ (List.mem_append_left _ (List.mem_of_getElem? (i := 143) rfl)))), ?_⟩
  refine List.forall_mem_cons.mpr ⟨List.mem_append_right _ (List.mem_append_right _ (List.mem_append_right _ (List.mem_append_left _ (List.mem_of_getElem? (i := 34) rfl)))), ?_⟩
  refine List.forall_mem_cons.mpr ⟨List.mem_append_right _ (List.mem_append_right _ (List.mem_append_right _ (List.mem_append_left _ (List.mem_of_getElem? (i := 107) rfl)))), ?_⟩
  refine List.forall_mem_cons.mpr ⟨List.mem_append_right _ (List.mem_append_right _ (List.mem_append_right _ (List.mem_append_left _ (List.mem_of_getElem? (i := 108) rfl)))), ?_⟩
  refine List.forall_mem_cons.mpr ⟨List.mem_append_right _ (List.mem_append_right _ (List.mem_append_right _ (List.mem_append_left _ (List.mem_of_getElem? (i := 109) rfl)))), ?_⟩
  refine List.forall_mem_cons.mpr ⟨List.mem_append_right _ (List.mem_append_left _ (List.mem_of_getElem? (i := 196) rfl)), ?_⟩
  refine List.forall_mem_cons.mpr ⟨List.mem_append_right _ (List.mem_append_left _ (List.mem_of_getElem? (i := 197) rfl)), ?_⟩
  refine List.forall_mem_cons.mpr ⟨List.mem_append_right _ (List.mem_append_left _ (List.mem_of_getElem? (i := 198) rfl)), ?_⟩
  refine List.forall_mem_cons.mpr ⟨List.mem_append_right _ (List.mem_append_left _ (List.mem_of_getElem? (i := 199) rfl)), ?_⟩
  refine List.forall_mem_cons.mpr ⟨List.mem_append_right _ (List.mem_append_left _ (List.mem_of_getElem? (i := 202) rfl)), ?_⟩
  refine List.forall_mem_cons.mpr ⟨List.mem_append_left _ (List.mem_map.mpr ⟨_, List.mem_append_left _ (List.mem_of_getElem? (i := 4) rfl), rfl⟩), ?_⟩
  refine List.forall_mem_cons.mpr ⟨List.mem_append_right _ (List.mem_append_left _ (List.mem_of_getElem? (i := 203) rfl)), ?_⟩
  refine List.forall_mem_cons.mpr ⟨List.mem_append_right _ (List.mem_append_right _ (List.mem_append_right _ (List.mem_append_left _ (List.mem_of_getElem? (i := 144) rfl)))), ?_⟩
  exact fun _ h => absurd h List.not_mem_nil
theorem wsL_law_r5_ok : wsL_law_r5.all goodWord = true := by decide +kernel
theorem wsL_law_r6_in : ∀ w ∈ wsL_law_r6, w ∈ lw_tbl := by
  unfold wsL_law_r6
  refine List.forall_mem_cons.mpr ⟨List.mem_append_right _ (List.mem_append_right _ (List.mem_append_right _ (List.mem_append_left _ (List.mem_of_getElem? (i := 145) rfl)))), ?_⟩
  refine List.forall_mem_cons.mpr ⟨List.mem_append_right _ (List.mem_append_right _ (List.mem_append_right _ (List.mem_append_left _ (List.mem_of_getElem? (i := 146) rfl)))), ?_⟩
  refine List.forall_mem_cons.mpr ⟨List.mem_append_right _ (List.mem_append_right _ (List.mem_append_right _ (List.mem_append_left _ (List.mem_of_getElem? (i := 147) rfl)))), ?_⟩
  refine List.forall_mem_cons.mpr ⟨List.mem_append_right _ (List.mem_append_left _ (List.mem_of_getElem? (i := 204) rfl)), ?_⟩
  refine List.forall_mem_cons.mpr ⟨List.mem_append_right _ (List.mem_append_left _ (List.mem_of_getElem? (i := 205) rfl)), ?_⟩
  refine List.forall_mem_cons.mpr ⟨List.mem_append_right _ (List.mem_append_left _ (List.mem_of_getElem? (i := 206) rfl)), ?_⟩
  refine List.forall_mem_cons.mpr ⟨List.mem_append_right _ (List.mem_append_left _ (List.mem_of_getElem? (i := 207) rfl)), ?_⟩
  refine List.forall_mem_cons.mpr ⟨List.mem_append_right _ (List.mem_append_right _ (List.mem_append_right _ (List.mem_append_left _ (List.mem_of_getElem? (i := 148) rfl)))), ?_⟩
  refine List.forall_mem_cons.mpr ⟨List.mem_append_right _ (List.mem_append_right _ (List.mem_append_right _ (List.mem_append_left _ (List.mem_of_getElem? (i := 149) rfl)))), ?_⟩
  refine List.forall_mem_cons.mpr ⟨List.mem_append_right _ (List.mem_append_right _ (List.mem_append_right _ (List.mem_append_left _ (List.mem_of_getElem? (i := 150) rfl)))), ?_⟩
  refine List.forall_mem_cons.mpr ⟨List.mem_append_right _ (List.mem_append_right _ (List.mem_append_right _ (List.mem_append_left _ (List.mem_of_getElem? (i := 151) rfl)))), ?_⟩
  refine List.forall_mem_cons.mpr ⟨List.mem_append_right _ (List.mem_append_right _ (List.mem_append_right _ (List.mem_append_left _ (List.mem_of_getElem? (i := 152) rfl)))), ?_⟩
  refine List.forall_mem_cons.mpr ⟨List.mem_append_right _ (List.mem_append_right _ (List.mem_append_right _ (List.mem_append_left _ (List.mem_of_getElem? (i := 154) rfl)))), ?_⟩
  refine List.forall_mem_cons.mpr ⟨List.mem_append_left _ (List.mem_map.mpr ⟨_, List.mem_append_right _ (List.mem_append_right _ (List.mem_append_left _ (List.mem_of_getElem? (i := 8) rfl))), rfl⟩), ?_⟩
  refine List.forall_mem_cons.mpr ⟨List.mem_append_right _ (List.mem_append_right _ (List.mem_append_right _ (List.mem_append_left _ (List.mem_of_getElem? (i := 155) rfl)))), ?_⟩
  refine List.forall_mem_cons.mpr ⟨List.mem_append_right _ (List.mem_append_right _ (List.mem_append_right _ (List.mem_append_left _ (List.mem_of_getElem? (i := 35) rfl)))), ?_⟩
  refine List.forall_mem_cons.mpr ⟨List.mem_append_right _ (List.mem_append_right _ (List.mem_append_right _ (List.mem_append_left _ (List.mem_of_getElem? (i := 36) rfl)))), ?_⟩
  refine List.forall_mem_cons.mpr ⟨List.mem_append_right _ (List.mem_append_right _ (List.mem_append_right _ (List.mem_append_left _ (List.mem_of_getElem? (i := 156) rfl)))), ?_⟩
  refine List.forall_mem_cons.mpr ⟨List.mem_append_right _ (List.mem_append_right _ (List.mem_append_right _ (List.mem_append_left _ (List.mem_of_getElem? (i := 158) rfl)))), ?_⟩
  refine List.forall_mem_cons.mpr ⟨List.mem_append_left _ (List.mem_map.mpr ⟨_, List.mem_append_right _ (List.mem_append_right _ (List.mem_append_left _ (List.mem_of_getElem? (i := 9) rfl))), rfl⟩), ?_⟩
  refine List.forall_mem_cons.mpr ⟨List.mem_append_right _ (List.mem_append_right _ (List.mem_append_right _ (List.mem_append_left _ (List.mem_of_getElem? (i := 159) rfl)))), ?_⟩
  refine List.forall_mem_cons.mpr ⟨List.mem_append_right _ (List.mem_append_right _ (List.mem_append_right _ (List.mem_append_left _ (List.mem_of_getElem? (i := 164) rfl)))), ?_⟩
  refine List.forall_mem_cons.mpr ⟨List.mem_append_right _ (List.mem_append_right _ (List.mem_append_right _ (List.mem_append_left _ (List.mem_of_getElem? (i := 160) rfl)))), ?_⟩
  refine List.forall_mem_cons.mpr ⟨List.mem_append_right _ (List.mem_append_right _ (List.mem_append_right _ (List.mem_append_left _ (List.mem_of_getElem? (i := 162) rfl)))), ?_⟩
  exact fun _ h => absurd h List.not_mem_nil
theorem wsL_law_r6_ok : wsL_law_r6.all goodWord = true := by decide +kernel
theorem wsL_law_r7_in : ∀ w ∈ wsL_law_r7, w ∈ lw_tbl := by
  unfold wsL_law_r7
  refine List.forall_mem_cons.mpr ⟨List.mem_append_left _ (List.mem_map.mpr ⟨_, List.mem_append_right _ (List.mem_append_right _ (List.mem_append_left _ (List.mem_of_getElem? (i := 10) rfl))), rfl⟩), ?_⟩
  refine List.forall_mem_cons.mpr ⟨List.mem_append_right _ (List.mem_append_right _ (List.mem_append_right _ (List.mem_append_left _ (List.mem_of_getElem? (i := 163) rfl)))), ?_⟩
  refine List.forall_mem_cons.mpr ⟨List.mem_append_right _ (List.mem_append_right _ (List.mem_append_right _ (List.mem_append_left _ (List.mem_of_getElem? (i := 165) rfl)))), ?_⟩
  refine List.forall_mem_cons.mpr ⟨List.mem_append_right _ (List.mem_append_right _ (List.mem_append_right _ (List.mem_append_left _ (List.mem_of_getElem? (i := 166) rfl)))), ?_⟩
  refine List.forall_mem_cons.mpr ⟨List.mem_append_right _ (List.mem_append_right _ (List.mem_append_right _ (List.mem_append_left _ (List.mem_of_getElem? (i := 167) rfl)))), ?_⟩
  refine List.forall_mem_cons.mpr ⟨List.mem_append_right _ (List.mem_append_right _ (List.mem_append_right _ (List.mem_append_left _ (List.mem_of_getElem? (i := 168) rfl)))), ?_⟩
  refine List.forall_mem_cons.mpr ⟨List.mem_append_right _ (List.mem_append_right _ (List.mem_append_right _ (List.mem_append_left _ (List.mem_of_getElem? (i := 170) rfl)))), ?_⟩
  refine List.forall_mem_cons.mpr ⟨List.mem_append_left _ (List.mem_map.mpr ⟨_, List.mem_append_right _ (List.mem_append_right _ (List.mem_append_left _ (List.mem_of_getElem? (i := 11) rfl))), rfl⟩), ?_⟩
  refine List.forall_mem_cons.mpr ⟨List.mem_append_right _ (List.mem_append_right _ (List.mem_append_right _ (List.mem_append_left _ (List.mem_of_getElem? (i := 171) rfl)))), ?_⟩
  refine List.forall_mem_cons.mpr ⟨List.mem_append_right _ (List.mem_append_left _ (List.mem_of_getElem? (i := 208) rfl)), ?_⟩
  refine List.forall_mem_cons.mpr ⟨List.mem_append_right _ (List.mem_append_left _ (List.mem_of_getElem? (i := 209) rfl)), ?_⟩
  refine List.forall_mem_cons.mpr ⟨List.mem_append_right _ (List.mem_append_left _ (List.mem_of_getElem? (i := 210) rfl)), ?_⟩
  refine List.forall_mem_cons.mpr ⟨List.mem_append_right _ (List.mem_append_left _ (List.mem_of_getElem? (i := 211) rfl)), ?_⟩
  refine List.forall_mem_cons.mpr ⟨List.mem_append_right _ (List.mem_append_left _ (List.mem_of_getElem? (i := 212) rfl)), ?_⟩
  refine List.forall_mem_cons.mpr ⟨List.mem_append_right _ (List.mem_append_left _ (List.mem_of_getElem? (i := 213) rfl)), ?_⟩
  refine List.forall_mem_cons.mpr ⟨List.mem_append_right _ (List.mem_append_left _ (List.mem_of_getElem? (i := 214) rfl)), ?_⟩
  refine List.forall_mem_cons.mpr ⟨List.mem_append_right _ (List.mem_append_right _ (List.mem_append_right _ (List.mem_append_left _ (List.mem_of_getElem? (i := 172) rfl)))), ?_⟩
  refine List.forall_mem_cons.mpr ⟨List.mem_append_right _ (List.mem_append_right _ (List.mem_append_right _ (List.mem_append_left _ (List.mem_of_getElem? (i := 173) rfl)))), ?_⟩
  refine List.forall_mem_cons.mpr ⟨List.mem_append_right _ (List.mem_append_right _ (List.mem_append_right _ (List.mem_append_left _ (List.mem_of_getElem? (i := 174) rfl)))), ?_⟩
  refine List.forall_mem_cons.mpr ⟨List.mem_append_right _ (List.mem_append_right _ (List.mem_append_right _ (List.mem_append_left _ (List.mem_of_getElem? (i := 175) rfl)))), ?_⟩
  refine List.forall_mem_cons.mpr ⟨List.mem_append_right _ (List.mem_append_right _ (List.mem_append_right _ (List.mem_append_left _ (List.mem_of_getElem? (i := 110) rfl)))), ?_⟩
  refine List.forall_mem_cons.mpr ⟨List.mem_append_right _ (List.mem_append_right _ (List.mem_append_right _ (List.mem_append_left _ (List.mem_of_getElem? (i := 176) rfl)))), ?_⟩
  refine List.forall_mem_cons.mpr ⟨List.mem_append_right _ (List.mem_append_right _ (List.mem_append_right _ (List.mem_append_left _ (List.mem_of_getElem? (i := 178) rfl)))), ?_⟩
  refine List.forall_mem_cons.mpr ⟨List.mem_append_left _ (List.mem_map.mpr ⟨_, List.mem_append_right _ (List.mem_append_right _ (List.mem_append_left _ (List.mem_of_getElem? (i := 12) rfl))), rfl⟩), ?_⟩
  exact fun _ h => absurd h List.not_mem_nil
theorem wsL_law_r7_ok : wsL_law_r7.all goodWord = true := by decide +kernel
theorem wsL_law_r8_in : ∀ w ∈ wsL_law_r8, w ∈ lw_tbl := by
  unfold wsL_law_r8
  refine List.forall_mem_cons.mpr ⟨List.mem_append_right _ (List.mem_append_right _ (List.mem_append_right _ (List.mem_append_left _ (List.mem_of_getElem? (i := 179) rfl)))), ?_⟩
  refine List.forall_mem_cons.mpr ⟨List.mem_append_right _ (List.mem_append_left _ (List.mem_of_getElem? (i := 215) rfl)), ?_⟩
  refine List.forall_mem_cons.mpr ⟨List.mem_append_right _ (List.mem_append_left _ (List.mem_of_getElem? (i := 216) rfl)), ?_⟩
  refine List.forall_mem_cons.mpr ⟨List.mem_append_right _ (List.mem_append_left _ (List.mem_of_getElem? (i := 217) rfl)), ?_⟩
  refine List.forall_mem_cons.mpr ⟨List.mem_append_right _ (List.mem_append_left _ (List.mem_of_getElem? (i := 218) rfl)), ?_⟩
  refine List.forall_mem_cons.mpr ⟨List.mem_append_right _ (List.mem_append_left _ (List.mem_of_getElem? (i := 221) rfl)), ?_⟩
  refine List.forall_mem_cons.mpr ⟨List.mem_append_left _ (List.mem_map.mpr ⟨_, List.mem_append_left _ (List.mem_of_getElem? (i := 5) rfl), rfl⟩), ?_⟩
  refine List.forall_mem_cons.mpr ⟨List.mem_append_right _ (List.mem_append_left _ (List.mem_of_getElem? (i := 222) rfl)), ?_⟩
  refine List.forall_mem_cons.mpr ⟨List.mem_append_right _ (List.mem_append_left _ (List.mem_of_getElem? (i := 74) rfl)), ?_⟩
  refine List.forall_mem_cons.mpr ⟨List.mem_append_right _ (List.mem_append_right _ (List.mem_append_right _ (List.mem_append_left _ (List.mem_of_getElem? (i := 180) rfl)))), ?_⟩
  refine List.forall_mem_cons.mpr ⟨List.mem_append_right _ (List.mem_append_right _ (List.mem_append_right _ (List.mem_append_left _ (List.mem_of_getElem? (i := 181) rfl)))), ?_⟩
  refine List.forall_mem_cons.mpr ⟨List.mem_append_right _ (List.mem_append_right _ (List.mem_append_right _ (List.mem_append_left _ (List.mem_of_getElem? (i := 182) rfl)))), ?_⟩
  refine List.forall_mem_cons.mpr ⟨List.mem_append_right _ (List.mem_append_right _ (List.mem_append_right _ (List.mem_append_left _ (List.mem_of_getElem? (i := 183) rfl)))), ?_⟩
  refine List.forall_mem_cons.mpr ⟨List.mem_append_right _ (List.mem_append_right _ (List.mem_append_right _ (List.mem_append_left _ (List.mem_of_getElem? (i := 184) rfl)))), ?_⟩
  refine List.forall_mem_cons.mpr ⟨List.mem_append_right _ (List.mem_append_right _ (List.mem_append_right _ (List.mem_append_left _ (List.mem_of_getElem? (i := 38) rfl)))), ?_⟩
  refine List.forall_mem_cons.mpr ⟨List.mem_append_right _ (List.mem_append_right _ (List.mem_append_right _ (List.mem_append_left _ (List.mem_of_getElem? (i := 185) rfl)))), ?_⟩
  refine List.forall_mem_cons.mpr ⟨List.mem_append_right _ (List.mem_append_right _ (List.mem_append_right _ (List.mem_append_left _ (List.mem_of_getElem? (i := 187) rfl)))), ?_⟩
  refine List.forall_mem_cons.mpr ⟨List.mem_append_left _ (List.mem_map.mpr ⟨_, List.mem_append_right _ (List.mem_append_right _ (List.mem_append_left _ (List.mem_of_getElem? (i := 13) rfl))), rfl⟩), ?_⟩
  refine List.forall_mem_cons.mpr ⟨List.mem_append_right _ (List.mem_append_right _ (List.mem_append_right _ (List.mem_append_left _ (List.mem_of_getElem? (i := 188) rfl)))), ?_⟩
  refine List.forall_mem_cons.mpr ⟨List.mem_append_right _ (List.mem_append_left _ (List.mem_of_getElem? (i := 223) rfl)), ?_⟩
  refine List.forall_mem_cons.mpr ⟨List.mem_append_right _ (List.mem_append_left _ (List.mem_of_getElem? (i := 224) rfl)), ?_⟩
  refine List.forall_mem_cons.mpr ⟨List.mem_append_right _ (List.mem_append_left _ (List.mem_of_getElem? (i := 225) rfl)), ?_⟩
  refine List.forall_mem_cons.mpr ⟨List.mem_append_right _ (List.mem_append_left _ (List.mem_of_getElem? (i := 226) rfl)), ?_⟩
  refine List.forall_mem_cons.mpr ⟨List.mem_append_right _ (List.mem_append_left _ (List.mem_of_getElem? (i := 227) rfl)), ?_⟩
  exact fun _ h => absurd h List.not_mem_nil
theorem wsL_law_r8_ok : wsL_law_r8.all goodWord = true := by decide +kernel
theorem wsL_law_r9_in : ∀ w ∈ wsL_law_r9, w ∈ lw_tbl := by
  unfold wsL_law_r9
  refine List.forall_mem_cons.mpr ⟨List.mem_append_right _ (List.mem_append_left _ (List.mem_of_getElem? (i := 229) rfl)), ?_⟩
  refine List.forall_mem_cons.mpr ⟨List.mem_append_left _ (List.mem_map.mpr ⟨_, List.mem_append_left _ (List.mem_of_getElem? (i := 6) rfl), rfl⟩), ?_⟩
  refine List.forall_mem_cons.mpr ⟨List.mem_append_right _ (List.mem_append_left _ (List.mem_of_getElem? (i := 230) rfl)), ?_⟩
  refine List.forall_mem_cons.mpr ⟨List.mem_append_right _ (List.mem_append_right _ (List.mem_append_right _ (List.mem_append_left _ (List.mem_of_getElem? (i := 189) rfl)))), ?_⟩
  refine List.forall_mem_cons.mpr ⟨List.mem_append_right _ (List.mem_append_right _ (List.mem_append_right _ (List.mem_append_left _ (List.mem_of_getElem? (i := 190) rfl)))), ?_⟩
  refine List.forall_mem_cons.mpr ⟨List.mem_append_right _ (List.mem_append_right _ (List.mem_append_right _ (List.mem_append_left _ (List.mem_of_getElem? (i := 191) rfl)))), ?_⟩
  refine List.forall_mem_cons.mpr ⟨List.mem_append_right _ (List.mem_append_right _ (List.mem_append_right _ (List.mem_append_left _ (List.mem_of_getElem? (i := 192) rfl)))), ?_⟩
  refine List.forall_mem_cons.mpr ⟨List.mem_append_right _ (List.mem_append_right _ (List.mem_append_right _ (List.mem_append_left _ (List.mem_of_getElem? (i := 103) rfl)))), ?_⟩
  refine List.forall_mem_cons.mpr ⟨List.mem_append_right _ (List.mem_append_right _ (List.mem_append_right _ (List.mem_append_left _ (List.mem_of_getElem? (i := 104) rfl)))), ?_⟩
  refine List.forall_mem_cons.mpr ⟨List.mem_append_right _ (List.mem_append_right _ (List.mem_append_right _ (List.mem_append_left _ (List.mem_of_getElem? (i := 105) rfl)))), ?_⟩
  refine List.forall_mem_cons.mpr ⟨List.mem_append_right _ (List.mem_append_right _ (List.mem_append_right _ (List.mem_append_left _ (List.mem_of_getElem? (i := 106) rfl)))), ?_⟩
  refine List.forall_mem_cons.mpr ⟨List.mem_append_right _ (List.mem_append_right _ (List.mem_append_right _ (List.mem_append_left _ (List.mem_of_getElem? (i := 111) rfl)))), ?_⟩
  refine List.forall_mem_cons.mpr ⟨List.mem_append_right _ (List.mem_append_right _ (List.mem_append_right _ (List.mem_append_left _ (List.mem_of_getElem? (i := 113) rfl)))), ?_⟩
  refine List.forall_mem_cons.mpr ⟨List.mem_append_left _ (List.mem_map.mpr ⟨_, List.mem_append_right _ (List.mem_append_right _ (List.mem_append_left _ (List.mem_of_getElem? (i := 6) rfl))), rfl⟩), ?_⟩
  refine List.forall_mem_cons.mpr ⟨List.mem_append_right _ (List.mem_append_right _ (List.mem_append_right _ (List.mem_append_left _ (List.mem_of_getElem? (i := 114) rfl)))), ?_⟩
  refine List.forall_mem_cons.mpr ⟨List.mem_append_right _ (List.mem_append_right _ (List.mem_append_right _ (List.mem_append_left _ (List.mem_of_getElem? (i := 32) rfl)))), ?_⟩
  refine List.forall_mem_cons.mpr ⟨List.mem_append_right _ (List.mem_append_right _ (List.mem_append_right _ (List.mem_append_left _ (List.mem_of_getElem? (i := 193) rfl)))), ?_⟩
  refine List.forall_mem_cons.mpr ⟨List.mem_append_right _ (List.mem_append_left _ (List.mem_of_getElem? (i := 231) rfl)), ?_⟩
  refine List.forall_mem_cons.mpr ⟨List.mem_append_right _ (List.mem_append_left _ (List.mem_of_getElem? (i := 232) rfl)), ?_⟩
  refine List.forall_mem_cons.mpr ⟨List.mem_append_right _ (List.mem_append_left _ (List.mem_of_getElem? (i := 233) rfl)), ?_⟩
  refine List.forall_mem_cons.mpr ⟨List.mem_append_right _ (List.mem_append_left _ (List.mem_of_getElem? (i := 234) rfl)), ?_⟩
  refine List.forall_mem_cons.mpr ⟨List.mem_append_right _ (List.mem_append_right _ (List.mem_append_right _ (List.mem_append_left _ (List.mem_of_getElem? (i := 194) rfl)))), ?_⟩
  refine List.forall_mem_cons.mpr ⟨List.mem_append_right _ (List.mem_append_right _ (List.mem_append_right _ (List.mem_append_left _ (List.mem_of_getElem? (i := 195) rfl)))), ?_⟩
  refine List.forall_mem_cons.mpr ⟨List.mem_append_right _ (List.mem_append_right _ (List.mem_append_right _ (List.mem_append_left _ (List.mem_of_getElem? (i := 196) rfl)))), ?_⟩
  exact fun _ h => absurd h List.not_mem_nil
theorem wsL_law_r9_ok : wsL_law_r9.all goodWord = true := by decide +kernel
theorem wsL_law_r10_in : ∀ w ∈ wsL_law_r10, w ∈ lw_tbl := by
  unfold wsL_law_r10
  refine List.forall_mem_cons.mpr ⟨List.mem_append_right _ (List.mem_append_right _ (List.mem_append_right _ (List.mem_append_left _ (List.mem_of_getElem? (i := 197) rfl)))), ?_⟩
  refine List.forall_mem_cons.mpr ⟨List.mem_append_right _ (List.mem_append_left _ (List.mem_of_getElem? (i := 235) rfl)), ?_⟩
  refine List.forall_mem_cons.mpr ⟨List.mem_append_right _ (List.mem_append_left _ (List.mem_of_getElem? (i := 236) rfl)), ?_⟩
  refine List.forall_mem_cons.mpr ⟨List.mem_append_right _ (List.mem_append_left _ (List.mem_of_getElem? (i := 237) rfl)), ?_⟩
  refine List.forall_mem_cons.mpr ⟨List.mem_append_right _ (List.mem_append_left _ (List.mem_of_getElem? (i := 238) rfl)), ?_⟩
  refine List.forall_mem_cons.mpr ⟨List.mem_append_right _ (List.mem_append_right _ (List.mem_append_right _ (List.mem_append_left _ (List.mem_of_getElem? (i := 198) rfl)))), ?_⟩
  refine List.forall_mem_cons.mpr ⟨List.mem_append_right _ (List.mem_append_right _ (List.mem_append_right _ (List.mem_append_left _ (List.mem_of_getElem? (i := 199) rfl)))), ?_⟩
  refine List.forall_mem_cons.mpr ⟨List.mem_append_right _ (List.mem_append_right _ (List.mem_append_right _ (List.mem_append_left _ (List.mem_of_getElem? (i := 200) rfl)))), ?_⟩
  refine List.forall_mem_cons.mpr ⟨List.mem_append_right _ (List.mem_append_right _ (List.mem_append_right _ (List.mem_append_left _ (List.mem_of_getElem? (i := 201) rfl)))), ?_⟩
  refine List.forall_mem_cons.mpr ⟨List.mem_append_right _ (List.mem_append_right _ (List.mem_append_right _ (List.mem_append_left _ (List.mem_of_getElem? (i := 202) rfl)))), ?_⟩
  refine List.forall_mem_cons.mpr ⟨List.mem_append_right _ (List.mem_append_right _ (List.mem_append_right _ (List.mem_append_left _ (List.mem_of_getElem? (i := 203) rfl)))), ?_⟩
  refine List.forall_mem_cons.mpr ⟨List.mem_append_right _ (List.mem_append_right _ (List.mem_append_right _ (List.mem_append_left _ (List.mem_of_getElem? (i := 204) rfl)))), ?_⟩
  refine List.forall_mem_cons.mpr ⟨List.mem_append_right _ (List.mem_append_left _ (List.mem_of_getElem? (i := 239) rfl)), ?_⟩
  refine List.forall_mem_cons.mpr ⟨List.mem_append_right _ (List.mem_append_right _ (List.mem_append_left _ (List.mem_of_getElem? (i := 0) rfl))), ?_⟩
  refine List.forall_mem_cons.mpr ⟨List.mem_append_right _ (List.mem_append_right _ (List.mem_append_left _ (List.mem_of_getElem? (i := 1) rfl))), ?_⟩
  refine List.forall_mem_cons.mpr ⟨List.mem_append_right _ (List.mem_append_right _ (List.mem_append_left _ (List.mem_of_getElem? (i := 2) rfl))), ?_⟩
  refine List.forall_mem_cons.mpr ⟨List.mem_append_right _ (List.mem_append_right _ (List.mem_append_left _ (List.mem_of_getElem? (i := 5) rfl))), ?_⟩
  refine List.forall_mem_cons.mpr ⟨List.mem_append_left _ (List.mem_map.mpr ⟨_, List.mem_append_left _ (List.mem_of_getElem? (i := 7) rfl), rfl⟩), ?_⟩
  refine List.forall_mem_cons.mpr ⟨List.mem_append_right _ (List.mem_append_right _ (List.mem_append_left _ (List.mem_of_getElem? (i := 6) rfl))), ?_⟩
  refine List.forall_mem_cons.mpr ⟨List.mem_append_right _ (List.mem_append_right _ (List.mem_append_left _ (List.mem_of_getElem? (i := 7) rfl))), ?_⟩
  refine List.forall_mem_cons.mpr ⟨List.mem_append_right _ (List.mem_append_right _ (List.mem_append_left _ (List.mem_of_getElem? (i := 9) rfl))), ?_⟩
  refine List.forall_mem_cons.mpr ⟨List.mem_append_left _ (List.mem_map.mpr ⟨_, List.mem_append_left _ (List.mem_of_getElem? (i := 8) rfl), rfl⟩), ?_⟩
  refine List.forall_mem_cons.mpr ⟨List.mem_append_right _ (List.mem_append_right _ (List.mem_append_left _ (List.mem_of_getElem? (i := 10) rfl))), ?_⟩
  refine List.forall_mem_cons.mpr ⟨List.mem_append_right _ (List.mem_append_right _ (List.mem_append_right _ (List.mem_append_left _ (List.mem_of_getElem? (i := 205) rfl)))), ?_⟩
  exact fun _ h => absurd h List.not_mem_nil
theorem wsL_law_r10_ok : wsL_law_r10.all goodWord = true := by decide +kernel
theorem wsL_law_r11_in : ∀ w ∈ wsL_law_r11, w ∈ lw_tbl := by
  unfold wsL_law_r11
  refine List.forall_mem_cons.mpr ⟨List.mem_append_right _ (List.mem_append_right _ (List.mem_append_right _ (List.mem_append_left _ (List.mem_of_getElem? (i := 206) rfl)))), ?_⟩
  refine List.forall_mem_cons.mpr ⟨List.mem_append_right _ (List.mem_append_right _ (List.mem_append_right _ (List.mem_append_left _ (List.mem_of_getElem? (i := 207) rfl)))), ?_⟩
  refine List.forall_mem_cons.mpr ⟨List.mem_append_right _ (List.mem_append_right _ (List.mem_append_right _ (List.mem_append_left _ (List.mem_of_getElem? (i := 208) rfl)))), ?_⟩
  refine List.forall_mem_cons.mpr ⟨List.mem_append_right _ (List.mem_append_right _ (List.mem_append_right _ (List.mem_append_left _ (List.mem_of_getElem? (i := 43) rfl)))), ?_⟩
  refine List.forall_mem_cons.mpr ⟨List.mem_append_right _ (List.mem_append_right _ (List.mem_append_right _ (List.mem_append_left _ (List.mem_of_getElem? (i := 209) rfl)))), ?_⟩
  refine List.forall_mem_cons.mpr ⟨List.mem_append_right _ (List.mem_append_right _ (List.mem_append_right _ (List.mem_append_left _ (List.mem_of_getElem? (i := 211) rfl)))), ?_⟩
  refine List.forall_mem_cons.mpr ⟨List.mem_append_left _ (List.mem_map.mpr ⟨_, List.mem_append_right _ (List.mem_append_right _ (List.mem_append_left _ (List.mem_of_getElem? (i := 14) rfl))), rfl⟩), ?_⟩
  refine List.forall_mem_cons.mpr ⟨List.mem_append_right _ (List.mem_append_right _ (List.mem_append_right _ (List.mem_append_left _ (List.mem_of_getElem? (i := 212) rfl)))), ?_⟩
  refine List.forall_mem_cons.mpr ⟨List.mem_append_right _ (List.mem_append_right _ (List.mem_append_right _ (List.mem_append_left _ (List.mem_of_getElem? (i := 213) rfl)))), ?_⟩
  refine List.forall_mem_cons.mpr ⟨List.mem_append_right _ (List.mem_append_right _ (List.mem_append_right _ (List.mem_append_left _ (List.mem_of_getElem? (i := 215) rfl)))), ?_⟩
  refine List.forall_mem_cons.mpr ⟨List.mem_append_left _ (List.mem_map.mpr ⟨_, List.mem_append_right _ (List.mem_append_right _ (List.mem_append_left _ (List.mem_of_getElem? (i := 15) rfl))), rfl⟩), ?_⟩
  refine List.forall_mem_cons.mpr ⟨List.mem_append_right _ (List.mem_append_right _ (List.mem_append_right _ (List.mem_append_left _ (List.mem_of_getElem? (i := 216) rfl)))), ?_⟩
  refine List.forall_mem_cons.mpr ⟨List.mem_append_right _ (List.mem_append_right _ (List.mem_append_right _ (List.mem_append_left _ (List.mem_of_getElem? (i := 42) rfl)))), ?_⟩
  refine List.forall_mem_cons.mpr ⟨List.mem_append_right _ (List.mem_append_right _ (List.mem_append_right _ (List.mem_append_left _ (List.mem_of_getElem? (i := 44) rfl)))), ?_⟩
  refine List.forall_mem_cons.mpr ⟨List.mem_append_right _ (List.mem_append_right _ (List.mem_append_right _ (List.mem_append_left _ (List.mem_of_getElem? (i := 217) rfl)))), ?_⟩
  refine List.forall_mem_cons.mpr ⟨List.mem_append_right _ (List.mem_append_right _ (List.mem_append_right _ (List.mem_append_left _ (List.mem_of_getElem? (i := 219) rfl)))), ?_⟩
  refine List.forall_mem_cons.mpr ⟨List.mem_append_left _ (List.mem_map.mpr ⟨_, List.mem_append_right _ (List.mem_append_right _ (List.mem_append_right _ (List.mem_append_left _ (List.mem_of_getElem? (i := 0) rfl)))), rfl⟩), ?_⟩
  refine List.forall_mem_cons.mpr ⟨List.mem_append_right _ (List.mem_append_right _ (List.mem_append_right _ (List.mem_append_left _ (List.mem_of_getElem? (i := 220) rfl)))), ?_⟩
  refine List.forall_mem_cons.mpr ⟨List.mem_append_right _ (List.mem_append_right _ (List.mem_append_right _ (List.mem_append_left _ (List.mem_of_getElem? (i := 221) rfl)))), ?_⟩
  refine List.forall_mem_cons.mpr ⟨List.mem_append_right _ (List.mem_append_right _ (List.mem_append_right _ (List.mem_append_left _ (List.mem_of_getElem? (i := 222) rfl)))), ?_⟩
  refine List.forall_mem_cons.mpr ⟨List.mem_append_right _ (List.mem_append_right _ (List.mem_append_right _ (List.mem_append_left _ (List.mem_of_getElem? (i := 223) rfl)))), ?_⟩
  refine List.forall_mem_cons.mpr ⟨List.mem_append_right _ (List.mem_append_right _ (List.mem_append_left _ (List.mem_of_getElem? (i := 12) rfl))), ?_⟩
  refine List.forall_mem_cons.mpr ⟨List.mem_append_right _ (List.mem_append_right _ (List.mem_append_left _ (List.mem_of_getElem? (i := 13) rfl))), ?_⟩
  refine List.forall_mem_cons.mpr ⟨List.mem_append_right _ (List.mem_append_right _ (List.mem_append_left _ (List.mem_of_getElem? (i := 14) rfl))), ?_⟩
  exact fun _ h => absurd h List.not_mem_nil
theorem wsL_law_r11_ok : wsL_law_r11.all goodWord = true := by decide +kernel
theorem wsL_law_r12_in : ∀ w ∈ wsL_law_r12, w ∈ lw_tbl := by
  unfold wsL_law_r12
  refine List.forall_mem_cons.mpr ⟨List.mem_append_right _ (List.mem_append_right _ (List.mem_append_left _ (List.mem_of_getElem? (i := 15) rfl))), ?_⟩
  refine List.forall_mem_cons.mpr ⟨List.mem_append_right _ (List.mem_append_right _ (List.mem_append_left _ (List.mem_of_getElem? (i := 18) rfl))), ?_⟩
  refine List.forall_mem_cons.mpr ⟨List.mem_append_left _ (List.mem_map.mpr ⟨_, List.mem_append_left _ (List.mem_of_getElem? (i := 9) rfl), rfl⟩), ?_⟩
  refine List.forall_mem_cons.mpr ⟨List.mem_append_right _ (List.mem_append_right _ (List.mem_append_left _ (List.mem_of_getElem? (i := 19) rfl))), ?_⟩
  refine List.forall_mem_cons.mpr ⟨List.mem_append_right _ (List.mem_append_right _ (List.mem_append_right _ (List.mem_append_left _ (List.mem_of_getElem? (i := 224) rfl)))), ?_⟩
  refine List.forall_mem_cons.mpr ⟨List.mem_append_right _ (List.mem_append_right _ (List.mem_append_right _ (List.mem_append_left _ (List.mem_of_getElem? (i := 225) rfl)))), ?_⟩
  refine List.forall_mem_cons.mpr ⟨List.mem_append_right _ (List.mem_append_right _ (List.mem_append_right _ (List.mem_append_left _ (List.mem_of_getElem? (i := 226) rfl)))), ?_⟩
  refine List.forall_mem_cons.mpr ⟨List.mem_append_right _ (List.mem_append_right _ (List.mem_append_right _ (List.mem_append_left _ (List.mem_of_getElem? (i := 227) rfl)))), ?_⟩
  refine List.forall_mem_cons.mpr ⟨List.mem_append_right _ (List.mem_append_right _ (List.mem_append_right _ (List.mem_append_left _ (List.mem_of_getElem? (i := 228) rfl)))), ?_⟩
  refine List.forall_mem_cons.mpr ⟨List.mem_append_right _ (List.mem_append_right _ (List.mem_append_right _ (List.mem_append_left _ (List.mem_of_getElem? (i := 230) rfl)))), ?_⟩
  refine List.forall_mem_cons.mpr ⟨List.mem_append_left _ (List.mem_map.mpr ⟨_, List.mem_append_right _ (List.mem_append_right _ (List.mem_append_right _ (List.mem_append_left _ (List.mem_of_getElem? (i := 1) rfl)))), rfl⟩), ?_⟩
  refine List.forall_mem_cons.mpr ⟨List.mem_append_right _ (List.mem_append_right _ (List.mem_append_right _ (List.mem_append_left _ (List.mem_of_getElem? (i := 231) rfl)))), ?_⟩
  refine List.forall_mem_cons.mpr ⟨List.mem_append_right _ (List.mem_append_right _ (List.mem_append_left _ (List.mem_of_getElem? (i := 20) rfl))), ?_⟩
  refine List.forall_mem_cons.mpr ⟨List.mem_append_right _ (List.mem_append_right _ (List.mem_append_left _ (List.mem_of_getElem? (i := 21) rfl))), ?_⟩
  refine List.forall_mem_cons.mpr ⟨List.mem_append_right _ (List.mem_append_right _ (List.mem_append_left _ (List.mem_of_getElem? (i := 22) rfl))), ?_⟩
  refine List.forall_mem_cons.mpr ⟨List.mem_append_right _ (List.mem_append_right _ (List.mem_append_left _ (List.mem_of_getElem? (i := 23) rfl))), ?_⟩
  refine List.forall_mem_cons.mpr ⟨List.mem_append_right _ (List.mem_append_right _ (List.mem_append_left _ (List.mem_of_getElem? (i := 24) rfl))), ?_⟩
  refine List.forall_mem_cons.mpr ⟨List.mem_append_right _ (List.mem_append_right _ (List.mem_append_left _ (List.mem_of_getElem? (i := 26) rfl))), ?_⟩
  refine List.forall_mem_cons.mpr ⟨List.mem_append_left _ (List.mem_map.mpr ⟨_, List.mem_append_left _ (List.mem_of_getElem? (i := 10) rfl), rfl⟩), ?_⟩
  refine List.forall_mem_cons.mpr ⟨List.mem_append_right _ (List.mem_append_right _ (List.mem_append_left _ (List.mem_of_getElem? (i := 27) rfl))), ?_⟩
  refine List.forall_mem_cons.mpr ⟨List.mem_append_right _ (List.mem_append_right _ (List.mem_append_left _ (List.mem_of_getElem? (i := 30) rfl))), ?_⟩
  refine List.forall_mem_cons.mpr ⟨List.mem_append_left _ (List.mem_map.mpr ⟨_, List.mem_append_left _ (List.mem_of_getElem? (i := 11) rfl), rfl⟩), ?_⟩
  refine List.forall_mem_cons.mpr ⟨List.mem_append_right _ (List.mem_append_right _ (List.mem_append_left _ (List.mem_of_getElem? (i := 31) rfl))), ?_⟩
  refine List.forall_mem_cons.mpr ⟨List.mem_append_right _ (List.mem_append_right _ (List.mem_append_left _ (List.mem_of_getElem? (i := 32) rfl))), ?_⟩
  exact fun _ h => absurd h List.not_mem_nil
theorem wsL_law_r12_ok : wsL_law_r12.all goodWord = true := by decide +kernel
theorem wsL_law_r13_in : ∀ w ∈ wsL_law_r13, w ∈ lw_tbl := by
  unfold wsL_law_r13
  refine List.forall_mem_cons.mpr ⟨List.mem_append_right _ (List.mem_append_right _ (List.mem_append_left _ (List.mem_of_getElem? (i := 34) rfl))), ?_⟩
  refine List.forall_mem_cons.mpr ⟨List.mem_append_right _ (List.mem_append_right _ (List.mem_append_left _ (List.mem_of_getElem? (i := 35) rfl))), ?_⟩
  refine List.forall_mem_cons.mpr ⟨List.mem_append_right _ (List.mem_append_right _ (List.mem_append_left _ (List.mem_of_getElem? (i := 38) rfl))), ?_⟩
  refine List.forall_mem_cons.mpr ⟨List.mem_append_left _ (List.mem_map.mpr ⟨_, List.mem_append_left _ (List.mem_of_getElem? (i := 12) rfl), rfl⟩), ?_⟩
  refine List.forall_mem_cons.mpr ⟨List.mem_append_right _ (List.mem_append_right _ (List.mem_append_left _ (List.mem_of_getElem? (i := 39) rfl))), ?_⟩
  refine List.forall_mem_cons.mpr ⟨List.mem_append_right _ (List.mem_append_right _ (List.mem_append_left _ (List.mem_of_getElem? (i := 40) rfl))), ?_⟩
  refine List.forall_mem_cons.mpr ⟨List.mem_append_right _ (List.mem_append_right _ (List.mem_append_left _ (List.mem_of_getElem? (i := 42) rfl))), ?_⟩
  refine List.forall_mem_cons.mpr ⟨List.mem_append_left _ (List.mem_map.mpr ⟨_, List.mem_append_left _ (List.mem_of_getElem? (i := 13) rfl), rfl⟩), ?_⟩
  refine List.forall_mem_cons.mpr ⟨List.mem_append_right _ (List.mem_append_right _ (List.mem_append_left _ (List.mem_of_getElem? (i := 43) rfl))), ?_⟩
  refine List.forall_mem_cons.mpr ⟨List.mem_append_right _ (List.mem_append_right _ (List.mem_append_left _ (List.mem_of_getElem? (i := 44) rfl))), ?_⟩
  refine List.forall_mem_cons.mpr ⟨List.mem_append_right _ (List.mem_append_right _ (List.mem_append_left _ (List.mem_of_getElem? (i := 47) rfl))), ?_⟩
  refine List.forall_mem_cons.mpr ⟨List.mem_append_left _ (List.mem_map.mpr ⟨_, List.mem_append_left _ (List.mem_of_getElem? (i := 14) rfl), rfl⟩), ?_⟩
  refine List.forall_mem_cons.mpr ⟨List.mem_append_right _ (List.mem_append_right _ (List.mem_append_left _ (List.mem_of_getElem? (i := 48) rfl))), ?_⟩
  refine List.forall_mem_cons.mpr ⟨List.mem_append_right _ (List.mem_append_right _ (List.mem_append_left _ (List.mem_of_getElem? (i := 50) rfl))), ?_⟩
  refine List.forall_mem_cons.mpr ⟨List.mem_append_right _ (List.mem_append_right _ (List.mem_append_left _ (List.mem_of_getElem? (i := 52) rfl))), ?_⟩
  refine List.forall_mem_cons.mpr ⟨List.mem_append_left _ (List.mem_map.mpr ⟨_, List.mem_append_left _ (List.mem_of_getElem? (i := 15) rfl), rfl⟩), ?_⟩
  refine List.forall_mem_cons.mpr ⟨List.mem_append_right _ (List.mem_append_right _ (List.mem_append_left _ (List.mem_of_getElem? (i := 53) rfl))), ?_⟩
  refine List.forall_mem_cons.mpr ⟨List.mem_append_right _ (List.mem_append_right _ (List.mem_append_left _ (List.mem_of_getElem? (i := 56) rfl))), ?_⟩
  refine List.forall_mem_cons.mpr ⟨List.mem_append_left _ (List.mem_map.mpr ⟨_, List.mem_append_right _ (List.mem_append_left _ (List.mem_of_getElem? (i := 0) rfl)), rfl⟩), ?_⟩
  refine List.forall_mem_cons.mpr ⟨List.mem_append_right _ (List.mem_append_right _ (List.mem_append_left _ (List.mem_of_getElem? (i := 57) rfl))), ?_⟩
  refine List.forall_mem_cons.mpr ⟨List.mem_append_right _ (List.mem_append_right _ (List.mem_append_right _ (List.mem_append_left _ (List.mem_of_getElem? (i := 232) rfl)))), ?_⟩
  refine List.forall_mem_cons.mpr ⟨List.mem_append_right _ (List.mem_append_right _ (List.mem_append_right _ (List.mem_append_left _ (List.mem_of_getElem? (i := 233) rfl)))), ?_⟩
  refine List.forall_mem_cons.mpr ⟨List.mem_append_right _ (List.mem_append_right _ (List.mem_append_right _ (List.mem_append_left _ (List.mem_of_getElem? (i := 234) rfl)))), ?_⟩
  refine List.forall_mem_cons.mpr ⟨List.mem_append_right _ (List.mem_append_right _ (List.mem_append_right _ (List.mem_append_left _ (List.mem_of_getElem? (i := 235) rfl)))), ?_⟩
  exact fun _ h => absurd h List.not_mem_nil
theorem wsL_law_r13_ok : wsL_law_r13.all goodWord = true := by decide +kernel
theorem wsL_law_r14_in : ∀ w ∈ wsL_law_r14, w ∈ lw_tbl := by
  unfold wsL_law_r14
  refine List.forall_mem_cons.mpr ⟨List.mem_append_right _ (List.mem_append_right _ (List.mem_append_right _ (List.mem_append_left _ (List.mem_of_getElem? (i := 236) rfl)))), ?_⟩
  refine List.forall_mem_cons.mpr ⟨List.mem_append_right _ (List.mem_append_right _ (List.mem_append_right _ (List.mem_append_left _ (List.mem_of_getElem? (i := 237) rfl)))), ?_⟩
  refine List.forall_mem_cons.mpr ⟨List.mem_append_right _ (List.mem_append_right _ (List.mem_append_right _ (List.mem_append_left _ (List.mem_of_getElem? (i := 238) rfl)))), ?_⟩
  refine List.forall_mem_cons.mpr ⟨List.mem_append_right _ (List.mem_append_right _ (List.mem_append_right _ (List.mem_append_left _ (List.mem_of_getElem? (i := 239) rfl)))), ?_⟩
  refine List.forall_mem_cons.mpr ⟨List.mem_append_right _ (List.mem_append_right _ (List.mem_append_right _ (List.mem_append_right _ (List.mem_of_getElem? (i := 1) rfl)))), ?_⟩
  refine List.forall_mem_cons.mpr ⟨List.mem_append_left _ (List.mem_map.mpr ⟨_, List.mem_append_right _ (List.mem_append_right _ (List.mem_append_right _ (List.mem_append_left _ (List.mem_of_getElem? (i := 2) rfl)))), rfl⟩), ?_⟩
  refine List.forall_mem_cons.mpr ⟨List.mem_append_right _ (List.mem_append_right _ (List.mem_append_right _ (List.mem_append_right _ (List.mem_of_getElem? (i := 2) rfl)))), ?_⟩
  refine List.forall_mem_cons.mpr ⟨List.mem_append_right _ (List.mem_append_right _ (List.mem_append_right _ (List.mem_append_right _ (List.mem_of_getElem? (i := 3) rfl)))), ?_⟩
  refine List.forall_mem_cons.mpr ⟨List.mem_append_right _ (List.mem_append_right _ (List.mem_append_right _ (List.mem_append_right _ (List.mem_of_getElem? (i := 5) rfl)))), ?_⟩
  refine List.forall_mem_cons.mpr ⟨List.mem_append_left _ (List.mem_map.mpr ⟨_, List.mem_append_right _ (List.mem_append_right _ (List.mem_append_right _ (List.mem_append_left _ (List.mem_of_getElem? (i := 3) rfl)))), rfl⟩), ?_⟩
  refine List.forall_mem_cons.mpr ⟨List.mem_append_right _ (List.mem_append_right _ (List.mem_append_right _ (List.mem_append_right _ (List.mem_of_getElem? (i := 6) rfl)))), ?_⟩
  refine List.forall_mem_cons.mpr ⟨List.mem_append_right _ (List.mem_append_right _ (List.mem_append_right _ (List.mem_append_right _ (List.mem_of_getElem? (i := 7) rfl)))), ?_⟩
  refine List.forall_mem_cons.mpr ⟨List.mem_append_right _ (List.mem_append_right _ (List.mem_append_right _ (List.mem_append_right _ (List.mem_of_getElem? (i := 9) rfl)))), ?_⟩
  refine List.forall_mem_cons.mpr ⟨List.mem_append_left _ (List.mem_map.mpr ⟨_, List.mem_append_right _ (List.mem_append_right _ (List.mem_append_right _ (List.mem_append_left _ (List.mem_of_getElem? (i := 4) rfl)))), rfl⟩), ?_⟩
  refine List.forall_mem_cons.mpr ⟨List.mem_append_right _ (List.mem_append_right _ (List.mem_append_right _ (List.mem_append_right _ (List.mem_of_getElem? (i := 10) rfl)))), ?_⟩
  refine List.forall_mem_cons.mpr ⟨List.mem_append_right _ (List.mem_append_right _ (List.mem_append_left _ (List.mem_of_getElem? (i := 58) rfl))), ?_⟩
  refine List.forall_mem_cons.mpr ⟨List.mem_append_right _ (List.mem_append_right _ (List.mem_append_left _ (List.mem_of_getElem? (i := 59) rfl))), ?_⟩
  refine List.forall_mem_cons.mpr ⟨List.mem_append_right _ (List.mem_append_right _ (List.mem_append_left _ (List.mem_of_getElem? (i := 60) rfl))), ?_⟩
  refine List.forall_mem_cons.mpr ⟨List.mem_append_right _ (List.mem_append_right _ (List.mem_append_left _ (List.mem_of_getElem? (i := 61) rfl))), ?_⟩
  refine List.forall_mem_cons.mpr ⟨List.mem_append_right _ (List.mem_append_right _ (List.mem_append_left _ (List.mem_of_getElem? (i := 65) rfl))), ?_⟩
  refine List.forall_mem_cons.mpr ⟨List.mem_append_left _ (List.mem_map.mpr ⟨_, List.mem_append_right _ (List.mem_append_left _ (List.mem_of_getElem? (i := 1) rfl)), rfl⟩), ?_⟩
  refine List.forall_mem_cons.mpr ⟨List.mem_append_right _ (List.mem_append_right _ (List.mem_append_left _ (List.mem_of_getElem? (i := 66) rfl))), ?_⟩
  refine List.forall_mem_cons.mpr ⟨List.mem_append_right _ (List.mem_append_right _ (List.mem_append_right _ (List.mem_append_right _ (List.mem_of_getElem? (i := 11) rfl)))), ?_⟩
  refine List.forall_mem_cons.mpr ⟨List.mem_append_right _ (List.mem_append_right _ (List.mem_append_right _ (List.mem_append_right _ (List.mem_of_getElem? (i := 12) rfl)))), ?_⟩
  exact fun _ h => absurd h List.not_mem_nil
theorem wsL_law_r14_ok : wsL_law_r14.all goodWord = true := by decide +kernel
theorem wsL_law_r15_in : ∀ w ∈ wsL_law_r15, w ∈ lw_tbl := by
  unfold wsL_law_r15
  refine List.forall_mem_cons.mpr ⟨List.mem_append_right _ (List.mem_append_right _ (List.mem_append_right _ (List.mem_append_right _ (List.mem_of_getElem? (i := 13) rfl)))), ?_⟩
  refine List.forall_mem_cons.mpr ⟨List.mem_append_right _ (List.mem_append_right _ (List.mem_append_right _ (List.mem_append_right _ (List.mem_of_getElem? (i := 14) rfl)))), ?_⟩
  refine List.forall_mem_cons.mpr ⟨List.mem_append_right _ (List.mem_append_right _ (List.mem_append_right _ (List.mem_append_right _ (List.mem_of_getElem? (i := 15) rfl)))), ?_⟩
  refine List.forall_mem_cons.mpr ⟨List.mem_append_right _ (List.mem_append_right _ (List.mem_append_right _ (List.mem_append_right _ (List.mem_of_getElem? (i := 17) rfl)))), ?_⟩
  refine List.forall_mem_cons.mpr ⟨List.mem_append_left _ (List.mem_map.mpr ⟨_, List.mem_append_right _ (List.mem_append_right _ (List.mem_append_right _ (List.mem_append_left _ (List.mem_of_getElem? (i := 5) rfl)))), rfl⟩), ?_⟩
  refine List.forall_mem_cons.mpr ⟨List.mem_append_right _ (List.mem_append_right _ (List.mem_append_right _ (List.mem_append_right _ (List.mem_of_getElem? (i := 18) rfl)))), ?_⟩
  refine List.forall_mem_cons.mpr ⟨List.mem_append_right _ (List.mem_append_right _ (List.mem_append_left _ (List.mem_of_getElem? (i := 68) rfl))), ?_⟩
  refine List.forall_mem_cons.mpr ⟨List.mem_append_right _ (List.mem_append_right _ (List.mem_append_left _ (List.mem_of_getElem? (i := 69) rfl))), ?_⟩
  refine List.forall_mem_cons.mpr ⟨List.mem_append_right _ (List.mem_append_right _ (List.mem_append_left _ (List.mem_of_getElem? (i := 70) rfl))), ?_⟩
  refine List.forall_mem_cons.mpr ⟨List.mem_append_right _ (List.mem_append_right _ (List.mem_append_left _ (List.mem_of_getElem? (i := 71) rfl))), ?_⟩
  refine List.forall_mem_cons.mpr ⟨List.mem_append_right _ (List.mem_append_right _ (List.mem_append_right _ (List.mem_append_right _ (List.mem_of_getElem? (i := 19) rfl)))), ?_⟩
  refine List.forall_mem_cons.mpr ⟨List.mem_append_right _ (List.mem_append_right _ (List.mem_append_right _ (List.mem_append_right _ (List.mem_of_getElem? (i := 20) rfl)))), ?_⟩
  refine List.forall_mem_cons.mpr ⟨List.mem_append_right _ (List.mem_append_right _ (List.mem_append_right _ (List.mem_append_right _ (List.mem_of_getElem? (i := 21) rfl)))), ?_⟩
  refine List.forall_mem_cons.mpr ⟨List.mem_append_right _ (List.mem_append_right _ (List.mem_append_right _ (List.mem_append_right _ (List.mem_of_getElem? (i := 22) rfl)))), ?_⟩
  refine List.forall_mem_cons.mpr ⟨List.mem_append_right _ (List.mem_append_right _ (List.mem_append_right _ (List.mem_append_right _ (List.mem_of_getElem? (i := 23) rfl)))), ?_⟩
  refine List.forall_mem_cons.mpr ⟨List.mem_append_right _ (List.mem_append_right _ (List.mem_append_right _ (List.mem_append_right _ (List.mem_of_getElem? (i := 25) rfl)))), ?_⟩
  refine List.forall_mem_cons.mpr ⟨List.mem_append_left _ (List.mem_map.mpr ⟨_, List.mem_append_right _ (List.mem_append_right _ (List.mem_append_right _ (List.mem_append_left _ (List.mem_of_getElem? (i := 6) rfl)))), rfl⟩), ?_⟩
  refine List.forall_mem_cons.mpr ⟨List.mem_append_right _ (List.mem_append_right _ (List.mem_append_right _ (List.mem_append_right _ (List.mem_of_getElem? (i := 26) rfl)))), ?_⟩
  refine List.forall_mem_cons.mpr ⟨List.mem_append_right _ (List.mem_append_right _ (List.mem_append_left _ (List.mem_of_getElem? (i := 72) rfl))), ?_⟩
  refine List.forall_mem_cons.mpr ⟨List.mem_append_right _ (List.mem_append_right _ (List.mem_append_left _ (List.mem_of_getElem? (i := 73) rfl))), ?_⟩
  refine List.forall_mem_cons.mpr ⟨List.mem_append_right _ (List.mem_append_right _ (List.mem_append_left _ (List.mem_of_getElem? (i := 74) rfl))), ?_⟩
  refine List.forall_mem_cons.mpr ⟨List.mem_append_right _ (List.mem_append_right _ (List.mem_append_left _ (List.mem_of_getElem? (i := 75) rfl))), ?_⟩
  refine List.forall_mem_cons.mpr ⟨List.mem_append_right _ (List.mem_append_right _ (List.mem_append_left _ (List.mem_of_getElem? (i := 76) rfl))), ?_⟩
  refine List.forall_mem_cons.mpr ⟨List.mem_append_right _ (List.mem_append_right _ (List.mem_append_left _ (List.mem_of_getElem? (i := 77) rfl))), ?_⟩
  exact fun _ h => absurd h List.not_mem_nil
theorem wsL_law_r15_ok : wsL_law_r15.all goodWord = true := by decide +kernel
theorem wsL_law_r16_in : ∀ w ∈ wsL_law_r16, w ∈ lw_tbl := by
  unfold wsL_law_r16
  refine List.forall_mem_cons.mpr ⟨List.mem_append_right _ (List.mem_append_right _ (List.mem_append_left _ (List.mem_of_getElem? (i := 78) rfl))), ?_⟩
  refine List.forall_mem_cons.mpr ⟨List.mem_append_right _ (List.mem_append_right _ (List.mem_append_right _ (List.mem_append_right _ (List.mem_of_getElem? (i := 27) rfl)))), ?_⟩
  refine List.forall_mem_cons.mpr ⟨List.mem_append_right _ (List.mem_append_right _ (List.mem_append_right _ (List.mem_append_right _ (List.mem_of_getElem? (i := 28) rfl)))), ?_⟩
  refine List.forall_mem_cons.mpr ⟨List.mem_append_right _ (List.mem_append_right _ (List.mem_append_right _ (List.mem_append_right _ (List.mem_of_getElem? (i := 29) rfl)))), ?_⟩
  refine List.forall_mem_cons.mpr ⟨List.mem_append_right _ (List.mem_append_right _ (List.mem_append_right _ (List.mem_append_right _ (List.mem_of_getElem? (i := 30) rfl)))), ?_⟩
  refine List.forall_mem_cons.mpr ⟨List.mem_append_right _ (List.mem_append_right _ (List.mem_append_right _ (List.mem_append_right _ (List.mem_of_getElem? (i := 31) rfl)))), ?_⟩
  refine List.forall_mem_cons.mpr ⟨List.mem_append_right _ (List.mem_append_right _ (List.mem_append_right _ (List.mem_append_right _ (List.mem_of_getElem? (i := 33) rfl)))), ?_⟩
  refine List.forall_mem_cons.mpr ⟨List.mem_append_left _ (List.mem_map.mpr ⟨_, List.mem_append_right _ (List.mem_append_right _ (List.mem_append_right _ (List.mem_append_left _ (List.mem_of_getElem? (i := 7) rfl)))), rfl⟩), ?_⟩
  refine List.forall_mem_cons.mpr ⟨List.mem_append_right _ (List.mem_append_right _ (List.mem_append_right _ (List.mem_append_right _ (List.mem_of_getElem? (i := 34) rfl)))), ?_⟩
  refine List.forall_mem_cons.mpr ⟨List.mem_append_right _ (List.mem_append_right _ (List.mem_append_right _ (List.mem_append_right _ (List.mem_of_getElem? (i := 35) rfl)))), ?_⟩
  refine List.forall_mem_cons.mpr ⟨List.mem_append_right _ (List.mem_append_right _ (List.mem_append_right _ (List.mem_append_right _ (List.mem_of_getElem? (i := 36) rfl)))), ?_⟩
  refine List.forall_mem_cons.mpr ⟨List.mem_append_right _ (List.mem_append_right _ (List.mem_append_right _ (List.mem_append_right _ (List.mem_of_getElem? (i := 37) rfl)))), ?_⟩
  refine List.forall_mem_cons.mpr ⟨List.mem_append_right _ (List.mem_append_right _ (List.mem_append_left _ (List.mem_of_getElem? (i := 79) rfl))), ?_⟩
  refine List.forall_mem_cons.mpr ⟨List.mem_append_right _ (List.mem_append_right _ (List.mem_append_left _ (List.mem_of_getElem? (i := 80) rfl))), ?_⟩
  refine List.forall_mem_cons.mpr ⟨List.mem_append_right _ (List.mem_append_right _ (List.mem_append_left _ (List.mem_of_getElem? (i := 81) rfl))), ?_⟩
  refine List.forall_mem_cons.mpr ⟨List.mem_append_right _ (List.mem_append_right _ (List.mem_append_left _ (List.mem_of_getElem? (i := 82) rfl))), ?_⟩
  refine List.forall_mem_cons.mpr ⟨List.mem_append_right _ (List.mem_append_right _ (List.mem_append_left _ (List.mem_of_getElem? (i := 85) rfl))), ?_⟩
  refine List.forall_mem_cons.mpr ⟨List.mem_append_left _ (List.mem_map.mpr ⟨_, List.mem_append_right _ (List.mem_append_left _ (List.mem_of_getElem? (i := 2) rfl)), rfl⟩), ?_⟩
  refine List.forall_mem_cons.mpr ⟨List.mem_append_right _ (List.mem_append_right _ (List.mem_append_left _ (List.mem_of_getElem? (i := 86) rfl))), ?_⟩
  refine List.forall_mem_cons.mpr ⟨List.mem_append_right _ (List.mem_append_left _ (List.mem_of_getElem? (i := 93) rfl)), ?_⟩
  refine List.forall_mem_cons.mpr ⟨List.mem_append_right _ (List.mem_append_left _ (List.mem_of_getElem? (i := 94) rfl)), ?_⟩
  refine List.forall_mem_cons.mpr ⟨List.mem_append_right _ (List.mem_append_right _ (List.mem_append_left _ (List.mem_of_getElem? (i := 91) rfl))), ?_⟩
  refine List.forall_mem_cons.mpr ⟨List.mem_append_left _ (List.mem_map.mpr ⟨_, List.mem_append_right _ (List.mem_append_left _ (List.mem_of_getElem? (i := 3) rfl)), rfl⟩), ?_⟩
  refine List.forall_mem_cons.mpr ⟨List.mem_append_right _ (List.mem_append_right _ (List.mem_append_left _ (List.mem_of_getElem? (i := 92) rfl))), ?_⟩
  exact fun _ h => absurd h List.not_mem_nil
theorem wsL_law_r16_ok : wsL_law_r16.all goodWord = true := by decide +kernel
theorem wsL_law_r17_in : ∀ w ∈ wsL_law_r17, w ∈ lw_tbl := by
  unfold wsL_law_r17
  refine List.forall_mem_cons.mpr ⟨List.mem_append_right _ (List.mem_append_right _ (List.mem_append_left _ (List.mem_of_getElem? (i := 97) rfl))), ?_⟩
  refine List.forall_mem_cons.mpr ⟨List.mem_append_left _ (List.mem_map.mpr ⟨_, List.mem_append_right _ (List.mem_append_left _ (List.mem_of_getElem? (i := 4) rfl)), rfl⟩), ?_⟩
  refine List.forall_mem_cons.mpr ⟨List.mem_append_right _ (List.mem_append_right _ (List.mem_append_left _ (List.mem_of_getElem? (i := 98) rfl))), ?_⟩
  refine List.forall_mem_cons.mpr ⟨List.mem_append_right _ (List.mem_append_right _ (List.mem_append_left _ (List.mem_of_getElem? (i := 102) rfl))), ?_⟩
  refine List.forall_mem_cons.mpr ⟨List.mem_append_left _ (List.mem_map.mpr ⟨_, List.mem_append_right _ (List.mem_append_left _ (List.mem_of_getElem? (i := 5) rfl)), rfl⟩), ?_⟩
  refine List.forall_mem_cons.mpr ⟨List.mem_append_right _ (List.mem_append_right _ (List.mem_append_left _ (List.mem_of_getElem? (i := 103) rfl))), ?_⟩
  refine List.forall_mem_cons.mpr ⟨List.mem_append_right _ (List.mem_append_right _ (List.mem_append_left _ (List.mem_of_getElem? (i := 104) rfl))), ?_⟩
  refine List.forall_mem_cons.mpr ⟨List.mem_append_right _ (List.mem_append_right _ (List.mem_append_left _ (List.mem_of_getElem? (i := 106) rfl))), ?_⟩
  refine List.forall_mem_cons.mpr ⟨List.mem_append_left _ (List.mem_map.mpr ⟨_, List.mem_append_right _ (List.mem_append_left _ (List.mem_of_getElem? (i := 6) rfl)), rfl⟩), ?_⟩
  refine List.forall_mem_cons.mpr ⟨List.mem_append_right _ (List.mem_append_right _ (List.mem_append_left _ (List.mem_of_getElem? (i := 107) rfl))), ?_⟩
  refine List.forall_mem_cons.mpr ⟨List.mem_append_right _ (List.mem_append_right _ (List.mem_append_left _ (List.mem_of_getElem? (i := 108) rfl))), ?_⟩
  refine List.forall_mem_cons.mpr ⟨List.mem_append_right _ (List.mem_append_right _ (List.mem_append_left _ (List.mem_of_getElem? (i := 110) rfl))), ?_⟩
  refine List.forall_mem_cons.mpr ⟨List.mem_append_left _ (List.mem_map.mpr ⟨_, List.mem_append_right _ (List.mem_append_left _ (List.mem_of_getElem? (i := 7) rfl)), rfl⟩), ?_⟩
  refine List.forall_mem_cons.mpr ⟨List.mem_append_right _ (List.mem_append_right _ (List.mem_append_left _ (List.mem_of_getElem? (i := 111) rfl))), ?_⟩
  refine List.forall_mem_cons.mpr ⟨List.mem_append_right _ (List.mem_append_right _ (List.mem_append_left _ (List.mem_of_getElem? (i := 114) rfl))), ?_⟩
  refine List.forall_mem_cons.mpr ⟨List.mem_append_right _ (List.mem_append_right _ (List.mem_append_left _ (List.mem_of_getElem? (i := 115) rfl))), ?_⟩
  refine List.forall_mem_cons.mpr ⟨List.mem_append_right _ (List.mem_append_right _ (List.mem_append_right _ (List.mem_append_right _ (List.mem_of_getElem? (i := 38) rfl)))), ?_⟩
  refine List.forall_mem_cons.mpr ⟨List.mem_append_right _ (List.mem_append_right _ (List.mem_append_right _ (List.mem_append_right _ (List.mem_of_getElem? (i := 39) rfl)))), ?_⟩
  refine List.forall_mem_cons.mpr ⟨List.mem_append_right _ (List.mem_append_right _ (List.mem_append_right _ (List.mem_append_right _ (List.mem_of_getElem? (i := 40) rfl)))), ?_⟩
  refine List.forall_mem_cons.mpr ⟨List.mem_append_right _ (List.mem_append_right _ (List.mem_append_right _ (List.mem_append_right _ (List.mem_of_getElem? (i := 41) rfl)))), ?_⟩
  refine List.forall_mem_cons.mpr ⟨List.mem_append_right _ (List.mem_append_right _ (List.mem_append_right _ (List.mem_append_right _ (List.mem_of_getElem? (i := 42) rfl)))), ?_⟩
  refine List.forall_mem_cons.mpr ⟨List.mem_append_right _ (List.mem_append_right _ (List.mem_append_right _ (List.mem_append_right _ (List.mem_of_getElem? (i := 43) rfl)))), ?_⟩
  refine List.forall_mem_cons.mpr ⟨List.mem_append_right _ (List.mem_append_right _ (List.mem_append_right _ (List.mem_append_right _ (List.mem_of_getElem? (i := 45) rfl)))), ?_⟩
  refine List.forall_mem_cons.mpr ⟨List.mem_append_left _ (List.mem_map.mpr ⟨_, List.mem_append_right _ (List.mem_append_right _ (List.mem_append_right _ (List.mem_append_left _ (List.mem_of_getElem? (i := 8) rfl)))), rfl⟩), ?_⟩
  exact fun _ h => absurd h List.not_mem_nil
theorem wsL_law_r17_ok : wsL_law_r17.all goodWord = true := by decide +kernel
theorem wsL_law_r18_in : ∀ w ∈ wsL_law_r18, w ∈ lw_tbl := by
  unfold wsL_law_r18
  refine List.forall_mem_cons.mpr ⟨List.mem_append_right _ (List.mem_append_right _ (List.mem_append_right _ (List.mem_append_right _ (List.mem_of_getElem? (i := 46) rfl)))), ?_⟩
  refine List.forall_mem_cons.mpr ⟨List.mem_append_right _ (List.mem_append_right _ (List.mem_append_right _ (List.mem_append_right _ (List.mem_of_getElem? (i := 47) rfl)))), ?_⟩
  refine List.forall_mem_cons.mpr ⟨List.mem_append_right _ (List.mem_append_right _ (List.mem_append_right _ (List.mem_append_right _ (List.mem_of_getElem? (i := 49) rfl)))), ?_⟩
  refine List.forall_mem_cons.mpr ⟨List.mem_append_left _ (List.mem_map.mpr ⟨_, List.mem_append_right _ (List.mem_append_right _ (List.mem_append_right _ (List.mem_append_left _ (List.mem_of_getElem? (i := 9) rfl)))), rfl⟩), ?_⟩
  refine List.forall_mem_cons.mpr ⟨List.mem_append_right _ (List.mem_append_right _ (List.mem_append_right _ (List.mem_append_right _ (List.mem_of_getElem? (i := 50) rfl)))), ?_⟩
  refine List.forall_mem_cons.mpr ⟨List.mem_append_right _ (List.mem_append_right _ (List.mem_append_right _ (List.mem_append_right _ (List.mem_of_getElem? (i := 51) rfl)))), ?_⟩
  refine List.forall_mem_cons.mpr ⟨List.mem_append_right _ (List.mem_append_right _ (List.mem_append_right _ (List.mem_append_right _ (List.mem_of_getElem? (i := 53) rfl)))), ?_⟩
  refine List.forall_mem_cons.mpr ⟨List.mem_append_left _ (List.mem_map.mpr ⟨_, List.mem_append_right _ (List.mem_append_right _ (List.mem_append_right _ (List.mem_append_left _ (List.mem_of_getElem? (i := 10) rfl)))), rfl⟩), ?_⟩
  refine List.forall_mem_cons.mpr ⟨List.mem_append_right _ (List.mem_append_right _ (List.mem_append_right _ (List.mem_append_right _ (List.mem_of_getElem? (i := 54) rfl)))), ?_⟩
  refine List.forall_mem_cons.mpr ⟨List.mem_append_right _ (List.mem_append_right _ (List.mem_append_right _ (List.mem_append_right _ (List.mem_of_getElem? (i := 55) rfl)))), ?_⟩
  refine List.forall_mem_cons.mpr ⟨List.mem_append_right _ (List.mem_append_right _ (List.mem_append_right _ (List.mem_append_right _ (List.mem_of_getElem? (i := 57) rfl)))), ?_⟩
  refine List.forall_mem_cons.mpr ⟨List.mem_append_left _ (List.mem_map.mpr ⟨_, List.mem_append_right _ (List.mem_append_right _ (List.mem_append_right _ (List.mem_append_left _ (List.mem_of_getElem? (i := 11) rfl)))), rfl⟩), ?_⟩
  refine List.forall_mem_cons.mpr ⟨List.mem_append_right _ (List.mem_append_right _ (List.mem_append_right _ (List.mem_append_right _ (List.mem_of_getElem? (i := 58) rfl)))), ?_⟩
  refine List.forall_mem_cons.mpr ⟨List.mem_append_right _ (List.mem_append_right _ (List.mem_append_left _ (List.mem_of_getElem? (i := 116) rfl))), ?_⟩
  refine List.forall_mem_cons.mpr ⟨List.mem_append_right _ (List.mem_append_right _ (List.mem_append_left _ (List.mem_of_getElem? (i := 117) rfl))), ?_⟩
  refine List.forall_mem_cons.mpr ⟨List.mem_append_right _ (List.mem_append_right _ (List.mem_append_left _ (List.mem_of_getElem? (i := 118) rfl))), ?_⟩
  refine List.forall_mem_cons.mpr ⟨List.mem_append_right _ (List.mem_append_right _ (List.mem_append_left _ (List.mem_of_getElem? (i := 119) rfl))), ?_⟩
  refine List.forall_mem_cons.mpr ⟨List.mem_append_right _ (List.mem_append_right _ (List.mem_append_left _ (List.mem_of_getElem? (i := 122) rfl))), ?_⟩
  refine List.forall_mem_cons.mpr ⟨List.mem_append_left _ (List.mem_map.mpr ⟨_, List.mem_append_right _ (List.mem_append_left _ (List.mem_of_getElem? (i := 8) rfl)), rfl⟩), ?_⟩
  refine List.forall_mem_cons.mpr ⟨List.mem_append_right _ (List.mem_append_right _ (List.mem_append_left _ (List.mem_of_getElem? (i := 123) rfl))), ?_⟩
  refine List.forall_mem_cons.mpr ⟨List.mem_append_right _ (List.mem_append_right _ (List.mem_append_right _ (List.mem_append_right _ (List.mem_of_getElem? (i := 59) rfl)))), ?_⟩
  refine List.forall_mem_cons.mpr ⟨List.mem_append_right _ (List.mem_append_right _ (List.mem_append_right _ (List.mem_append_right _ (List.mem_of_getElem? (i := 60) rfl)))), ?_⟩
  refine List.forall_mem_cons.mpr ⟨List.mem_append_right _ (List.mem_append_right _ (List.mem_append_right _ (List.mem_append_right _ (List.mem_of_getElem? (i := 61) rfl)))), ?_⟩
  refine List.forall_mem_cons.mpr ⟨List.mem_append_right _ (List.mem_append_right _ (List.mem_append_right _ (List.mem_append_right _ (List.mem_of_getElem? (i := 62) rfl)))), ?_⟩
  exact fun _ h => absurd h List.not_mem_nil
theorem wsL_law_r18_ok : wsL_law_r18.all goodWord = true := by decide +kernel
theorem wsL_law_r19_in : ∀ w ∈ wsL_law_r19, w ∈ lw_tbl := by
  unfold wsL_law_r19
  refine List.forall_mem_cons.mpr ⟨List.mem_append_right _ (List.mem_append_right _ (List.mem_append_right _ (List.mem_append_right _ (List.mem_of_getElem? (i := 63) rfl)))), ?_⟩
  refine List.forall_mem_cons.mpr ⟨List.mem_append_right _ (List.mem_append_right _ (List.mem_append_right _ (List.mem_append_right _ (List.mem_of_getElem? (i := 65) rfl)))), ?_⟩
  refine List.forall_mem_cons.mpr ⟨List.mem_append_left _ (List.mem_map.mpr ⟨_, List.mem_append_right _ (List.mem_append_right _ (List.mem_append_right _ (List.mem_append_left _ (List.mem_of_getElem? (i := 12) rfl)))), rfl⟩), ?_⟩
  refine List.forall_mem_cons.mpr ⟨List.mem_append_right _ (List.mem_append_right _ (List.mem_append_right _ (List.mem_append_right _ (List.mem_of_getElem? (i := 66) rfl)))), ?_⟩
  refine List.forall_mem_cons.mpr ⟨List.mem_append_right _ (List.mem_append_right _ (List.mem_append_right _ (List.mem_append_right _ (List.mem_of_getElem? (i := 67) rfl)))), ?_⟩
  refine List.forall_mem_cons.mpr ⟨List.mem_append_right _ (List.mem_append_right _ (List.mem_append_right _ (List.mem_append_right _ (List.mem_of_getElem? (i := 69) rfl)))), ?_⟩
  refine List.forall_mem_cons.mpr ⟨List.mem_append_left _ (List.mem_map.mpr ⟨_, List.mem_append_right _ (List.mem_append_right _ (List.mem_append_right _ (List.mem_append_left _ (List.mem_of_getElem? (i := 13) rfl)))), rfl⟩), ?_⟩
  refine List.forall_mem_cons.mpr ⟨List.mem_append_right _ (List.mem_append_right _ (List.mem_append_right _ (List.mem_append_right _ (List.mem_of_getElem? (i := 70) rfl)))), ?_⟩
  refine List.forall_mem_cons.mpr ⟨List.mem_append_right _ (List.mem_append_right _ (List.mem_append_left _ (List.mem_of_getElem? (i := 124) rfl))), ?_⟩
  refine List.forall_mem_cons.mpr ⟨List.mem_append_right _ (List.mem_append_right _ (List.mem_append_left _ (List.mem_of_getElem? (i := 125) rfl))), ?_⟩
  refine List.forall_mem_cons.mpr ⟨List.mem_append_right _ (List.mem_append_right _ (List.mem_append_left _ (List.mem_of_getElem? (i := 126) rfl))), ?_⟩
  refine List.forall_mem_cons.mpr ⟨List.mem_append_right _ (List.mem_append_right _ (List.mem_append_left _ (List.mem_of_getElem? (i := 127) rfl))), ?_⟩
  refine List.forall_mem_cons.mpr ⟨List.mem_append_right _ (List.mem_append_right _ (List.mem_append_left _ (List.mem_of_getElem? (i := 130) rfl))), ?_⟩
  refine List.forall_mem_cons.mpr ⟨List.mem_append_left _ (List.mem_map.mpr ⟨_, List.mem_append_right _ (List.mem_append_left _ (List.mem_of_getElem? (i := 9) rfl)), rfl⟩), ?_⟩
  refine List.forall_mem_cons.mpr ⟨List.mem_append_right _ (List.mem_append_right _ (List.mem_append_left _ (List.mem_of_getElem? (i := 131) rfl))), ?_⟩
  refine List.forall_mem_cons.mpr ⟨List.mem_append_right _ (List.mem_append_right _ (List.mem_append_left _ (List.mem_of_getElem? (i := 132) rfl))), ?_⟩
  refine List.forall_mem_cons.mpr ⟨List.mem_append_right _ (List.mem_append_right _ (List.mem_append_left _ (List.mem_of_getElem? (i := 134) rfl))), ?_⟩
  refine List.forall_mem_cons.mpr ⟨List.mem_append_left _ (List.mem_map.mpr ⟨_, List.mem_append_right _ (List.mem_append_left _ (List.mem_of_getElem? (i := 10) rfl)), rfl⟩), ?_⟩
  refine List.forall_mem_cons.mpr ⟨List.mem_append_right _ (List.mem_append_right _ (List.mem_append_left _ (List.mem_of_getElem? (i := 135) rfl))), ?_⟩
  refine List.forall_mem_cons.mpr ⟨List.mem_append_right _ (List.mem_append_right _ (List.mem_append_left _ (List.mem_of_getElem? (i := 136) rfl))), ?_⟩
  refine List.forall_mem_cons.mpr ⟨List.mem_append_right _ (List.mem_append_right _ (List.mem_append_left _ (List.mem_of_getElem? (i := 138) rfl))), ?_⟩
  refine List.forall_mem_cons.mpr ⟨List.mem_append_left _ (List.mem_map.mpr ⟨_, List.mem_append_right _ (List.mem_append_left _ (List.mem_of_getElem? (i := 11) rfl)), rfl⟩), ?_⟩
  refine List.forall_mem_cons.mpr ⟨List.mem_append_right _ (List.mem_append_right _ (List.mem_append_left _ (List.mem_of_getElem? (i := 139) rfl))), ?_⟩
  refine List.forall_mem_cons.mpr ⟨List.mem_append_right _ (List.mem_append_right _ (List.mem_append_left _ (List.mem_of_getElem? (i := 140) rfl))), ?_⟩
  exact fun _ h => absurd h List.not_mem_nil
theorem wsL_law_r19_ok : wsL_law_r19.all goodWord = true := by decide +kernel
theorem wsL_law_r20_in : ∀ w ∈ wsL_law_r20, w ∈ lw_tbl := by
  unfold wsL_law_r20
  refine List.forall_mem_cons.mpr ⟨List.mem_append_right _ (List.mem_append_right _ (List.mem_append_left _ (List.mem_of_getElem? (i := 142) rfl))), ?_⟩
  refine List.forall_mem_cons.mpr ⟨List.mem_append_left _ (List.mem_map.mpr ⟨_, List.mem_append_right _ (List.mem_append_left _ (List.mem_of_getElem? (i := 12) rfl)), rfl⟩), ?_⟩
  refine List.forall_mem_cons.mpr ⟨List.mem_append_right _ (List.mem_append_right _ (List.mem_append_left _ (List.mem_of_getElem? (i := 143) rfl))), ?_⟩
  refine List.forall_mem_cons.mpr ⟨List.mem_append_right _ (List.mem_append_right _ (List.mem_append_right _ (List.mem_append_right _ (List.mem_of_getElem? (i := 71) rfl)))), ?_⟩
  refine List.forall_mem_cons.mpr ⟨List.mem_append_right _ (List.mem_append_right _ (List.mem_append_right _ (List.mem_append_right _ (List.mem_of_getElem? (i := 72) rfl)))), ?_⟩
  refine List.forall_mem_cons.mpr ⟨List.mem_append_right _ (List.mem_append_right _ (List.mem_append_right _ (List.mem_append_right _ (List.mem_of_getElem? (i := 73) rfl)))), ?_⟩
  refine List.forall_mem_cons.mpr ⟨List.mem_append_right _ (List.mem_append_right _ (List.mem_append_right _ (List.mem_append_right _ (List.mem_of_getElem? (i := 74) rfl)))), ?_⟩
  refine List.forall_mem_cons.mpr ⟨List.mem_append_right _ (List.mem_append_right _ (List.mem_append_right _ (List.mem_append_right _ (List.mem_of_getElem? (i := 75) rfl)))), ?_⟩
  refine List.forall_mem_cons.mpr ⟨List.mem_append_right _ (List.mem_append_right _ (List.mem_append_right _ (List.mem_append_right _ (List.mem_of_getElem? (i := 77) rfl)))), ?_⟩
  refine List.forall_mem_cons.mpr ⟨List.mem_append_left _ (List.mem_map.mpr ⟨_, List.mem_append_right _ (List.mem_append_right _ (List.mem_append_right _ (List.mem_append_left _ (List.mem_of_getElem? (i := 14) rfl)))), rfl⟩), ?_⟩
  refine List.forall_mem_cons.mpr ⟨List.mem_append_right _ (List.mem_append_right _ (List.mem_append_right _ (List.mem_append_right _ (List.mem_of_getElem? (i := 78) rfl)))), ?_⟩
  refine List.forall_mem_cons.mpr ⟨List.mem_append_right _ (List.mem_append_right _ (List.mem_append_right _ (List.mem_append_left _ (List.mem_of_getElem? (i := 47) rfl)))), ?_⟩
  refine List.forall_mem_cons.mpr ⟨List.mem_append_right _ (List.mem_append_right _ (List.mem_append_right _ (List.mem_append_left _ (List.mem_of_getElem? (i := 46) rfl)))), ?_⟩
  refine List.forall_mem_cons.mpr ⟨List.mem_append_right _ (List.mem_append_right _ (List.mem_append_right _ (List.mem_append_right _ (List.mem_of_getElem? (i := 79) rfl)))), ?_⟩
  refine List.forall_mem_cons.mpr ⟨List.mem_append_right _ (List.mem_append_right _ (List.mem_append_right _ (List.mem_append_right _ (List.mem_of_getElem? (i := 81) rfl)))), ?_⟩
  refine List.forall_mem_cons.mpr ⟨List.mem_append_left _ (List.mem_map.mpr ⟨_, List.mem_append_right _ (List.mem_append_right _ (List.mem_append_right _ (List.mem_append_left _ (List.mem_of_getElem? (i := 15) rfl)))), rfl⟩), ?_⟩
  refine List.forall_mem_cons.mpr ⟨List.mem_append_right _ (List.mem_append_right _ (List.mem_append_right _ (List.mem_append_right _ (List.mem_of_getElem? (i := 82) rfl)))), ?_⟩
  refine List.forall_mem_cons.mpr ⟨List.mem_append_right _ (List.mem_append_right _ (List.mem_append_right _ (List.mem_append_right _ (List.mem_of_getElem? (i := 83) rfl)))), ?_⟩
  refine List.forall_mem_cons.mpr ⟨List.mem_append_right _ (List.mem_append_right _ (List.mem_append_right _ (List.mem_append_right _ (List.mem_of_getElem? (i := 85) rfl)))), ?_⟩
  refine List.forall_mem_cons.mpr ⟨List.mem_append_left _ (List.mem_map.mpr ⟨_, List.mem_append_right _ (List.mem_append_right _ (List.mem_append_right _ (List.mem_append_right _ (List.mem_of_getElem? (i := 0) rfl)))), rfl⟩), ?_⟩
  refine List.forall_mem_cons.mpr ⟨List.mem_append_right _ (List.mem_append_right _ (List.mem_append_right _ (List.mem_append_right _ (List.mem_of_getElem? (i := 86) rfl)))), ?_⟩
  refine List.forall_mem_cons.mpr ⟨List.mem_append_right _ (List.mem_append_right _ (List.mem_append_left _ (List.mem_of_getElem? (i := 146) rfl))), ?_⟩
  refine List.forall_mem_cons.mpr ⟨List.mem_append_right _ (List.mem_append_right _ (List.mem_append_left _ (List.mem_of_getElem? (i := 147) rfl))), ?_⟩
  refine List.forall_mem_cons.mpr ⟨List.mem_append_right _ (List.mem_append_right _ (List.mem_append_left _ (List.mem_of_getElem? (i := 148) rfl))), ?_⟩
  exact fun _ h => absurd h List.not_mem_nil
theorem wsL_law_r20_ok : wsL_law_r20.all goodWord = true := by decide +kernel
theorem wsL_law_r21_in : ∀ w ∈ wsL_law_r21, w ∈ lw_tbl := by
  unfold wsL_law_r21
  refine List.forall_mem_cons.mpr ⟨List.mem_append_right _ (List.mem_append_right _ (List.mem_append_left _ (List.mem_of_getElem? (i := 149) rfl))), ?_⟩
  refine List.forall_mem_cons.mpr ⟨List.mem_append_right _ (List.mem_append_left _ (List.mem_of_getElem? (i := 145) rfl)), ?_⟩
  refine List.forall_mem_cons.mpr ⟨List.mem_append_right _ (List.mem_append_left _ (List.mem_of_getElem? (i := 146) rfl)), ?_⟩
  refine List.forall_mem_cons.mpr ⟨List.mem_append_right _ (List.mem_append_left _ (List.mem_of_getElem? (i := 147) rfl)), ?_⟩
  refine List.forall_mem_cons.mpr ⟨List.mem_append_right _ (List.mem_append_right _ (List.mem_append_right _ (List.mem_append_right _ (List.mem_of_getElem? (i := 87) rfl)))), ?_⟩
  refine List.forall_mem_cons.mpr ⟨List.mem_append_right _ (List.mem_append_right _ (List.mem_append_right _ (List.mem_append_right _ (List.mem_of_getElem? (i := 88) rfl)))), ?_⟩
  refine List.forall_mem_cons.mpr ⟨List.mem_append_right _ (List.mem_append_right _ (List.mem_append_right _ (List.mem_append_right _ (List.mem_of_getElem? (i := 89) rfl)))), ?_⟩
  refine List.forall_mem_cons.mpr ⟨List.mem_append_right _ (List.mem_append_right _ (List.mem_append_right _ (List.mem_append_right _ (List.mem_of_getElem? (i := 90) rfl)))), ?_⟩
  refine List.forall_mem_cons.mpr ⟨List.mem_append_right _ (List.mem_append_right _ (List.mem_append_right _ (List.mem_append_left _ (List.mem_of_getElem? (i := 48) rfl)))), ?_⟩
  refine List.forall_mem_cons.mpr ⟨List.mem_append_right _ (List.mem_append_right _ (List.mem_append_left _ (List.mem_of_getElem? (i := 150) rfl))), ?_⟩
  refine List.forall_mem_cons.mpr ⟨List.mem_append_right _ (List.mem_append_right _ (List.mem_append_left _ (List.mem_of_getElem? (i := 151) rfl))), ?_⟩
  refine List.forall_mem_cons.mpr ⟨List.mem_append_right _ (List.mem_append_right _ (List.mem_append_left _ (List.mem_of_getElem? (i := 152) rfl))), ?_⟩
  refine List.forall_mem_cons.mpr ⟨List.mem_append_right _ (List.mem_append_right _ (List.mem_append_left _ (List.mem_of_getElem? (i := 153) rfl))), ?_⟩
  refine List.forall_mem_cons.mpr ⟨List.mem_append_right _ (List.mem_append_right _ (List.mem_append_right _ (List.mem_append_right _ (List.mem_of_getElem? (i := 91) rfl)))), ?_⟩
  refine List.forall_mem_cons.mpr ⟨List.mem_append_right _ (List.mem_append_right _ (List.mem_append_right _ (List.mem_append_right _ (List.mem_of_getElem? (i := 92) rfl)))), ?_⟩
  refine List.forall_mem_cons.mpr ⟨List.mem_append_right _ (List.mem_append_right _ (List.mem_append_right _ (List.mem_append_right _ (List.mem_of_getElem? (i := 93) rfl)))), ?_⟩
  refine List.forall_mem_cons.mpr ⟨List.mem_append_right _ (List.mem_append_right _ (List.mem_append_right _ (List.mem_append_right _ (List.mem_of_getElem? (i := 94) rfl)))), ?_⟩
  refine List.forall_mem_cons.mpr ⟨List.mem_append_right _ (List.mem_append_right _ (List.mem_append_left _ (List.mem_of_getElem? (i := 154) rfl))), ?_⟩
  refine List.forall_mem_cons.mpr ⟨List.mem_append_right _ (List.mem_append_right _ (List.mem_append_left _ (List.mem_of_getElem? (i := 155) rfl))), ?_⟩
  refine List.forall_mem_cons.mpr ⟨List.mem_append_right _ (List.mem_append_right _ (List.mem_append_left _ (List.mem_of_getElem? (i := 156) rfl))), ?_⟩
  refine List.forall_mem_cons.mpr ⟨List.mem_append_right _ (List.mem_append_right _ (List.mem_append_left _ (List.mem_of_getElem? (i := 157) rfl))), ?_⟩
  refine List.forall_mem_cons.mpr ⟨List.mem_append_right _ (List.mem_append_right _ (List.mem_append_right _ (List.mem_append_right _ (List.mem_of_getElem? (i := 95) rfl)))), ?_⟩
  refine List.forall_mem_cons.mpr ⟨List.mem_append_right _ (List.mem_append_right _ (List.mem_append_right _ (List.mem_append_right _ (List.mem_of_getElem? (i := 96) rfl)))), ?_⟩
  refine List.forall_mem_cons.mpr ⟨List.mem_append_right _ (List.mem_append_right _ (List.mem_append_right _ (List.mem_append_right _ (List.mem_of_getElem? (i := 97) rfl)))), ?_⟩
  exact fun _ h => absurd h List.not_mem_nil
theorem wsL_law_r21_ok : wsL_law_r21.all goodWord = true := by decide +kernel
theorem wsL_law_r22_in : ∀ w ∈ wsL_law_r22, w ∈ lw_tbl := by
  unfold wsL_law_r22
  refine List.forall_mem_cons.mpr ⟨List.mem_append_right _ (List.mem_append_right _ (List.mem_append_right _ (List.mem_append_right _ (List.mem_of_getElem? (i := 98) rfl)))), ?_⟩
  refine List.forall_mem_cons.mpr ⟨List.mem_append_right _ (List.mem_append_right _ (List.mem_append_right _ (List.mem_append_right _ (List.mem_of_getElem? (i := 99) rfl)))), ?_⟩
  refine List.forall_mem_cons.mpr ⟨List.mem_append_right _ (List.mem_append_right _ (List.mem_append_right _ (List.mem_append_right _ (List.mem_of_getElem? (i := 101) rfl)))), ?_⟩
  refine List.forall_mem_cons.mpr ⟨List.mem_append_left _ (List.mem_map.mpr ⟨_, List.mem_append_right _ (List.mem_append_right _ (List.mem_append_right _ (List.mem_append_right _ (List.mem_of_getElem? (i := 1) rfl)))), rfl⟩), ?_⟩
  refine List.forall_mem_cons.mpr ⟨List.mem_append_right _ (List.mem_append_right _ (List.mem_append_right _ (List.mem_append_right _ (List.mem_of_getElem? (i := 102) rfl)))), ?_⟩
  refine List.forall_mem_cons.mpr ⟨List.mem_append_right _ (List.mem_append_right _ (List.mem_append_left _ (List.mem_of_getElem? (i := 158) rfl))), ?_⟩
  refine List.forall_mem_cons.mpr ⟨List.mem_append_right _ (List.mem_append_right _ (List.mem_append_left _ (List.mem_of_getElem? (i := 159) rfl))), ?_⟩
  refine List.forall_mem_cons.mpr ⟨List.mem_append_right _ (List.mem_append_right _ (List.mem_append_left _ (List.mem_of_getElem? (i := 160) rfl))), ?_⟩
  refine List.forall_mem_cons.mpr ⟨List.mem_append_right _ (List.mem_append_right _ (List.mem_append_left _ (List.mem_of_getElem? (i := 161) rfl))), ?_⟩
  refine List.forall_mem_cons.mpr ⟨List.mem_append_right _ (List.mem_append_right _ (List.mem_append_left _ (List.mem_of_getElem? (i := 164) rfl))), ?_⟩
  refine List.forall_mem_cons.mpr ⟨List.mem_append_left _ (List.mem_map.mpr ⟨_, List.mem_append_right _ (List.mem_append_left _ (List.mem_of_getElem? (i := 13) rfl)), rfl⟩), ?_⟩
  refine List.forall_mem_cons.mpr ⟨List.mem_append_right _ (List.mem_append_right _ (List.mem_append_left _ (List.mem_of_getElem? (i := 165) rfl))), ?_⟩
  refine List.forall_mem_cons.mpr ⟨List.mem_append_right _ (List.mem_append_left _ (List.mem_of_getElem? (i := 99) rfl)), ?_⟩
  refine List.forall_mem_cons.mpr ⟨List.mem_append_right _ (List.mem_append_left _ (List.mem_of_getElem? (i := 95) rfl)), ?_⟩
  refine List.forall_mem_cons.mpr ⟨List.mem_append_right _ (List.mem_append_left _ (List.mem_of_getElem? (i := 97) rfl)), ?_⟩
  refine List.forall_mem_cons.mpr ⟨List.mem_append_right _ (List.mem_append_right _ (List.mem_append_left _ (List.mem_of_getElem? (i := 166) rfl))), ?_⟩
  refine List.forall_mem_cons.mpr ⟨List.mem_append_right _ (List.mem_append_right _ (List.mem_append_left _ (List.mem_of_getElem? (i := 167) rfl))), ?_⟩
  refine List.forall_mem_cons.mpr ⟨List.mem_append_right _ (List.mem_append_left _ (List.mem_of_getElem? (i := 8) rfl)), ?_⟩
  refine List.forall_mem_cons.mpr ⟨List.mem_append_right _ (List.mem_append_right _ (List.mem_append_left _ (List.mem_of_getElem? (i := 168) rfl))), ?_⟩
  refine List.forall_mem_cons.mpr ⟨List.mem_append_right _ (List.mem_append_right _ (List.mem_append_left _ (List.mem_of_getElem? (i := 169) rfl))), ?_⟩
  refine List.forall_mem_cons.mpr ⟨List.mem_append_right _ (List.mem_append_right _ (List.mem_append_left _ (List.mem_of_getElem? (i := 171) rfl))), ?_⟩
  refine List.forall_mem_cons.mpr ⟨List.mem_append_left _ (List.mem_map.mpr ⟨_, List.mem_append_right _ (List.mem_append_left _ (List.mem_of_getElem? (i := 14) rfl)), rfl⟩), ?_⟩
  refine List.forall_mem_cons.mpr ⟨List.mem_append_right _ (List.mem_append_right _ (List.mem_append_left _ (List.mem_of_getElem? (i := 172) rfl))), ?_⟩
  refine List.forall_mem_cons.mpr ⟨List.mem_append_right _ (List.mem_append_right _ (List.mem_append_left _ (List.mem_of_getElem? (i := 174) rfl))), ?_⟩
  exact fun _ h => absurd h List.not_mem_nil
theorem wsL_law_r22_ok : wsL_law_r22.all goodWord = true := by decide +kernel
theorem wsL_law_r23_in : ∀ w ∈ wsL_law_r23, w ∈ lw_tbl := by
  unfold wsL_law_r23
  refine List.forall_mem_cons.mpr ⟨List.mem_append_right _ (List.mem_append_right _ (List.mem_append_left _ (List.mem_of_getElem? (i := 173) rfl))), ?_⟩
  refine List.forall_mem_cons.mpr ⟨List.mem_append_right _ (List.mem_append_right _ (List.mem_append_left _ (List.mem_of_getElem? (i := 177) rfl))), ?_⟩
  refine List.forall_mem_cons.mpr ⟨List.mem_append_left _ (List.mem_map.mpr ⟨_, List.mem_append_right _ (List.mem_append_left _ (List.mem_of_getElem? (i := 15) rfl)), rfl⟩), ?_⟩
  refine List.forall_mem_cons.mpr ⟨List.mem_append_right _ (List.mem_append_right _ (List.mem_append_left _ (List.mem_of_getElem? (i := 178) rfl))), ?_⟩
  refine List.forall_mem_cons.mpr ⟨List.mem_append_right _ (List.mem_append_right _ (List.mem_append_right _ (List.mem_append_right _ (List.mem_of_getElem? (i := 103) rfl)))), ?_⟩
  refine List.forall_mem_cons.mpr ⟨List.mem_append_right _ (List.mem_append_right _ (List.mem_append_right _ (List.mem_append_right _ (List.mem_of_getElem? (i := 104) rfl)))), ?_⟩
  refine List.forall_mem_cons.mpr ⟨List.mem_append_right _ (List.mem_append_right _ (List.mem_append_right _ (List.mem_append_right _ (List.mem_of_getElem? (i := 105) rfl)))), ?_⟩
  refine List.forall_mem_cons.mpr ⟨List.mem_append_right _ (List.mem_append_right _ (List.mem_append_right _ (List.mem_append_right _ (List.mem_of_getElem? (i := 106) rfl)))), ?_⟩
  refine List.forall_mem_cons.mpr ⟨List.mem_append_right _ (List.mem_append_right _ (List.mem_append_right _ (List.mem_append_right _ (List.mem_of_getElem? (i := 107) rfl)))), ?_⟩
  refine List.forall_mem_cons.mpr ⟨List.mem_append_right _ (List.mem_append_right _ (List.mem_append_right _ (List.mem_append_right _ (List.mem_of_getElem? (i := 108) rfl)))), ?_⟩
  refine List.forall_mem_cons.mpr ⟨List.mem_append_right _ (List.mem_append_right _ (List.mem_append_right _ (List.mem_append_right _ (List.mem_of_getElem? (i := 110) rfl)))), ?_⟩
  refine List.forall_mem_cons.mpr ⟨List.mem_append_left _ (List.mem_map.mpr ⟨_, List.mem_append_right _ (List.mem_append_right _ (List.mem_append_right _ (List.mem_append_right _ (List.mem_of_getElem? (i := 2) rfl)))), rfl⟩), ?_⟩
  refine List.forall_mem_cons.mpr ⟨List.mem_append_right _ (List.mem_append_right _ (List.mem_append_right _ (List.mem_append_right _ (List.mem_of_getElem? (i := 111) rfl)))), ?_⟩
  refine List.forall_mem_cons.mpr ⟨List.mem_append_right _ (List.mem_append_right _ (List.mem_append_right _ (List.mem_append_left _ (List.mem_of_getElem? (i := 50) rfl)))), ?_⟩
  refine List.forall_mem_cons.mpr ⟨List.mem_append_right _ (List.mem_append_right _ (List.mem_append_right _ (List.mem_append_right _ (List.mem_of_getElem? (i := 112) rfl)))), ?_⟩
  refine List.forall_mem_cons.mpr ⟨List.mem_append_right _ (List.mem_append_right _ (List.mem_append_right _ (List.mem_append_right _ (List.mem_of_getElem? (i := 114) rfl)))), ?_⟩
  refine List.forall_mem_cons.mpr ⟨List.mem_append_left _ (List.mem_map.mpr ⟨_, List.mem_append_right _ (List.mem_append_right _ (List.mem_append_right _ (List.mem_append_right _ (List.mem_of_getElem? (i := 3) rfl)))), rfl⟩), ?_⟩
  refine List.forall_mem_cons.mpr ⟨List.mem_append_right _ (List.mem_append_right _ (List.mem_append_right _ (List.mem_append_right _ (List.mem_of_getElem? (i := 115) rfl)))), ?_⟩
  refine List.forall_mem_cons.mpr ⟨List.mem_append_right _ (List.mem_append_right _ (List.mem_append_right _ (List.mem_append_right _ (List.mem_of_getElem? (i := 116) rfl)))), ?_⟩
  refine List.forall_mem_cons.mpr ⟨List.mem_append_right _ (List.mem_append_right _ (List.mem_append_right _ (List.mem_append_right _ (List.mem_of_getElem? (i := 117) rfl)))), ?_⟩
  refine List.forall_mem_cons.mpr ⟨List.mem_append_right _ (List.mem_append_right _ (List.mem_append_right _ (List.mem_append_right _ (List.mem_of_getElem? (i := 118) rfl)))), ?_⟩
  refine List.forall_mem_cons.mpr ⟨List.mem_append_right _ (List.mem_append_right _ (List.mem_append_right _ (List.mem_append_right _ (List.mem_of_getElem? (i := 119) rfl)))), ?_⟩
  refine List.forall_mem_cons.mpr ⟨List.mem_append_right _ (List.mem_append_right _ (List.mem_append_right _ (List.mem_append_right _ (List.mem_of_getElem? (i := 120) rfl)))), ?_⟩
  refine List.forall_mem_cons.mpr ⟨List.mem_append_right _ (List.mem_append_right _ (List.mem_append_right _ (List.mem_append_right _ (List.mem_of_getElem? (i := 122) rfl)))), ?_⟩
  exact fun _ h => absurd h List.not_mem_nil
theorem wsL_law_r23_ok : wsL_law_r23.all goodWord = true := by decide +kernel
theorem wsL_law_r24_in : ∀ w ∈ wsL_law_r24, w ∈ lw_tbl := by
  unfold wsL_law_r24
  refine List.forall_mem_cons.mpr ⟨List.mem_append_left _ (List.mem_map.mpr ⟨_, List.mem_append_right _ (List.mem_append_right _ (List.mem_append_right _ (List.mem_append_right _ (List.mem_of_getElem? (i := 4) rfl)))), rfl⟩), ?_⟩
  refine List.forall_mem_cons.mpr ⟨List.mem_append_right _ (List.mem_append_right _ (List.mem_append_right _ (List.mem_append_right _ (List.mem_of_getElem? (i := 123) rfl)))), ?_⟩
  refine List.forall_mem_cons.mpr ⟨List.mem_append_right _ (List.mem_append_right _ (List.mem_append_left _ (List.mem_of_getElem? (i := 180) rfl))), ?_⟩
  refine List.forall_mem_cons.mpr ⟨List.mem_append_right _ (List.mem_append_right _ (List.mem_append_left _ (List.mem_of_getElem? (i := 181) rfl))), ?_⟩
  refine List.forall_mem_cons.mpr ⟨List.mem_append_right _ (List.mem_append_right _ (List.mem_append_left _ (List.mem_of_getElem? (i := 182) rfl))), ?_⟩
  refine List.forall_mem_cons.mpr ⟨List.mem_append_right _ (List.mem_append_right _ (List.mem_append_left _ (List.mem_of_getElem? (i := 183) rfl))), ?_⟩
  refine List.forall_mem_cons.mpr ⟨List.mem_append_right _ (List.mem_append_right _ (List.mem_append_left _ (List.mem_of_getElem? (i := 186) rfl))), ?_⟩
  refine List.forall_mem_cons.mpr ⟨List.mem_append_left _ (List.mem_map.mpr ⟨_, List.mem_append_right _ (List.mem_append_right _ (List.mem_append_left _ (List.mem_of_getElem? (i := 0) rfl))), rfl⟩), ?_⟩
  refine List.forall_mem_cons.mpr ⟨List.mem_append_right _ (List.mem_append_right _ (List.mem_append_left _ (List.mem_of_getElem? (i := 187) rfl))), ?_⟩
  refine List.forall_mem_cons.mpr ⟨List.mem_append_right _ (List.mem_append_left _ (List.mem_of_getElem? (i := 128) rfl)), ?_⟩
  refine List.forall_mem_cons.mpr ⟨List.mem_append_right _ (List.mem_append_left _ (List.mem_of_getElem? (i := 130) rfl)), ?_⟩
  refine List.forall_mem_cons.mpr ⟨List.mem_append_right _ (List.mem_append_right _ (List.mem_append_right _ (List.mem_append_left _ (List.mem_of_getElem? (i := 99) rfl)))), ?_⟩
  refine List.forall_mem_cons.mpr ⟨List.mem_append_right _ (List.mem_append_right _ (List.mem_append_right _ (List.mem_append_left _ (List.mem_of_getElem? (i := 100) rfl)))), ?_⟩
  refine List.forall_mem_cons.mpr ⟨List.mem_append_right _ (List.mem_append_right _ (List.mem_append_right _ (List.mem_append_left _ (List.mem_of_getElem? (i := 101) rfl)))), ?_⟩
  refine List.forall_mem_cons.mpr ⟨List.mem_append_right _ (List.mem_append_right _ (List.mem_append_right _ (List.mem_append_left _ (List.mem_of_getElem? (i := 102) rfl)))), ?_⟩
  refine List.forall_mem_cons.mpr ⟨List.mem_append_right _ (List.mem_append_right _ (List.mem_append_left _ (List.mem_of_getElem? (i := 188) rfl))), ?_⟩
  refine List.forall_mem_cons.mpr ⟨List.mem_append_right _ (List.mem_append_right _ (List.mem_append_left _ (List.mem_of_getElem? (i := 189) rfl))), ?_⟩
  refine List.forall_mem_cons.mpr ⟨List.mem_append_right _ (List.mem_append_right _ (List.mem_append_left _ (List.mem_of_getElem? (i := 190) rfl))), ?_⟩
  refine List.forall_mem_cons.mpr ⟨List.mem_append_right _ (List.mem_append_right _ (List.mem_append_left _ (List.mem_of_getElem? (i := 191) rfl))), ?_⟩
  refine List.forall_mem_cons.mpr ⟨List.mem_append_right _ (List.mem_append_right _ (List.mem_append_right _ (List.mem_append_left _ (List.mem_of_getElem? (i := 115) rfl)))), ?_⟩
  refine List.forall_mem_cons.mpr ⟨List.mem_append_right _ (List.mem_append_right _ (List.mem_append_right _ (List.mem_append_left _ (List.mem_of_getElem? (i := 116) rfl)))), ?_⟩
  refine List.forall_mem_cons.mpr ⟨List.mem_append_right _ (List.mem_append_right _ (List.mem_append_right _ (List.mem_append_left _ (List.mem_of_getElem? (i := 117) rfl)))), ?_⟩
  refine List.forall_mem_cons.mpr ⟨List.mem_append_right _ (List.mem_append_right _ (List.mem_append_right _ (List.mem_append_left _ (List.mem_of_getElem? (i := 118) rfl)))), ?_⟩
  refine List.forall_mem_cons.mpr ⟨List.mem_append_right _ (List.mem_append_right _ (List.mem_append_left _ (List.mem_of_getElem? (i := 192) rfl))), ?_⟩
  exact fun _ h => absurd h List.not_mem_nil
theorem wsL_law_r24_ok : wsL_law_r24.all goodWord = true := by decide +kernel
theorem wsL_law_r25_in : ∀ w ∈ wsL_law_r25, w ∈ lw_tbl := by
  unfold wsL_law_r25
  refine List.forall_mem_cons.mpr ⟨List.mem_append_right _ (List.mem_append_right _ (List.mem_append_left _ (List.mem_of_getElem? (i := 193) rfl))), ?_⟩
  refine List.forall_mem_cons.mpr ⟨List.mem_append_right _ (List.mem_append_right _ (List.mem_append_left _ (List.mem_of_getElem? (i := 194) rfl))), ?_⟩
  refine List.forall_mem_cons.mpr ⟨List.mem_append_right _ (List.mem_append_right _ (List.mem_append_left _ (List.mem_of_getElem? (i := 195) rfl))), ?_⟩
  refine List.forall_mem_cons.mpr ⟨List.mem_append_right _ (List.mem_append_right _ (List.mem_append_left _ (List.mem_of_getElem? (i := 198) rfl))), ?_⟩
  refine List.forall_mem_cons.mpr ⟨List.mem_append_left _ (List.mem_map.mpr ⟨_, List.mem_append_right _ (List.mem_append_right _ (List.mem_append_left _ (List.mem_of_getElem? (i := 1) rfl))), rfl⟩), ?_⟩
  refine List.forall_mem_cons.mpr ⟨List.mem_append_right _ (List.mem_append_right _ (List.mem_append_left _ (List.mem_of_getElem? (i := 199) rfl))), ?_⟩
  refine List.forall_mem_cons.mpr ⟨List.mem_append_right _ (List.mem_append_right _ (List.mem_append_left _ (List.mem_of_getElem? (i := 203) rfl))), ?_⟩
  refine List.forall_mem_cons.mpr ⟨List.mem_append_left _ (List.mem_map.mpr ⟨_, List.mem_append_right _ (List.mem_append_right _ (List.mem_append_left _ (List.mem_of_getElem? (i := 2) rfl))), rfl⟩), ?_⟩
  refine List.forall_mem_cons.mpr ⟨List.mem_append_right _ (List.mem_append_right _ (List.mem_append_left _ (List.mem_of_getElem? (i := 204) rfl))), ?_⟩
  refine List.forall_mem_cons.mpr ⟨List.mem_append_right _ (List.mem_append_right _ (List.mem_append_right _ (List.mem_append_left _ (List.mem_of_getElem? (i := 119) rfl)))), ?_⟩
  refine List.forall_mem_cons.mpr ⟨List.mem_append_right _ (List.mem_append_right _ (List.mem_append_right _ (List.mem_append_left _ (List.mem_of_getElem? (i := 120) rfl)))), ?_⟩
  refine List.forall_mem_cons.mpr ⟨List.mem_append_right _ (List.mem_append_right _ (List.mem_append_right _ (List.mem_append_left _ (List.mem_of_getElem? (i := 121) rfl)))), ?_⟩
  refine List.forall_mem_cons.mpr ⟨List.mem_append_right _ (List.mem_append_right _ (List.mem_append_right _ (List.mem_append_left _ (List.mem_of_getElem? (i := 122) rfl)))), ?_⟩
  refine List.forall_mem_cons.mpr ⟨List.mem_append_right _ (List.mem_append_right _ (List.mem_append_right _ (List.mem_append_left _ (List.mem_of_getElem? (i := 123) rfl)))), ?_⟩
  refine List.forall_mem_cons.mpr ⟨List.mem_append_right _ (List.mem_append_right _ (List.mem_append_right _ (List.mem_append_left _ (List.mem_of_getElem? (i := 125) rfl)))), ?_⟩
  refine List.forall_mem_cons.mpr ⟨List.mem_append_left _ (List.mem_map.mpr ⟨_, List.mem_append_right _ (List.mem_append_right _ (List.mem_append_left _ (List.mem_of_getElem? (i := 7) rfl))), rfl⟩), ?_⟩
  refine List.forall_mem_cons.mpr ⟨List.mem_append_right _ (List.mem_append_right _ (List.mem_append_right _ (List.mem_append_left _ (List.mem_of_getElem? (i := 126) rfl)))), ?_⟩
  refine List.forall_mem_cons.mpr ⟨List.mem_append_right _ (List.mem_append_right _ (List.mem_append_right _ (List.mem_append_left _ (List.mem_of_getElem? (i := 127) rfl)))), ?_⟩
  refine List.forall_mem_cons.mpr ⟨List.mem_append_right _ (List.mem_append_right _ (List.mem_append_right _ (List.mem_append_left _ (List.mem_of_getElem? (i := 128) rfl)))), ?_⟩
  refine List.forall_mem_cons.mpr ⟨List.mem_append_right _ (List.mem_append_right _ (List.mem_append_right _ (List.mem_append_left _ (List.mem_of_getElem? (i := 129) rfl)))), ?_⟩
  refine List.forall_mem_cons.mpr ⟨List.mem_append_right _ (List.mem_append_right _ (List.mem_append_left _ (List.mem_of_getElem? (i := 205) rfl))), ?_⟩
  refine List.forall_mem_cons.mpr ⟨List.mem_append_right _ (List.mem_append_right _ (List.mem_append_left _ (List.mem_of_getElem? (i := 206) rfl))), ?_⟩
  refine List.forall_mem_cons.mpr ⟨List.mem_append_right _ (List.mem_append_right _ (List.mem_append_left _ (List.mem_of_getElem? (i := 207) rfl))), ?_⟩
  refine List.forall_mem_cons.mpr ⟨List.mem_append_right _ (List.mem_append_right _ (List.mem_append_left _ (List.mem_of_getElem? (i := 208) rfl))), ?_⟩
  exact fun _ h => absurd h List.not_mem_nil
theorem wsL_law_r25_ok : wsL_law_r25.all goodWord = true := by decide +kernel
theorem wsL_law_r26_in : ∀ w ∈ wsL_law_r26, w ∈ lw_tbl := by
  unfold wsL_law_r26
  refine List.forall_mem_cons.mpr ⟨List.mem_append_right _ (List.mem_append_right _ (List.mem_append_left _ (List.mem_of_getElem? (i := 209) rfl))), ?_⟩
  refine List.forall_mem_cons.mpr ⟨List.mem_append_right _ (List.mem_append_right _ (List.mem_append_right _ (List.mem_append_left _ (List.mem_of_getElem? (i := 130) rfl)))), ?_⟩
  refine List.forall_mem_cons.mpr ⟨List.mem_append_right _ (List.mem_append_right _ (List.mem_append_right _ (List.mem_append_left _ (List.mem_of_getElem? (i := 131) rfl)))), ?_⟩
  refine List.forall_mem_cons.mpr ⟨List.mem_append_right _ (List.mem_append_right _ (List.mem_append_right _ (List.mem_append_left _ (List.mem_of_getElem? (i := 132) rfl)))), ?_⟩
  refine List.forall_mem_cons.mpr ⟨List.mem_append_right _ (List.mem_append_right _ (List.mem_append_right _ (List.mem_append_left _ (List.mem_of_getElem? (i := 133) rfl)))), ?_⟩
  refine List.forall_mem_cons.mpr ⟨List.mem_append_right _ (List.mem_append_right _ (List.mem_append_right _ (List.mem_append_left _ (List.mem_of_getElem? (i := 134) rfl)))), ?_⟩
  refine List.forall_mem_cons.mpr ⟨List.mem_append_right _ (List.mem_append_right _ (List.mem_append_left _ (List.mem_of_getElem? (i := 210) rfl))), ?_⟩
  refine List.forall_mem_cons.mpr ⟨List.mem_append_right _ (List.mem_append_right _ (List.mem_append_left _ (List.mem_of_getElem? (i := 211) rfl))), ?_⟩
  refine List.forall_mem_cons.mpr ⟨List.mem_append_right _ (List.mem_append_right _ (List.mem_append_left _ (List.mem_of_getElem? (i := 212) rfl))), ?_⟩
  refine List.forall_mem_cons.mpr ⟨List.mem_append_right _ (List.mem_append_right _ (List.mem_append_left _ (List.mem_of_getElem? (i := 213) rfl))), ?_⟩
  refine List.forall_mem_cons.mpr ⟨List.mem_append_right _ (List.mem_append_right _ (List.mem_append_left _ (List.mem_of_getElem? (i := 218) rfl))), ?_⟩
  refine List.forall_mem_cons.mpr ⟨List.mem_append_right _ (List.mem_append_right _ (List.mem_append_left _ (List.mem_of_getElem? (i := 220) rfl))), ?_⟩
  refine List.forall_mem_cons.mpr ⟨List.mem_append_right _ (List.mem_append_right _ (List.mem_append_left _ (List.mem_of_getElem? (i := 219) rfl))), ?_⟩
  refine List.forall_mem_cons.mpr ⟨List.mem_append_right _ (List.mem_append_left _ (List.mem_of_getElem? (i := 9) rfl)), ?_⟩
  refine List.forall_mem_cons.mpr ⟨List.mem_append_right _ (List.mem_append_right _ (List.mem_append_left _ (List.mem_of_getElem? (i := 216) rfl))), ?_⟩
  refine List.forall_mem_cons.mpr ⟨List.mem_append_left _ (List.mem_map.mpr ⟨_, List.mem_append_right _ (List.mem_append_right _ (List.mem_append_left _ (List.mem_of_getElem? (i := 3) rfl))), rfl⟩), ?_⟩
  refine List.forall_mem_cons.mpr ⟨List.mem_append_right _ (List.mem_append_right _ (List.mem_append_left _ (List.mem_of_getElem? (i := 217) rfl))), ?_⟩
  refine List.forall_mem_cons.mpr ⟨List.mem_append_right _ (List.mem_append_right _ (List.mem_append_right _ (List.mem_append_left _ (List.mem_of_getElem? (i := 135) rfl)))), ?_⟩
  refine List.forall_mem_cons.mpr ⟨List.mem_append_right _ (List.mem_append_right _ (List.mem_append_right _ (List.mem_append_left _ (List.mem_of_getElem? (i := 136) rfl)))), ?_⟩
  refine List.forall_mem_cons.mpr ⟨List.mem_append_right _ (List.mem_append_right _ (List.mem_append_right _ (List.mem_append_left _ (List.mem_of_getElem? (i := 137) rfl)))), ?_⟩
  refine List.forall_mem_cons.mpr ⟨List.mem_append_right _ (List.mem_append_right _ (List.mem_append_right _ (List.mem_append_left _ (List.mem_of_getElem? (i := 138) rfl)))), ?_⟩
  refine List.forall_mem_cons.mpr ⟨List.mem_append_right _ (List.mem_append_right _ (List.mem_append_left _ (List.mem_of_getElem? (i := 221) rfl))), ?_⟩
  refine List.forall_mem_cons.mpr ⟨List.mem_append_right _ (List.mem_append_right _ (List.mem_append_left _ (List.mem_of_getElem? (i := 222) rfl))), ?_⟩
  refine List.forall_mem_cons.mpr ⟨List.mem_append_right _ (List.mem_append_right _ (List.mem_append_left _ (List.mem_of_getElem? (i := 223) rfl))), ?_⟩
  exact fun _ h => absurd h List.not_mem_nil
theorem wsL_law_r26_ok : wsL_law_r26.all goodWord = true := by decide +kernel
theorem wsL_law_r27_in : ∀ w ∈ wsL_law_r27, w ∈ lw_tbl := by
  unfold wsL_law_r27
  refine List.forall_mem_cons.mpr ⟨List.mem_append_right _ (List.mem_append_right _ (List.mem_append_left _ (List.mem_of_getElem? (i := 224) rfl))), ?_⟩
  refine List.forall_mem_cons.mpr ⟨List.mem_append_right _ (List.mem_append_right _ (List.mem_append_left _ (List.mem_of_getElem? (i := 225) rfl))), ?_⟩
  refine List.forall_mem_cons.mpr ⟨List.mem_append_right _ (List.mem_append_right _ (List.mem_append_right _ (List.mem_append_right _ (List.mem_of_getElem? (i := 124) rfl)))), ?_⟩
  refine List.forall_mem_cons.mpr ⟨List.mem_append_right _ (List.mem_append_right _ (List.mem_append_right _ (List.mem_append_right _ (List.mem_of_getElem? (i := 125) rfl)))), ?_⟩
  refine List.forall_mem_cons.mpr ⟨List.mem_append_right _ (List.mem_append_right _ (List.mem_append_right _ (List.mem_append_right _ (List.mem_of_getElem? (i := 126) rfl)))), ?_⟩
  refine List.forall_mem_cons.mpr ⟨List.mem_append_right _ (List.mem_append_right _ (List.mem_append_right _ (List.mem_append_right _ (List.mem_of_getElem? (i := 127) rfl)))), ?_⟩
  refine List.forall_mem_cons.mpr ⟨List.mem_append_right _ (List.mem_append_right _ (List.mem_append_left _ (List.mem_of_getElem? (i := 226) rfl))), ?_⟩
  refine List.forall_mem_cons.mpr ⟨List.mem_append_right _ (List.mem_append_right _ (List.mem_append_left _ (List.mem_of_getElem? (i := 227) rfl))), ?_⟩
  refine List.forall_mem_cons.mpr ⟨List.mem_append_right _ (List.mem_append_right _ (List.mem_append_left _ (List.mem_of_getElem? (i := 228) rfl))), ?_⟩
  refine List.forall_mem_cons.mpr ⟨List.mem_append_right _ (List.mem_append_right _ (List.mem_append_left _ (List.mem_of_getElem? (i := 229) rfl))), ?_⟩
  refine List.forall_mem_cons.mpr ⟨List.mem_append_right _ (List.mem_append_right _ (List.mem_append_left _ (List.mem_of_getElem? (i := 230) rfl))), ?_⟩
  refine List.forall_mem_cons.mpr ⟨List.mem_append_right _ (List.mem_append_right _ (List.mem_append_right _ (List.mem_append_right _ (List.mem_of_getElem? (i := 128) rfl)))), ?_⟩
  refine List.forall_mem_cons.mpr ⟨List.mem_append_right _ (List.mem_append_right _ (List.mem_append_right _ (List.mem_append_right _ (List.mem_of_getElem? (i := 129) rfl)))), ?_⟩
  refine List.forall_mem_cons.mpr ⟨List.mem_append_right _ (List.mem_append_right _ (List.mem_append_right _ (List.mem_append_right _ (List.mem_of_getElem? (i := 130) rfl)))), ?_⟩
  refine List.forall_mem_cons.mpr ⟨List.mem_append_right _ (List.mem_append_right _ (List.mem_append_right _ (List.mem_append_right _ (List.mem_of_getElem? (i := 131) rfl)))), ?_⟩
  refine List.forall_mem_cons.mpr ⟨List.mem_append_right _ (List.mem_append_right _ (List.mem_append_left _ (List.mem_of_getElem? (i := 231) rfl))), ?_⟩
  refine List.forall_mem_cons.mpr ⟨List.mem_append_right _ (List.mem_append_right _ (List.mem_append_left _ (List.mem_of_getElem? (i := 232) rfl))), ?_⟩
  refine List.forall_mem_cons.mpr ⟨List.mem_append_right _ (List.mem_append_right _ (List.mem_append_left _ (List.mem_of_getElem? (i := 233) rfl))), ?_⟩
  refine List.forall_mem_cons.mpr ⟨List.mem_append_right _ (List.mem_append_right _ (List.mem_append_left _ (List.mem_of_getElem? (i := 234) rfl))), ?_⟩
  refine List.forall_mem_cons.mpr ⟨List.mem_append_right _ (List.mem_append_right _ (List.mem_append_left _ (List.mem_of_getElem? (i := 235) rfl))), ?_⟩
  refine List.forall_mem_cons.mpr ⟨List.mem_append_right _ (List.mem_append_right _ (List.mem_append_left _ (List.mem_of_getElem? (i := 236) rfl))), ?_⟩
  refine List.forall_mem_cons.mpr ⟨List.mem_append_right _ (List.mem_append_right _ (List.mem_append_left _ (List.mem_of_getElem? (i := 237) rfl))), ?_⟩
  refine List.forall_mem_cons.mpr ⟨List.mem_append_right _ (List.mem_append_right _ (List.mem_append_left _ (List.mem_of_getElem? (i := 238) rfl))), ?_⟩
  refine List.forall_mem_cons.mpr ⟨List.mem_append_right _ (List.mem_append_right _ (List.mem_append_left _ (List.mem_of_getElem? (i := 239) rfl))), ?_⟩
  exact fun _ h => absurd h List.not_mem_nil
theorem wsL_law_r27_ok : wsL_law_r27.all goodWord = true := by decide +kernel
theorem wsL_law_r28_in : ∀ w ∈ wsL_law_r28, w ∈ lw_tbl := by
  unfold wsL_law_r28
  refine List.forall_mem_cons.mpr ⟨List.mem_append_right _ (List.mem_append_right _ (List.mem_append_right _ (List.mem_append_left _ (List.mem_of_getElem? (i := 0) rfl)))), ?_⟩
  refine List.forall_mem_cons.mpr ⟨List.mem_append_right _ (List.mem_append_right _ (List.mem_append_right _ (List.mem_append_left _ (List.mem_of_getElem? (i := 1) rfl)))), ?_⟩
  refine List.forall_mem_cons.mpr ⟨List.mem_append_right _ (List.mem_append_right _ (List.mem_append_right _ (List.mem_append_left _ (List.mem_of_getElem? (i := 2) rfl)))), ?_⟩
  refine List.forall_mem_cons.mpr ⟨List.mem_append_right _ (List.mem_append_right _ (List.mem_append_right _ (List.mem_append_left _ (List.mem_of_getElem? (i := 3) rfl)))), ?_⟩
  refine List.forall_mem_cons.mpr ⟨List.mem_append_right _ (List.mem_append_right _ (List.mem_append_right _ (List.mem_append_left _ (List.mem_of_getElem? (i := 5) rfl)))), ?_⟩
  refine List.forall_mem_cons.mpr ⟨List.mem_append_left _ (List.mem_map.mpr ⟨_, List.mem_append_right _ (List.mem_append_right _ (List.mem_append_left _ (List.mem_of_getElem? (i := 4) rfl))), rfl⟩), ?_⟩
  refine List.forall_mem_cons.mpr ⟨List.mem_append_right _ (List.mem_append_right _ (List.mem_append_right _ (List.mem_append_left _ (List.mem_of_getElem? (i := 6) rfl)))), ?_⟩
  refine List.forall_mem_cons.mpr ⟨List.mem_append_right _ (List.mem_append_right _ (List.mem_append_right _ (List.mem_append_left _ (List.mem_of_getElem? (i := 7) rfl)))), ?_⟩
  refine List.forall_mem_cons.mpr ⟨List.mem_append_right _ (List.mem_append_right _ (List.mem_append_right _ (List.mem_append_left _ (List.mem_of_getElem? (i := 8) rfl)))), ?_⟩
  refine List.forall_mem_cons.mpr ⟨List.mem_append_right _ (List.mem_append_right _ (List.mem_append_right _ (List.mem_append_left _ (List.mem_of_getElem? (i := 9) rfl)))), ?_⟩
  refine List.forall_mem_cons.mpr ⟨List.mem_append_right _ (List.mem_append_right _ (List.mem_append_right _ (List.mem_append_left _ (List.mem_of_getElem? (i := 11) rfl)))), ?_⟩
  refine List.forall_mem_cons.mpr ⟨List.mem_append_left _ (List.mem_map.mpr ⟨_, List.mem_append_right _ (List.mem_append_right _ (List.mem_append_left _ (List.mem_of_getElem? (i := 5) rfl))), rfl⟩), ?_⟩
  refine List.forall_mem_cons.mpr ⟨List.mem_append_right _ (List.mem_append_right _ (List.mem_append_right _ (List.mem_append_left _ (List.mem_of_getElem? (i := 12) rfl)))), ?_⟩
  refine List.forall_mem_cons.mpr ⟨List.mem_append_right _ (List.mem_append_right _ (List.mem_append_right _ (List.mem_append_left _ (List.mem_of_getElem? (i := 13) rfl)))), ?_⟩
  refine List.forall_mem_cons.mpr ⟨List.mem_append_right _ (List.mem_append_right _ (List.mem_append_right _ (List.mem_append_left _ (List.mem_of_getElem? (i := 14) rfl)))), ?_⟩
  refine List.forall_mem_cons.mpr ⟨List.mem_append_right _ (List.mem_append_right _ (List.mem_append_right _ (List.mem_append_left _ (List.mem_of_getElem? (i := 15) rfl)))), ?_⟩
  refine List.forall_mem_cons.mpr ⟨List.mem_append_right _ (List.mem_append_right _ (List.mem_append_right _ (List.mem_append_left _ (List.mem_of_getElem? (i := 16) rfl)))), ?_⟩
  refine List.forall_mem_cons.mpr ⟨List.mem_append_right _ (List.mem_append_right _ (List.mem_append_right _ (List.mem_append_left _ (List.mem_of_getElem? (i := 17) rfl)))), ?_⟩
  refine List.forall_mem_cons.mpr ⟨List.mem_append_right _ (List.mem_append_right _ (List.mem_append_right _ (List.mem_append_left _ (List.mem_of_getElem? (i := 18) rfl)))), ?_⟩
  refine List.forall_mem_cons.mpr ⟨List.mem_append_right _ (List.mem_append_right _ (List.mem_append_right _ (List.mem_append_left _ (List.mem_of_getElem? (i := 19) rfl)))), ?_⟩
  refine List.forall_mem_cons.mpr ⟨List.mem_append_right _ (List.mem_append_right _ (List.mem_append_right _ (List.mem_append_left _ (List.mem_of_getElem? (i := 20) rfl)))), ?_⟩
  refine List.forall_mem_cons.mpr ⟨List.mem_append_right _ (List.mem_append_right _ (List.mem_append_right _ (List.mem_append_left _ (List.mem_of_getElem? (i := 21) rfl)))), ?_⟩
  refine List.forall_mem_cons.mpr ⟨List.mem_append_right _ (List.mem_append_right _ (List.mem_append_right _ (List.mem_append_right _ (List.mem_of_getElem? (i := 132) rfl)))), ?_⟩
  refine List.forall_mem_cons.mpr ⟨List.mem_append_right _ (List.mem_append_right _ (List.mem_append_right _ (List.mem_append_right _ (List.mem_of_getElem? (i := 133) rfl)))), ?_⟩
  exact fun _ h => absurd h List.not_mem_nil
theorem wsL_law_r28_ok : wsL_law_r28.all goodWord = true := by decide +kernel
theorem wsL_law_r29_in : ∀ w ∈ wsL_law_r29, w ∈ lw_tbl := by
  unfold wsL_law_r29
  refine List.forall_mem_cons.mpr ⟨List.mem_append_right _ (List.mem_append_right _ (List.mem_append_right _ (List.mem_append_right _ (List.mem_of_getElem? (i := 134) rfl)))), ?_⟩
  refine List.forall_mem_cons.mpr ⟨List.mem_append_right _ (List.mem_append_right _ (List.mem_append_right _ (List.mem_append_right _ (List.mem_of_getElem? (i := 135) rfl)))), ?_⟩
  refine List.forall_mem_cons.mpr ⟨List.mem_append_right _ (List.mem_append_right _ (List.mem_append_right _ (List.mem_append_right _ (List.mem_of_getElem? (i := 136) rfl)))), ?_⟩
  refine List.forall_mem_cons.mpr ⟨List.mem_append_right _ (List.mem_append_right _ (List.mem_append_right _ (List.mem_append_right _ (List.mem_of_getElem? (i := 137) rfl)))), ?_⟩
  refine List.forall_mem_cons.mpr ⟨List.mem_append_right _ (List.mem_append_right _ (List.mem_append_right _ (List.mem_append_right _ (List.mem_of_getElem? (i := 138) rfl)))), ?_⟩
  refine List.forall_mem_cons.mpr ⟨List.mem_append_right _ (List.mem_append_right _ (List.mem_append_right _ (List.mem_append_right _ (List.mem_of_getElem? (i := 139) rfl)))), ?_⟩
  refine List.forall_mem_cons.mpr ⟨List.mem_append_right _ (List.mem_append_right _ (List.mem_append_right _ (List.mem_append_right _ (List.mem_of_getElem? (i := 140) rfl)))), ?_⟩
  exact fun _ h => absurd h List.not_mem_nil
theorem wsL_law_r29_ok : wsL_law_r29.all goodWord = true := by decide +kernel
theorem wsX40_in : ∀ w ∈ wsX40, w ∈ lw_tbl := by decide +kernel
theorem wsX40_ok : wsX40.all goodWord = true := by decide +kernel
theorem wsX50_in : ∀ w ∈ wsX50, w ∈ lw_tbl := by decide +kernel
theorem wsX50_ok : wsX50.all goodWord = true := by decide +kernel
theorem wsX10_in : ∀ w ∈ wsX10, w ∈ lw_tbl := by decide +kernel
theorem wsX10_ok : wsX10.all goodWord = true := by decide +kernel
theorem wsX30_in : ∀ w ∈ wsX30, w ∈ lw_tbl := by decide +kernel
theorem wsX30_ok : wsX30.all goodWord = true := by decide +kernel
theorem wsX20_in : ∀ w ∈ wsX20, w ∈ lw_tbl := by decide +kernel
theorem wsX20_ok : wsX20.all goodWord = true := by decide +kernel
theorem wsX00_in : ∀ w ∈ wsX00, w ∈ lw_tbl := by decide +kernel
theorem wsX00_ok : wsX00.all goodWord = true := by decide +kernel
theorem eu_TB_in : ∀ w ∈ eu_TB, w ∈ lw_tbl := List.forall_mem_append.mpr ⟨List.forall_mem_append.mpr ⟨wsL_law_r1_in, List.forall_mem_append.mpr ⟨wsL_law_r2_in, List.forall_mem_append.mpr ⟨wsL_law_r3_in, List.forall_mem_append.mpr ⟨wsL_law_r4_in, List.forall_mem_append.mpr ⟨wsL_law_r5_in, List.forall_mem_append.mpr ⟨wsL_law_r6_in, List.forall_mem_append.mpr ⟨wsL_law_r7_in, List.forall_mem_append.mpr ⟨wsL_law_r8_in, List.forall_mem_append.mpr ⟨wsL_law_r9_in, List.forall_mem_append.mpr ⟨wsL_law_r10_in, List.forall_mem_append.mpr ⟨wsL_law_r11_in, List.forall_mem_append.mpr ⟨wsL_law_r12_in, List.forall_mem_append.mpr ⟨wsL_law_r13_in, List.forall_mem_append.mpr ⟨wsL_law_r14_in, List.forall_mem_append.mpr ⟨wsL_law_r15_in, List.forall_mem_append.mpr ⟨wsL_law_r16_in, List.forall_mem_append.mpr ⟨wsL_law_r17_in, List.forall_mem_append.mpr ⟨wsL_law_r18_in, List.forall_mem_append.mpr ⟨wsL_law_r19_in, List.forall_mem_append.mpr ⟨wsL_law_r20_in, List.forall_mem_append.mpr ⟨wsL_law_r21_in, List.forall_mem_append.mpr ⟨wsL_law_r22_in, List.forall_mem_append.mpr ⟨wsL_law_r23_in, List.forall_mem_append.mpr ⟨wsL_law_r24_in, List.forall_mem_append.mpr ⟨wsL_law_r25_in, List.forall_mem_append.mpr ⟨wsL_law_r26_in, List.forall_mem_append.mpr ⟨wsL_law_r27_in, List.forall_mem_append.mpr ⟨wsL_law_r28_in, wsL_law_r29_in⟩⟩⟩⟩⟩⟩⟩⟩⟩⟩⟩⟩⟩⟩⟩⟩⟩⟩⟩⟩⟩⟩⟩⟩⟩⟩⟩⟩, List.forall_mem_append.mpr ⟨wsX40_in, List.forall_mem_append.mpr ⟨wsX50_in, List.forall_mem_append.mpr ⟨wsX10_in, List.forall_mem_append.mpr ⟨wsX30_in, List.forall_mem_append.mpr ⟨wsX20_in, wsX00_in⟩⟩⟩⟩⟩⟩
theorem eu_TB_ok : ∀ w ∈ eu_TB, goodWord w = true := List.forall_mem_append.mpr ⟨List.forall_mem_append.mpr ⟨List.all_eq_true.mp wsL_law_r1_ok, List.forall_mem_append.mpr ⟨List.all_eq_true.mp wsL_law_r2_ok, List.forall_mem_append.mpr ⟨List.all_eq_true.mp wsL_law_r3_ok, List.forall_mem_append.mpr ⟨List.all_eq_true.mp wsL_law_r4_ok, List.forall_mem_append.mpr ⟨List.all_eq_true.mp wsL_law_r5_ok, List.forall_mem_append.mpr ⟨List.all_eq_true.mp wsL_law_r6_ok, List.forall_mem_append.mpr ⟨List.all_eq_true.mp wsL_law_r7_ok, List.forall_mem_append.mpr ⟨List.all_eq_true.mp wsL_law_r8_ok, List.forall_mem_append.mpr ⟨List.all_eq_true.mp wsL_law_r9_ok, List.forall_mem_append.mpr ⟨List.all_eq_true.mp wsL_law_r10_ok, List.forall_mem_append.mpr ⟨List.all_eq_true.mp wsL_law_r11_ok, List.forall_mem_append.mpr ⟨List.all_eq_true.mp wsL_law_r12_ok, List.forall_mem_append.mpr ⟨List.all_eq_true.mp wsL_law_r13_ok, List.forall_mem_append.mpr ⟨List.all_eq_true.mp wsL_law_r14_ok, List.forall_mem_append.mpr ⟨List.all_eq_true.mp wsL_law_r15_ok, List.forall_mem_append.mpr ⟨List.all_eq_true.mp wsL_law_r16_ok, List.forall_mem_append.mpr ⟨List.all_eq_true.mp wsL_law_r17_ok, List.forall_mem_append.mpr ⟨List.all_eq_true.mp wsL_law_r18_ok, List.forall_mem_append.mpr ⟨List.all_eq_true.mp wsL_law_r19_ok, List.forall_mem_append.mpr ⟨List.all_eq_true.mp wsL_law_r20_ok, List.forall_mem_append.mpr ⟨List.all_eq_true.mp wsL_law_r21_ok, List.forall_mem_append.mpr ⟨List.all_eq_true.mp wsL_law_r22_ok, List.forall_mem_append.mpr ⟨List.all_eq_true.mp wsL_law_r23_ok, List.forall_mem_append.mpr ⟨List.all_eq_true.mp wsL_law_r24_ok, List.forall_mem_append.mpr ⟨List.all_eq_true.mp wsL_law_r25_ok, List.forall_mem_append.mpr ⟨List.all_eq_true.mp wsL_law_r26_ok, List.forall_mem_append.mpr ⟨List.all_eq_true.mp wsL_law_r27_ok, List.forall_mem_append.mpr ⟨List.all_eq_true.mp wsL_law_r28_ok, List.all_eq_true.mp wsL_law_r29_ok⟩⟩⟩⟩⟩⟩⟩⟩⟩⟩⟩⟩⟩⟩⟩⟩⟩⟩⟩⟩⟩⟩⟩⟩⟩⟩⟩⟩, List.forall_mem_append.mpr ⟨List.all_eq_true.mp wsX40_ok, List.forall_mem_append.mpr ⟨List.all_eq_true.mp wsX50_ok, List.forall_mem_append.mpr ⟨List.all_eq_true.mp wsX10_ok, List.forall_mem_append.mpr ⟨List.all_eq_true.mp wsX30_ok, List.forall_mem_append.mpr ⟨List.all_eq_true.mp wsX20_ok, List.all_eq_true.mp wsX00_ok⟩⟩⟩⟩⟩⟩
theorem tb_r1 : ∀ w ∈ wsL_law_r1, w ∈ eu_TB := fun _ h => List.mem_append_left _ (List.mem_append_left _ (h))
theorem tb_r2 : ∀ w ∈ wsL_law_r2, w ∈ eu_TB := fun _ h => List.mem_append_left _ (List.mem_append_right _ (List.mem_append_left _ (h)))
theorem tb_r3 : ∀ w ∈ wsL_law_r3, w ∈ eu_TB := fun _ h => List.mem_append_left _ (List.mem_append_right _ (List.mem_append_right _ (List.mem_append_left _ (h))))
theorem tb_r4 : ∀ w ∈ wsL_law_r4, w ∈ eu_TB := fun _ h => List.mem_append_left _ (List.mem_append_right _ (List.mem_append_right _ (List.mem_append_right _ (List.mem_append_left _ (h)))))
theorem tb_r5 : ∀ w ∈ wsL_law_r5, w ∈ eu_TB := fun _ h => List.mem_append_left _ (List.mem_append_right _ (List.mem_append_right _ (List.mem_append_right _ (List.mem_append_right _ (List.mem_append_left _ (h))))))
theorem tb_r6 : ∀ w ∈ wsL_law_r6, w ∈ eu_TB := fun _ h => List.mem_append_left _ (List.mem_append_right _ (List.mem_append_right _ (List.mem_append_right _ (List.mem_append_right _ (List.mem_append_right _ (List.mem_append_left _ (h)))))))
theorem tb_r7 : ∀ w ∈ wsL_law_r7, w ∈ eu_TB := fun _ h => List.mem_append_left _ (List.mem_append_right _ (List.mem_append_right _ (List.mem_append_right _ (List.mem_append_right _ (List.mem_append_right _ (List.mem_append_right _ (List.mem_append_left _ (h))))))))
theorem tb_r8 : ∀ w ∈ wsL_law_r8, w ∈ eu_TB := fun _ h => List.mem_append_left _ (List.mem_append_right _ (List.mem_append_right _ (List.mem_append_right _ (List.mem_append_right _ (List.mem_append_right _ (List.mem_append_right _ (List.mem_append_right _ (List.mem_append_left _ (h)))))))))
theorem tb_r9 : ∀ w ∈ wsL_law_r9, w ∈ eu_TB := fun _ h => List.mem_append_left _ (List.mem_append_right _ (List.mem_append_right _ (List.mem_append_right _ (List.mem_append_right _ (List.mem_append_right _ (List.mem_append_right _ (List.mem_append_right _ (List.mem_append_right _ (List.mem_append_left _ (h))))))))))
theorem tb_r10 : ∀ w ∈ wsL_law_r10, w ∈ eu_TB := fun _ h => List.mem_append_left _ (List.mem_append_right _ (List.mem_append_right _ (List.mem_append_right _ (List.mem_append_right _ (List.mem_append_right _ (List.mem_append_right _ (List.mem_append_right _ (List.mem_append_right _ (List.mem_append_right _ (List.mem_append_left _ (h)))))))))))
theorem tb_r11 : ∀ w ∈ wsL_law_r11, w ∈ eu_TB := fun _ h => List.mem_append_left _ (List.mem_append_right _ (List.mem_append_right _ (List.mem_append_right _ (List.mem_append_right _ (List.mem_append_right _ (List.mem_append_right _ (List.mem_append_right _ (List.mem_append_right _ (List.mem_append_right _ (List.mem_append_right _ (List.mem_append_left _ (h))))))))))))
theorem tb_r12 : ∀ w ∈ wsL_law_r12, w ∈ eu_TB := fun _ h => List.mem_append_left _ (List.mem_append_right _ (List.mem_append_right _ (List.mem_append_right _ (List.mem_append_right _ (List.mem_append_right _ (List.mem_append_right _ (List.mem_append_right _ (List.mem_append_right _ (List.mem_append_right _ (List.mem_append_right _ (List.mem_append_right _ (List.mem_append_left _ (h)))))))))))))
theorem tb_r13 : ∀ w ∈ wsL_law_r13, w ∈ eu_TB := fun _ h => List.mem_append_left _ (List.mem_append_right _ (List.mem_append_right _ (List.mem_append_right _ (List.mem_append_right _ (List.mem_append_right _ (List.mem_append_right _ (List.mem_append_right _ (List.mem_append_right _ (List.mem_append_right _ (List.mem_append_right _ (List.mem_append_right _ (List.mem_append_right _ (List.mem_append_left _ (h))))))))))))))
theorem tb_r14 : ∀ w ∈ wsL_law_r14, w ∈ eu_TB := fun _ h => List.mem_append_left _ (List.mem_append_right _ (List.mem_append_right _ (List.mem_append_right _ (List.mem_append_right _ (List.mem_append_right _ (List.mem_append_right _ (List.mem_append_right _ (List.mem_append_right _ (List.mem_append_right _ (List.mem_append_right _ (List.mem_append_right _ (List.mem_append_right _ (List.mem_append_right _ (List.mem_append_left _ (h)))))))))))))))
theorem tb_r15 : ∀ w ∈ wsL_law_r15, w ∈ eu_TB := fun _ h => List.mem_append_left _ (List.mem_append_right _ (List.mem_append_right _ (List.mem_append_right _ (List.mem_append_right _ (List.mem_append_right _ (List.mem_append_right _ (List.mem_append_right _ (List.mem_append_right _ (List.mem_append_right _ (List.mem_append_right _ (List.mem_append_right _ (List.mem_append_right _ (List.mem_append_right _ (List.mem_append_right _ (List.mem_append_left _ (h))))))))))))))))
theorem tb_r16 : ∀ w ∈ wsL_law_r16, w ∈ eu_TB := fun _ h => List.mem_append_left _ (List.mem_append_right _ (List.mem_append_right _ (List.mem_append_right _ (List.mem_append_right _ (List.mem_append_right _ (List.mem_append_right _ (List.mem_append_right _ (List.mem_append_right _ (List.mem_append_right _ (List.mem_append_right _ (List.mem_append_right _ (List.mem_append_right _ (List.mem_append_right _ (List.mem_append_right _ (List.mem_append_right _ (List.mem_append_left _ (h)))))))))))))))))
theorem tb_r17 : ∀ w ∈ wsL_law_r17, w ∈ eu_TB := fun _ h => List.mem_append_left _ (List.mem_append_right _ (List.mem_append_right _ (List.mem_append_right _ (List.mem_append_right _ (List.mem_append_right _ (List.mem_append_right _ (List.mem_append_right _ (List.mem_append_right _ (List.mem_append_right _ (List.mem_append_right _ (List.mem_append_right _ (List.mem_append_right _ (List.mem_append_right _ (List.mem_append_right _ (List.mem_append_right _ (List.mem_append_right _ (List.mem_append_left _ (h))))))))))))))))))
theorem tb_r18 : ∀ w ∈ wsL_law_r18, w ∈ eu_TB := fun _ h => List.mem_append_left _ (List.mem_append_right _ (List.mem_append_right _ (List.mem_append_right _ (List.mem_append_right _ (List.mem_append_right _ (List.mem_append_right _ (List.mem_append_right _ (List.mem_append_right _ (List.mem_append_right _ (List.mem_append_right _ (List.mem_append_right _ (List.mem_append_right _ (List.mem_append_right _ (List.mem_append_right _ (List.mem_append_right _ (List.mem_append_right _ (List.mem_append_right _ (List.mem_append_left _ (h)))))))))))))))))))
theorem tb_r19 : ∀ w ∈ wsL_law_r19, w ∈ eu_TB := fun _ h => List.mem_append_left _ (List.mem_append_right _ (List.mem_append_right _ (List.mem_append_right _ (List.mem_append_right _ (List.mem_append_right _ (List.mem_append_right _ (List.mem_append_right _ (List.mem_append_right _ (List.mem_append_right _ (List.mem_append_right _ (List.mem_append_right _ (List.mem_append_right _ (List.mem_append_right _ (List.mem_append_right _ (List.mem_append_right _ (List.mem_append_right _ (List.mem_append_right _ (List.mem_append_right _ (List.mem_append_left _ (h))))))))))))))))))))
theorem tb_r20 : ∀ w ∈ wsL_law_r20, w ∈ eu_TB := fun _ h => List.mem_append_left _ (List.mem_append_right _ (List.mem_append_right _ (List.mem_append_right _ (List.mem_append_right _ (List.mem_append_right _ (List.mem_append_right _ (List.mem_append_right _ (List.mem_append_right _ (List.mem_append_right _ (List.mem_append_right _ (List.mem_append_right _ (List.mem_append_right _ (List.mem_append_right _ (List.mem_append_right _ (List.mem_append_right _ (List.mem_append_right _ (List.mem_append_right _ (List.mem_append_right _ (List.mem_append_right _ (List.mem_append_left _ (h)))))))))))))))))))))
theorem tb_r21 : ∀ w ∈ wsL_law_r21, w ∈ eu_TB := fun _ h => List.mem_append_left _ (List.mem_append_right _ (List.mem_append_right _ (List.mem_append_right _ (List.mem_append_right _ (List.mem_append_right _ (List.mem_append_right _ (List.mem_append_right _ (List.mem_append_right _ (List.mem_append_right _ (List.mem_append_right _ (List.mem_append_right _ (List.mem_append_right _ (List.mem_append_right _ (List.mem_append_right _ (List.mem_append_right _ (List.mem_append_right _ (List.mem_append_right _ (List.mem_append_right _ (List.mem_append_right _ (List.mem_append_right _ (List.mem_append_left _ (h))))))))))))))))))))))
theorem tb_r22 : ∀ w ∈ wsL_law_r22, w ∈ eu_TB := fun _ h => List.mem_append_left _ (List.mem_append_right _ (List.mem_append_right _ (List.mem_append_right _ (List.mem_append_right _ (List.mem_append_right _ (List.mem_append_right _ (List.mem_append_right _ (List.mem_append_right _ (List.mem_append_right _ (List.mem_append_right _ (List.mem_append_right _ (List.mem_append_right _ (List.mem_append_right _ (List.mem_append_right _ (List.mem_append_right _ (List.mem_append_right _ (List.mem_append_right _ (List.mem_append_right _ (List.mem_append_right _ (List.mem_append_right _ (List.mem_append_right _ (List.mem_append_left _ (h)))))))))))))))))))))))
theorem tb_r23 : ∀ w ∈ wsL_law_r23, w ∈ eu_TB := fun _ h => List.mem_append_left _ (List.mem_append_right _ (List.mem_append_right _ (List.mem_append_right _ (List.mem_append_right _ (List.mem_append_right _ (List.mem_append_right _ (List.mem_append_right _ (List.mem_append_right _ (List.mem_append_right _ (List.mem_append_right _ (List.mem_append_right _ (List.mem_append_right _ (List.mem_append_right _ (List.mem_append_right _ (List.mem_append_right _ (List.mem_append_right _ (List.mem_append_right _ (List.mem_append_right _ (List.mem_append_right _ (List.mem_append_right _ (List.mem_append_right _ (List.mem_append_right _ (List.mem_append_left _ (h))))))))))))))))))))))))
theorem tb_r24 : ∀ w ∈ wsL_law_r24, w ∈ eu_TB := fun _ h => List.mem_append_left _ (List.mem_append_right _ (List.mem_append_right _ (List.mem_append_right _ (List.mem_append_right _ (List.mem_append_right _ (List.mem_append_right _ (List.mem_append_right _ (List.mem_append_right _ (List.mem_append_right _ (List.mem_append_right _ (List.mem_append_right _ (List.mem_append_right _ (List.mem_append_right _ (List.mem_append_right _ (List.mem_append_right _ (List.mem_append_right _ (List.mem_append_right _ (List.mem_append_right _ (List.mem_append_right _ (List.mem_append_right _ (List.mem_append_right _ (List.mem_append_right _ (List.mem_append_right _ (List.mem_append_left _ (h)))))))))))))))))))))))))
theorem tb_r25 : ∀ w ∈ wsL_law_r25, w ∈ eu_TB := fun _ h => List.mem_append_left _ (List.mem_append_right _ (List.mem_append_right _ (List.mem_append_right _ (List.mem_append_right _ (List.mem_append_right _ (List.mem_append_right _ (List.mem_append_right _ (List.mem_append_right _ (List.mem_append_right _ (List.mem_append_right _ (List.mem_append_right _ (List.mem_append_right _ (List.mem_append_right _ (List.mem_append_right _ (List.mem_append_right _ (List.mem_append_right _ (List.mem_append_right _ (List.mem_append_right _ (List.mem_append_right _ (List.mem_append_right _ (List.mem_append_right _ (List.mem_append_right _ (List.mem_append_right _ (List.mem_append_right _ (List.mem_append_left _ (h))))))))))))))))))))))))))
theorem tb_r26 : ∀ w ∈ wsL_law_r26, w ∈ eu_TB := fun _ h => List.mem_append_left _ (List.mem_append_right _ (List.mem_append_right _ (List.mem_append_right _ (List.mem_append_right _ (List.mem_append_right _ (List.mem_append_right _ (List.mem_append_right _ (List.mem_append_right _ (List.mem_append_right _ (List.mem_append_right _ (List.mem_append_right _ (List.mem_append_right _ (List.mem_append_right _ (List.mem_append_right _ (List.mem_append_right _ (List.mem_append_right _ (List.mem_append_right _ (List.mem_append_right _ (List.mem_append_right _ (List.mem_append_right _ (List.mem_append_right _ (List.mem_append_right _ (List.mem_append_right _ (List.mem_append_right _ (List.mem_append_right _ (List.mem_append_left _ (h)))))))))))))))))))))))))))
theorem tb_r27 : ∀ w ∈ wsL_law_r27, w ∈ eu_TB := fun _ h => List.mem_append_left _ (List.mem_append_right _ (List.mem_append_right _ (List.mem_append_right _ (List.mem_append_right _ (List.mem_append_right _ (List.mem_append_right _ (List.mem_append_right _ (List.mem_append_right _ (List.mem_append_right _ (List.mem_append_right _ (List.mem_append_right _ (List.mem_append_right _ (List.mem_append_right _ (List.mem_append_right _ (List.mem_append_right _ (List.mem_append_right _ (List.mem_append_right _ (List.mem_append_right _ (List.mem_append_right _ (List.mem_append_right _ (List.mem_append_right _ (List.mem_append_right _ (List.mem_append_right _ (List.mem_append_right _ (List.mem_append_right _ (List.mem_append_right _ (List.mem_append_left _ (h))))))))))))))))))))))))))))
theorem tb_r28 : ∀ w ∈ wsL_law_r28, w ∈ eu_TB := fun _ h => List.mem_append_left _ (List.mem_append_right _ (List.mem_append_right _ (List.mem_append_right _ (List.mem_append_right _ (List.mem_append_right _ (List.mem_append_right _ (List.mem_append_right _ (List.mem_append_right _ (List.mem_append_right _ (List.mem_append_right _ (List.mem_append_right _ (List.mem_append_right _ (List.mem_append_right _ (List.mem_append_right _ (List.mem_append_right _ (List.mem_append_right _ (List.mem_append_right _ (List.mem_append_right _ (List.mem_append_right _ (List.mem_append_right _ (List.mem_append_right _ (List.mem_append_right _ (List.mem_append_right _ (List.mem_append_right _ (List.mem_append_right _ (List.mem_append_right _ (List.mem_append_right _ (List.mem_append_left _ (h)))))))))))))))))))))))))))))
theorem tb_r29 : ∀ w ∈ wsL_law_r29, w ∈ eu_TB := fun _ h => List.mem_append_left _ (List.mem_append_right _ (List.mem_append_right _ (List.mem_append_right _ (List.mem_append_right _ (List.mem_append_right _ (List.mem_append_right _ (List.mem_append_right _ (List.mem_append_right _ (List.mem_append_right _ (List.mem_append_right _ (List.mem_append_right _ (List.mem_append_right _ (List.mem_append_right _ (List.mem_append_right _ (List.mem_append_right _ (List.mem_append_right _ (List.mem_append_right _ (List.mem_append_right _ (List.mem_append_right _ (List.mem_append_right _ (List.mem_append_right _ (List.mem_append_right _ (List.mem_append_right _ (List.mem_append_right _ (List.mem_append_right _ (List.mem_append_right _ (List.mem_append_right _ (List.mem_append_right _ (h)))))))))))))))))))))))))))))
theorem tb_wsX40 : ∀ w ∈ wsX40, w ∈ eu_TB := fun _ h => List.mem_append_right _ (List.mem_append_left _ (h))
theorem tb_wsX50 : ∀ w ∈ wsX50, w ∈ eu_TB := fun _ h => List.mem_append_right _ (List.mem_append_right _ (List.mem_append_left _ (h)))
theorem tb_wsX10 : ∀ w ∈ wsX10, w ∈ eu_TB := fun _ h => List.mem_append_right _ (List.mem_append_right _ (List.mem_append_right _ (List.mem_append_left _ (h))))
theorem tb_wsX30 : ∀ w ∈ wsX30, w ∈ eu_TB := fun _ h => List.mem_append_right _ (List.mem_append_right _ (List.mem_append_right _ (List.mem_append_right _ (List.mem_append_left _ (h)))))
theorem tb_wsX20 : ∀ w ∈ wsX20, w ∈ eu_TB := fun _ h => List.mem_append_right _ (List.mem_append_right _ (List.mem_append_right _ (List.mem_append_right _ (List.mem_append_right _ (List.mem_append_left _ (h))))))
theorem tb_wsX00 : ∀ w ∈ wsX00, w ∈ eu_TB := fun _ h => List.mem_append_right _ (List.mem_append_right _ (List.mem_append_right _ (List.mem_append_right _ (List.mem_append_right _ (List.mem_append_right _ (h))))))
end
section
theorem eu_dummy0 : True := trivial
/-! ===== the world: 37 cells at addresses ad 0 .. ad 36; s k j is what slot j of cell k holds (0 .. 24 the class's, 25 .. 36 the reference's) ===== -/
abbrev eu_T : Type := Nat → Nat → Int32
def eu_sk (σ : eu_T) (k : Nat) (f : Nat → Int32) : eu_T := fun k' => if k' = k then f else σ k'
def eu_up (σ : eu_T) (k i : Nat) (x : Int32) : eu_T := eu_sk σ k (upd (σ k) i x)
def eu_aln (k : Nat) : Nat := if k = 26 then 4 else if k = 27 then 4 else if k = 28 then 240 else if k = 29 then 60 else if k = 30 then 60 else if k = 31 then 36 else if k = 32 then 30 else if k = 33 then 72 else if k = 35 then 12 else 16
def eu_we (cy : Nat → ClassId) (ad : Nat → Nat) (f : Nat → Int32) (k : Nat) : va_E :=
  if k = 0 then .inr (4, [.ref (ad 1), .ref (ad 2), .ref (ad 3), .ref (ad 4), .int (f 4), .int (f 5), .int (f 6), .int (f 7)])
  else if k = 1 then .inr (1, [.ref (ad 2), .ref (ad 3), .ref (ad 5), .int (f 3), .int (f 4), .int (f 5), .int (f 6), .int (f 7)])
  else if k = 2 then .inr (3, [.ref (ad 3), .ref (ad 9), .ref (ad 10), .int (f 3)])
  else if k = 3 then .inr (0, [.ref (ad 6), .ref (ad 7), .ref (ad 8), .int (f 3), .int (f 4), .int (f 5), .int (f 6)])
  else if k = 4 then .inl (cy 2, 4, .inr (.inr (.inr (.inr (fun j => some (ad (11 + j)))))))
  else if k = 5 then .inl (cy 3, 6, .inr (.inr (.inr (.inr (fun j => some (ad (19 + j)))))))
  else if k = 6 then .inl (cy 0, 60, .inl f)
  else if k < 11 then .inl (cy 0, 12, .inl f)
  else if k < 15 then .inr (2, [.ref (ad (k + 4)), .int (f 1), .int (f 2), .int (f 3)])
  else if k < 19 then .inl (cy 0, 60, .inl f)
  else if k < 25 then .inl (cy 0, 12, .inl f)
  else if k = 25 then .inr (5, [.ref (ad 26), .ref (ad 27), .ref (ad 28), .ref (ad 29), .int (f 4), .ref (ad 30), .int (f 6), .int (f 7), .int (f 8), .ref (ad 31), .int (f 10), .ref (ad 32), .ref (ad 33), .ref (ad 34), .int (f 14), .int (f 15), .int (f 16), .ref (ad 35), .int (f 18), .int (f 19), .int (f 20), .ref (ad 36), .int (f 22)])
  else if k = 34 then .inl (cy 1, 15, .inl f)
  else .inl (cy 0, eu_aln k, .inl f)
def eu_wd (lo n : Nat) (cy : Nat → ClassId) (ad : Nat → Nat) (σ : eu_T) : va_W := (List.range n).map (fun j => (ad (lo + j), eu_we cy ad (σ (lo + j)) (lo + j)))
def eu_A (lo n : Nat) (ad : Nat → Nat) : Nat → Prop := fun q => ∃ k, (lo ≤ k ∧ k < lo + n) ∧ q = ad k
def eu_ok (ad : Nat → Nat) : Prop := ∀ i j : Nat, i < 37 → j < 37 → ad i = ad j → i = j
theorem eu_wd_len (lo n : Nat) (cy : Nat → ClassId) (ad : Nat → Nat) (σ : eu_T) : (eu_wd lo n cy ad σ).length = n := by simp [eu_wd]
theorem eu_wd_ix (lo n : Nat) (cy : Nat → ClassId) (ad : Nat → Nat) (σ : eu_T) (j : Nat) (h : j < n) : (eu_wd lo n cy ad σ)[j]? = some (ad (lo + j), eu_we cy ad (σ (lo + j)) (lo + j)) := by
  simp [eu_wd, List.getElem?_range h]
theorem eu_wd_get {lo n : Nat} {cy : Nat → ClassId} {ad : Nat → Nat} {σ : eu_T} {k : Nat} (h : lo ≤ k ∧ k < lo + n) : (eu_wd lo n cy ad σ)[k - lo]? = some (ad k, eu_we cy ad (σ k) k) := by
  have e := eu_wd_ix lo n cy ad σ (k - lo) (by omega)
  rw [show lo + (k - lo) = k by omega] at e
  exact e
theorem eu_wd_set {lo n : Nat} {cy : Nat → ClassId} {ad : Nat → Nat} {σ : eu_T} {k : Nat} (h : lo ≤ k ∧ k < lo + n) {x : va_E} {f : Nat → Int32} (hx : eu_we cy ad f k = x) : (eu_wd lo n cy ad σ).set (k - lo) (ad k, x) = eu_wd lo n cy ad (eu_sk σ k f) := by
  apply List.ext_getElem?
  intro j
  by_cases hj : j < n
  · rw [eu_wd_ix lo n cy ad _ j hj]
    by_cases e : j = k - lo
    · subst e
      rw [List.getElem?_set_self (by rw [eu_wd_len]; exact hj), show lo + (k - lo) = k by omega]
      simp [eu_sk, hx]
    · rw [List.getElem?_set_ne (Ne.symm e), eu_wd_ix lo n cy ad _ j hj]
      simp [eu_sk, show ¬ lo + j = k by omega]
  · rw [List.getElem?_eq_none (by rw [List.length_set, eu_wd_len]; omega), List.getElem?_eq_none (by rw [eu_wd_len]; omega)]
theorem eu_wd_D {lo n : Nat} {cy : Nat → ClassId} {ad : Nat → Nat} (σ : eu_T) (hok : eu_ok ad) (hn : lo + n ≤ 37) : va_D (eu_A lo n ad) (eu_wd lo n cy ad σ) := by
  have key : ∀ (k : Nat) (q : Nat × va_E), (eu_wd lo n cy ad σ)[k]? = some q → k < n ∧ q.1 = ad (lo + k) := by
    intro k q hq
    have hk : k < n := by
      have := (List.getElem?_eq_some_iff.mp hq).1
      rwa [eu_wd_len] at this
    rw [eu_wd_ix lo n cy ad σ k hk] at hq
    cases hq
    exact ⟨hk, rfl⟩
  refine ⟨fun i j p q hi hj hpq => ?_, fun k q hq => ?_⟩
  · obtain ⟨a1, a2⟩ := key i p hi
    obtain ⟨b1, b2⟩ := key j q hj
    have := hok (lo + i) (lo + j) (by omega) (by omega) (by rw [← a2, ← b2]; exact hpq)
    omega
  · obtain ⟨a1, a2⟩ := key k q hq
    exact ⟨lo + k, ⟨by omega, by omega⟩, a2⟩
def eu_ty (cy : Nat → ClassId) : List (ClassId × FieldType) := [(cy 0, .int), (cy 1, .boolean), (cy 2, .object "EachUndoes$Sheet"), (cy 3, .array .int)]
/-! what the tables say of the accesses between nest mates -/
def eu_nl : List Cond := [.methodLinkNest "EachUndoes" 11 ({ cls := "EachUndoes$Outlook", name := "<init>", desc := "()V" } : MethodName) "EachUndoes", .methodLinkNest "EachUndoes$Outlook" 11 ({ cls := "EachUndoes$Undoings", name := "<init>", desc := "()V" } : MethodName) "EachUndoes", .methodLinkNest "EachUndoes$Undoings" 11 ({ cls := "EachUndoes$Deeds", name := "<init>", desc := "()V" } : MethodName) "EachUndoes", .fieldLinkNest "EachUndoes$Undoings" 44 "EachUndoes$Deeds" "doers" "[I" "EachUndoes", .fieldLinkNest "EachUndoes" 62 "EachUndoes$Deeds" "doers" "[I" "EachUndoes", .fieldLinkNest "EachUndoes" 66 "EachUndoes$Deeds" "sources" "[I" "EachUndoes", .fieldLinkNest "EachUndoes" 43 "EachUndoes$Deeds" "length" "I" "EachUndoes", .fieldLinkNest "EachUndoes$Outlook" 56 "EachUndoes$Deeds" "total" "I" "EachUndoes", .fieldLinkNest "EachUndoes" 59 "EachUndoes$Deeds" "total" "I" "EachUndoes", .fieldLinkNest "EachUndoes$Undoings" 43 "EachUndoes$Deeds" "total" "I" "EachUndoes", .fieldLinkNest "EachUndoes" 69 "EachUndoes$Deeds" "own" "I" "EachUndoes", .fieldLinkNest "EachUndoes" 56 "EachUndoes$Deeds" "fault" "I" "EachUndoes", .fieldLinkNest "EachUndoes$Outlook" 18 "EachUndoes$Undoings" "deeds" "LEachUndoes$Deeds;" "EachUndoes", .fieldLinkNest "EachUndoes" 21 "EachUndoes$Undoings" "deeds" "LEachUndoes$Deeds;" "EachUndoes", .fieldLinkNest "EachUndoes$Outlook" 44 "EachUndoes$Undoings" "things" "[I" "EachUndoes", .fieldLinkNest "EachUndoes$Outlook" 41 "EachUndoes$Undoings" "total" "I" "EachUndoes", .fieldLinkNest "EachUndoes" 79 "EachUndoes$Undoings" "total" "I" "EachUndoes", .fieldLinkNest "EachUndoes" 16 "EachUndoes$Outlook" "undoings" "LEachUndoes$Undoings;" "EachUndoes", .fieldLinkNest "EachUndoes" 93 "EachUndoes$Outlook" "worths" "[[I" "EachUndoes", .fieldLinkNest "EachUndoes" 163 "EachUndoes$Outlook" "drawnDeeds" "I" "EachUndoes", .fieldLinkNest "EachUndoes" 167 "EachUndoes$Outlook" "drawnTotal" "I" "EachUndoes", .methodLinkNest "EachUndoes" 38 ({ cls := "EachUndoes$Sheet", name := "<init>", desc := "()V" } : MethodName) "EachUndoes", .fieldLinkNest "EachUndoes" 90 "EachUndoes$Sheet" "items" "[I" "EachUndoes", .fieldLinkNest "EachUndoes" 80 "EachUndoes$Sheet" "isLost" "Z" "EachUndoes", .fieldLinkNest "EachUndoes" 180 "EachUndoes$Sheet" "form" "I" "EachUndoes", .fieldLinkNest "EachUndoes" 87 "EachUndoes$Sheet" "size" "I" "EachUndoes", .methodLinkNest "EachUndoes" 48 ({ cls := "EachUndoes$Deeds", name := "append", desc := "(I)I" } : MethodName) "EachUndoes", .methodLinkNest "EachUndoes$Deeds" 45 ({ cls := "EachUndoes", name := "isBelow", desc := "(II)Z" } : MethodName) "EachUndoes", .methodLinkNest "EachUndoes" 52 ({ cls := "EachUndoes$Deeds", name := "clear", desc := "()I" } : MethodName) "EachUndoes", .methodLinkNest "EachUndoes" 76 ({ cls := "EachUndoes$Undoings", name := "tell", desc := "(II)Z" } : MethodName) "EachUndoes", .methodLinkNest "EachUndoes" 97 ({ cls := "EachUndoes$Undoings", name := "lawful", desc := "(I)I" } : MethodName) "EachUndoes", .methodLinkNest "EachUndoes$Undoings" 33 ({ cls := "EachUndoes", name := "bitOf", desc := "(II)I" } : MethodName) "EachUndoes", .methodLinkNest "EachUndoes" 100 ({ cls := "EachUndoes$Undoings", name := "holding", desc := "(I)I" } : MethodName) "EachUndoes", .methodLinkNest "EachUndoes" 106 ({ cls := "EachUndoes$Undoings", name := "lawfulOfFirst", desc := "(I)I" } : MethodName) "EachUndoes", .methodLinkNest "EachUndoes$Undoings" 40 ({ cls := "EachUndoes", name := "firstBits", desc := "(I)I" } : MethodName) "EachUndoes", .methodLinkNest "EachUndoes" 118 ({ cls := "EachUndoes$Undoings", name := "standing", desc := "(I)I" } : MethodName) "EachUndoes", .methodLinkNest "EachUndoes$Undoings" 53 ({ cls := "EachUndoes$Deeds", name := "standing", desc := "(I)I" } : MethodName) "EachUndoes", .methodLinkNest "EachUndoes$Deeds" 54 ({ cls := "EachUndoes", name := "firstBits", desc := "(I)I" } : MethodName) "EachUndoes", .methodLinkNest "EachUndoes" 109 ({ cls := "EachUndoes$Undoings", name := "unspent", desc := "(I)I" } : MethodName) "EachUndoes", .methodLinkNest "EachUndoes" 112 ({ cls := "EachUndoes$Undoings", name := "undone", desc := "(I)I" } : MethodName) "EachUndoes", .methodLinkNest "EachUndoes" 115 ({ cls := "EachUndoes$Deeds", name := "rootOf", desc := "(II)I" } : MethodName) "EachUndoes", .methodLinkNest "EachUndoes$Deeds" 60 ({ cls := "EachUndoes", name := "bitOf", desc := "(II)I" } : MethodName) "EachUndoes", .methodLinkNest "EachUndoes" 124 ({ cls := "EachUndoes$Outlook", name := "renew", desc := "()V" } : MethodName) "EachUndoes", .methodLinkNest "EachUndoes$Outlook" 28 ({ cls := "EachUndoes$Undoings", name := "lawful", desc := "(I)I" } : MethodName) "EachUndoes", .methodLinkNest "EachUndoes$Outlook" 36 ({ cls := "EachUndoes$Undoings", name := "unspent", desc := "(I)I" } : MethodName) "EachUndoes", .methodLinkNest "EachUndoes" 127 ({ cls := "EachUndoes$Outlook", name := "standingWith", desc := "(II)I" } : MethodName) "EachUndoes", .methodLinkNest "EachUndoes$Outlook" 48 ({ cls := "EachUndoes$Undoings", name := "undone", desc := "(I)I" } : MethodName) "EachUndoes", .methodLinkNest "EachUndoes$Outlook" 51 ({ cls := "EachUndoes$Deeds", name := "standing", desc := "(I)I" } : MethodName) "EachUndoes", .methodLinkNest "EachUndoes" 130 ({ cls := "EachUndoes$Outlook", name := "isAsTold", desc := "(III)Z" } : MethodName) "EachUndoes", .methodLinkNest "EachUndoes$Outlook" 57 ({ cls := "EachUndoes", name := "firstBits", desc := "(I)I" } : MethodName) "EachUndoes", .methodLinkNest "EachUndoes" 134 ({ cls := "EachUndoes$Outlook", name := "leastFirst", desc := "(III)I" } : MethodName) "EachUndoes", .methodLinkNest "EachUndoes$Outlook" 60 ({ cls := "EachUndoes$Undoings", name := "ownerOf", desc := "(II)I" } : MethodName) "EachUndoes", .methodLinkNest "EachUndoes$Outlook" 67 ({ cls := "EachUndoes", name := "bitOf", desc := "(II)I" } : MethodName) "EachUndoes", .methodLinkNest "EachUndoes" 138 ({ cls := "EachUndoes$Outlook", name := "lasting", desc := "(I)I" } : MethodName) "EachUndoes", .methodLinkNest "EachUndoes" 141 ({ cls := "EachUndoes$Outlook", name := "bestMove", desc := "(II)I" } : MethodName) "EachUndoes", .methodLinkNest "EachUndoes" 144 ({ cls := "EachUndoes$Outlook", name := "bestReply", desc := "(II)I" } : MethodName) "EachUndoes", .methodLinkNest "EachUndoes" 147 ({ cls := "EachUndoes$Outlook", name := "worthOf", desc := "(II)I" } : MethodName) "EachUndoes", .methodLinkNest "EachUndoes" 159 ({ cls := "EachUndoes$Outlook", name := "draw", desc := "(II)V" } : MethodName) "EachUndoes", .methodLinkNest "EachUndoes$Outlook" 106 ({ cls := "EachUndoes$Deeds", name := "doneBy", desc := "(I)I" } : MethodName) "EachUndoes", .methodLinkNest "EachUndoes" 166 ({ cls := "EachUndoes$Deeds", name := "standing", desc := "(I)I" } : MethodName) "EachUndoes", .methodLinkNest "EachUndoes" 170 ({ cls := "EachUndoes$Sheet", name := "begin", desc := "(II)V" } : MethodName) "EachUndoes", .methodLinkNest "EachUndoes" 173 ({ cls := "EachUndoes$Sheet", name := "findingAt", desc := "(II)I" } : MethodName) "EachUndoes", .methodLinkNest "EachUndoes$Sheet" 26 ({ cls := "EachUndoes", name := "isBelow", desc := "(II)Z" } : MethodName) "EachUndoes", .methodLinkNest "EachUndoes" 176 ({ cls := "EachUndoes$Sheet", name := "put", desc := "(II)V" } : MethodName) "EachUndoes", .methodLinkNest "EachUndoes" 183 ({ cls := "EachUndoes$Sheet", name := "hasItems", desc := "(II)Z" } : MethodName) "EachUndoes"]
def eu_N (s : State) : Prop := ∀ w ∈ eu_nl, va_Nw w s
def eu_nn (w : Cond) : Bool := match w with
  | .fieldLinkNest _ _ _ _ _ _ => true
  | .methodLinkNest _ _ _ _ => true
  | _ => false
theorem eu_nl_ok : ∀ w ∈ eu_nl, eu_nn w = true := by decide +kernel
theorem eu_N_warm {s U : State} (hW : s.WarmedH U.vm) (h : eu_N s) : eu_N U := by
  intro w hw
  have h1 := h w hw
  have h2 := eu_nl_ok w hw
  cases w <;> first | (exact va_Nw.warmF hW h1) | (exact va_Nw.warmM hW h1) | (cases h2)
theorem eu_N_same {s U : State} (e : s.vm = U.vm) (h : eu_N s) : eu_N U := by
  intro w hw
  have h1 := h w hw
  have h2 := eu_nl_ok w hw
  cases w <;> first | (exact va_Nw.same rfl e h1) | (cases h2)
/-! the place of a walk -/
abbrev eu_E := Program × Launch × Env × Room × State × MethodId × Array Value × List Frame × Method × Code × va_G × (Nat → ClassId) × (Nat → Nat)
abbrev eu_p (E : eu_E) := E.1
abbrev eu_l (E : eu_E) := E.2.1
abbrev eu_e (E : eu_E) := E.2.2.1
abbrev eu_R (E : eu_E) := E.2.2.2.1
abbrev eu_s (E : eu_E) := E.2.2.2.2.1
abbrev eu_m (E : eu_E) := E.2.2.2.2.2.1
abbrev eu_a (E : eu_E) := E.2.2.2.2.2.2.1
abbrev eu_b (E : eu_E) := E.2.2.2.2.2.2.2.1
abbrev eu_me (E : eu_E) := E.2.2.2.2.2.2.2.2.1
abbrev eu_c (E : eu_E) := E.2.2.2.2.2.2.2.2.2.1
abbrev eu_D (E : eu_E) := E.2.2.2.2.2.2.2.2.2.2.1
abbrev eu_cy (E : eu_E) := E.2.2.2.2.2.2.2.2.2.2.2.1
abbrev eu_ad (E : eu_E) := E.2.2.2.2.2.2.2.2.2.2.2.2
def eu_C (E : eu_E) (rm : Room) (lo n nL : Nat) (cc : ByteArray) (own : String) (ws : List Cond) (ret : Option FieldType) : Prop :=
  (eu_p E).tables.exec = Jvm.exec ∧ (eu_c E).code = cc ∧ (eu_c E).maxLocals = nL ∧ (eu_s E).vm.findClass own = some (eu_m E).cls ∧ (∀ w ∈ ws, w.before (eu_a E) (eu_s E) = true) ∧ (eu_me E).locks = false ∧ va_K (eu_D E) vwCl (eu_ty (eu_cy E)) (eu_s E) ∧ eu_N (eu_s E) ∧ eu_ok (eu_ad E) ∧ eu_R E = rm ∧ lo + n ≤ 37 ∧ (eu_me E).sig.returnType = ret
def eu_G (E : eu_E) (lo n nL : Nat) (Q : State → Prop) (σ : eu_T) (pc : Nat) (lv : List (Nat × Value)) (st : List Value) : Prop :=
  ∀ (H : Heap) (locs : List Loc) (ls : Array Slot), va_P (eu_D E) vwCl (eu_wd lo n (eu_cy E) (eu_ad E) σ) H → va_S (eu_A lo n (eu_ad E)) (eu_s E).heap H locs → lv_has ls nL lv →
    W (eu_p E) (eu_l E) (eu_e E) (eu_R E) (eu_s E) (eu_m E) (eu_a E) (eu_b E) (eu_me E) (eu_c E) H locs 0 0 Q (F0 (eu_m E) pc ls st)
/-- a contract: the answer r, the world afterwards -/
def eu_B (lo n : Nat) (σ : eu_T) (D : va_G) (cy : Nat → ClassId) (ad : Nat → Nat) : State → Prop := fun t => va_P D vwCl (eu_wd lo n cy ad σ) t.heap
def eu_Pc (lo n : Nat) (av : (Nat → Nat) → List Value) (σ : eu_T) (D : va_G) (cy : Nat → ClassId) (ad : Nat → Nat) : Array Value → State → Prop := va_Pc (av ad) (fun U => va_P D vwCl (eu_wd lo n cy ad σ) U.heap ∧ va_K D vwCl (eu_ty cy) U ∧ eu_N U)
def eu_qI (lo n : Nat) (σ : eu_T) (r : Int32) (D : va_G) (cy : Nat → ClassId) (ad : Nat → Nat) : Array Value → State → Outcome → State → Prop := va_Qi (fun (r' : Int32) (_ : Unit) => r' = r) (fun _ => eu_B lo n σ D cy ad) (eu_A lo n ad)
def eu_qL (lo n : Nat) (σ : eu_T) (r : Int64) (D : va_G) (cy : Nat → ClassId) (ad : Nat → Nat) : Array Value → State → Outcome → State → Prop := va_Ql (fun (r' : Int64) (_ : Unit) => r' = r) (fun _ => eu_B lo n σ D cy ad) (eu_A lo n ad)
def eu_qV (lo n : Nat) (σ : eu_T) (_ : Int32) (D : va_G) (cy : Nat → ClassId) (ad : Nat → Nat) : Array Value → State → Outcome → State → Prop := va_Qv (fun (_ : Unit) => True) (fun _ => eu_B lo n σ D cy ad) (eu_A lo n ad)
def eu_QI (E : eu_E) (lo n : Nat) (σ : eu_T) (r : Int32) : State → Prop := MQ (eu_b E) (eu_qI lo n σ r (eu_D E) (eu_cy E) (eu_ad E)) (eu_a E) (eu_s E) 0 0 (eu_A lo n (eu_ad E))
def eu_QL (E : eu_E) (lo n : Nat) (σ : eu_T) (r : Int64) : State → Prop := MQ (eu_b E) (eu_qL lo n σ r (eu_D E) (eu_cy E) (eu_ad E)) (eu_a E) (eu_s E) 0 0 (eu_A lo n (eu_ad E))
def eu_QV (E : eu_E) (lo n : Nat) (σ : eu_T) (r : Int32) : State → Prop := MQ (eu_b E) (eu_qV lo n σ r (eu_D E) (eu_cy E) (eu_ad E)) (eu_a E) (eu_s E) 0 0 (eu_A lo n (eu_ad E))
def eu_KI (l : Launch) (y : MethodName) (ws : List Cond) (rm : Room) (lo n : Nat) (av : (Nat → Nat) → List Value) (σ σ' : eu_T) (r : Int32) : Prop :=
  ∀ (D : va_G) (cy : Nat → ClassId) (ad : Nat → Nat), eu_ok ad → Met l y ws rm (eu_Pc lo n av σ D cy ad) (eu_qI lo n σ' r D cy ad) 0 0 (eu_A lo n ad)
theorem eu_KI_of {l : Launch} {y : MethodName} {ws ws' : List Cond} {rm : Room} {lo n maxL : Nat} {cc : ByteArray} {ret : Option FieldType} {av : (Nat → Nat) → List Value} {σ σ' : eu_T} {r : Int32} (hn : lo + n ≤ 37) (hy : plainName y.cls = true) (hw : ws = Cond.code y cc maxL ret :: ws') (hlen : ∀ ad, (lg_sl (av ad)).length ≤ maxL)
    (body : ∀ E : eu_E, eu_C E rm lo n maxL cc y.cls ws ret → eu_G E lo n maxL (eu_QI E lo n σ' r) σ 0 (lv_args 0 (av (eu_ad E))) []) : eu_KI l y ws rm lo n av σ σ' r := by
  intro D cy ad hok
  refine Met.ofW (cc := cc) (maxL := maxL) (ret := ret) hy hw ?_
  intro p e s m args below meth c s₁ B hml hv
  obtain ⟨ha, hP, hK, hN⟩ := hv
  subst ha
  have hl := lv_entry (av ad) (n := maxL) (hlen ad)
  rw [lg_entry_eq]
  exact body (p, l, e, (headSpec ws rm).room, s, m, (av ad).toArray, below, meth, c, D, cy, ad) ⟨B.exec, B.bytes, hml, findClass_of_methodNamed B.named, atoms_spec (ws := ws) B.pre, B.notSynchronized, hK, hN, hok, rfl, hn, B.returns⟩ s.heap [] _ hP va_S.rf hl
def eu_KL (l : Launch) (y : MethodName) (ws : List Cond) (rm : Room) (lo n : Nat) (av : (Nat → Nat) → List Value) (σ σ' : eu_T) (r : Int64) : Prop :=
  ∀ (D : va_G) (cy : Nat → ClassId) (ad : Nat → Nat), eu_ok ad → Met l y ws rm (eu_Pc lo n av σ D cy ad) (eu_qL lo n σ' r D cy ad) 0 0 (eu_A lo n ad)
theorem eu_KL_of {l : Launch} {y : MethodName} {ws ws' : List Cond} {rm : Room} {lo n maxL : Nat} {cc : ByteArray} {ret : Option FieldType} {av : (Nat → Nat) → List Value} {σ σ' : eu_T} {r : Int64} (hn : lo + n ≤ 37) (hy : plainName y.cls = true) (hw : ws = Cond.code y cc maxL ret :: ws') (hlen : ∀ ad, (lg_sl (av ad)).length ≤ maxL)
    (body : ∀ E : eu_E, eu_C E rm lo n maxL cc y.cls ws ret → eu_G E lo n maxL (eu_QL E lo n σ' r) σ 0 (lv_args 0 (av (eu_ad E))) []) : eu_KL l y ws rm lo n av σ σ' r := by
  intro D cy ad hok
  refine Met.ofW (cc := cc) (maxL := maxL) (ret := ret) hy hw ?_
  intro p e s m args below meth c s₁ B hml hv
  obtain ⟨ha, hP, hK, hN⟩ := hv
  subst ha
  have hl := lv_entry (av ad) (n := maxL) (hlen ad)
  rw [lg_entry_eq]
  exact body (p, l, e, (headSpec ws rm).room, s, m, (av ad).toArray, below, meth, c, D, cy, ad) ⟨B.exec, B.bytes, hml, findClass_of_methodNamed B.named, atoms_spec (ws := ws) B.pre, B.notSynchronized, hK, hN, hok, rfl, hn, B.returns⟩ s.heap [] _ hP va_S.rf hl
def eu_KV (l : Launch) (y : MethodName) (ws : List Cond) (rm : Room) (lo n : Nat) (av : (Nat → Nat) → List Value) (σ σ' : eu_T) (r : Int32) : Prop :=
  ∀ (D : va_G) (cy : Nat → ClassId) (ad : Nat → Nat), eu_ok ad → Met l y ws rm (eu_Pc lo n av σ D cy ad) (eu_qV lo n σ' r D cy ad) 0 0 (eu_A lo n ad)
theorem eu_KV_of {l : Launch} {y : MethodName} {ws ws' : List Cond} {rm : Room} {lo n maxL : Nat} {cc : ByteArray} {ret : Option FieldType} {av : (Nat → Nat) → List Value} {σ σ' : eu_T} {r : Int32} (hn : lo + n ≤ 37) (hy : plainName y.cls = true) (hw : ws = Cond.code y cc maxL ret :: ws') (hlen : ∀ ad, (lg_sl (av ad)).length ≤ maxL)
    (body : ∀ E : eu_E, eu_C E rm lo n maxL cc y.cls ws ret → eu_G E lo n maxL (eu_QV E lo n σ' r) σ 0 (lv_args 0 (av (eu_ad E))) []) : eu_KV l y ws rm lo n av σ σ' r := by
  intro D cy ad hok
  refine Met.ofW (cc := cc) (maxL := maxL) (ret := ret) hy hw ?_
  intro p e s m args below meth c s₁ B hml hv
  obtain ⟨ha, hP, hK, hN⟩ := hv
  subst ha
  have hl := lv_entry (av ad) (n := maxL) (hlen ad)
  rw [lg_entry_eq]
  exact body (p, l, e, (headSpec ws rm).room, s, m, (av ad).toArray, below, meth, c, D, cy, ad) ⟨B.exec, B.bytes, hml, findClass_of_methodNamed B.named, atoms_spec (ws := ws) B.pre, B.notSynchronized, hK, hN, hok, rfl, hn, B.returns⟩ s.heap [] _ hP va_S.rf hl
theorem eg_iadd {E : eu_E} {rm : Room} {lo n nL : Nat} {cc : ByteArray} {own : String} {ws : List Cond} {ret : Option FieldType} (C : eu_C E rm lo n nL cc own ws ret) {Q : State → Prop} {σ : eu_T} {pc : Nat} {lv : List (Nat × Value)} {st : List Value} {x y : Int32} (hd : decode cc pc = .ok (.iadd, 1))  (k : eu_G E lo n nL Q σ (pc + 1) lv (.int (x + y) :: st)) : eu_G E lo n nL Q σ (pc) lv (.int y :: .int x :: st) :=
  fun H locs ls hP hS hl => lv_iadd C.1 C.2.1 hd (k H locs ls hP hS hl)
theorem eg_isub {E : eu_E} {rm : Room} {lo n nL : Nat} {cc : ByteArray} {own : String} {ws : List Cond} {ret : Option FieldType} (C : eu_C E rm lo n nL cc own ws ret) {Q : State → Prop} {σ : eu_T} {pc : Nat} {lv : List (Nat × Value)} {st : List Value} {x y : Int32} (hd : decode cc pc = .ok (.isub, 1))  (k : eu_G E lo n nL Q σ (pc + 1) lv (.int (x - y) :: st)) : eu_G E lo n nL Q σ (pc) lv (.int y :: .int x :: st) :=
  fun H locs ls hP hS hl => lv_isub C.1 C.2.1 hd (k H locs ls hP hS hl)
theorem eg_imul {E : eu_E} {rm : Room} {lo n nL : Nat} {cc : ByteArray} {own : String} {ws : List Cond} {ret : Option FieldType} (C : eu_C E rm lo n nL cc own ws ret) {Q : State → Prop} {σ : eu_T} {pc : Nat} {lv : List (Nat × Value)} {st : List Value} {x y : Int32} (hd : decode cc pc = .ok (.imul, 1))  (k : eu_G E lo n nL Q σ (pc + 1) lv (.int (x * y) :: st)) : eu_G E lo n nL Q σ (pc) lv (.int y :: .int x :: st) :=
  fun H locs ls hP hS hl => lv_imul C.1 C.2.1 hd (k H locs ls hP hS hl)
theorem eg_iand {E : eu_E} {rm : Room} {lo n nL : Nat} {cc : ByteArray} {own : String} {ws : List Cond} {ret : Option FieldType} (C : eu_C E rm lo n nL cc own ws ret) {Q : State → Prop} {σ : eu_T} {pc : Nat} {lv : List (Nat × Value)} {st : List Value} {x y : Int32} (hd : decode cc pc = .ok (.iand, 1))  (k : eu_G E lo n nL Q σ (pc + 1) lv (.int (x &&& y) :: st)) : eu_G E lo n nL Q σ (pc) lv (.int y :: .int x :: st) :=
  fun H locs ls hP hS hl => lv_iand C.1 C.2.1 hd (k H locs ls hP hS hl)
theorem eg_ior {E : eu_E} {rm : Room} {lo n nL : Nat} {cc : ByteArray} {own : String} {ws : List Cond} {ret : Option FieldType} (C : eu_C E rm lo n nL cc own ws ret) {Q : State → Prop} {σ : eu_T} {pc : Nat} {lv : List (Nat × Value)} {st : List Value} {x y : Int32} (hd : decode cc pc = .ok (.ior, 1))  (k : eu_G E lo n nL Q σ (pc + 1) lv (.int (x ||| y) :: st)) : eu_G E lo n nL Q σ (pc) lv (.int y :: .int x :: st) :=
  fun H locs ls hP hS hl => lv_ior C.1 C.2.1 hd (k H locs ls hP hS hl)
theorem eg_ixor {E : eu_E} {rm : Room} {lo n nL : Nat} {cc : ByteArray} {own : String} {ws : List Cond} {ret : Option FieldType} (C : eu_C E rm lo n nL cc own ws ret) {Q : State → Prop} {σ : eu_T} {pc : Nat} {lv : List (Nat × Value)} {st : List Value} {x y : Int32} (hd : decode cc pc = .ok (.ixor, 1))  (k : eu_G E lo n nL Q σ (pc + 1) lv (.int (x ^^^ y) :: st)) : eu_G E lo n nL Q σ (pc) lv (.int y :: .int x :: st) :=
  fun H locs ls hP hS hl => lv_ixor C.1 C.2.1 hd (k H locs ls hP hS hl)
theorem eg_ishl {E : eu_E} {rm : Room} {lo n nL : Nat} {cc : ByteArray} {own : String} {ws : List Cond} {ret : Option FieldType} (C : eu_C E rm lo n nL cc own ws ret) {Q : State → Prop} {σ : eu_T} {pc : Nat} {lv : List (Nat × Value)} {st : List Value} {x y : Int32} (hd : decode cc pc = .ok (.ishl, 1))  (k : eu_G E lo n nL Q σ (pc + 1) lv (.int (x <<< (y &&& 31)) :: st)) : eu_G E lo n nL Q σ (pc) lv (.int y :: .int x :: st) :=
  fun H locs ls hP hS hl => lv_ishl C.1 C.2.1 hd (k H locs ls hP hS hl)
theorem eg_ishr {E : eu_E} {rm : Room} {lo n nL : Nat} {cc : ByteArray} {own : String} {ws : List Cond} {ret : Option FieldType} (C : eu_C E rm lo n nL cc own ws ret) {Q : State → Prop} {σ : eu_T} {pc : Nat} {lv : List (Nat × Value)} {st : List Value} {x y : Int32} (hd : decode cc pc = .ok (.ishr, 1))  (k : eu_G E lo n nL Q σ (pc + 1) lv (.int (x >>> (y &&& 31)) :: st)) : eu_G E lo n nL Q σ (pc) lv (.int y :: .int x :: st) :=
  fun H locs ls hP hS hl => lv_ishr C.1 C.2.1 hd (k H locs ls hP hS hl)
theorem eg_iushr {E : eu_E} {rm : Room} {lo n nL : Nat} {cc : ByteArray} {own : String} {ws : List Cond} {ret : Option FieldType} (C : eu_C E rm lo n nL cc own ws ret) {Q : State → Prop} {σ : eu_T} {pc : Nat} {lv : List (Nat × Value)} {st : List Value} {x y : Int32} (hd : decode cc pc = .ok (.iushr, 1))  (k : eu_G E lo n nL Q σ (pc + 1) lv (.int ((x.toUInt32 >>> (y.toUInt32 &&& Int32.toUInt32 31)).toInt32) :: st)) : eu_G E lo n nL Q σ (pc) lv (.int y :: .int x :: st) :=
  fun H locs ls hP hS hl => lv_iushr C.1 C.2.1 hd rfl (k H locs ls hP hS hl)
theorem eg_irem {E : eu_E} {rm : Room} {lo n nL : Nat} {cc : ByteArray} {own : String} {ws : List Cond} {ret : Option FieldType} (C : eu_C E rm lo n nL cc own ws ret) {Q : State → Prop} {σ : eu_T} {pc : Nat} {lv : List (Nat × Value)} {st : List Value} {x y : Int32} (hd : decode cc pc = .ok (.irem, 1)) (hne : ¬ y = 0) (k : eu_G E lo n nL Q σ (pc + 1) lv (.int (x - x / y * y) :: st)) : eu_G E lo n nL Q σ (pc) lv (.int y :: .int x :: st) :=
  fun H locs ls hP hS hl => lv_irem C.1 C.2.1 hd hne (k H locs ls hP hS hl)
theorem eg_idiv {E : eu_E} {rm : Room} {lo n nL : Nat} {cc : ByteArray} {own : String} {ws : List Cond} {ret : Option FieldType} (C : eu_C E rm lo n nL cc own ws ret) {Q : State → Prop} {σ : eu_T} {pc : Nat} {lv : List (Nat × Value)} {st : List Value} {x y : Int32} (hd : decode cc pc = .ok (.idiv, 1)) (hne : ¬ y = 0) (k : eu_G E lo n nL Q σ (pc + 1) lv (.int (x / y) :: st)) : eu_G E lo n nL Q σ (pc) lv (.int y :: .int x :: st) :=
  fun H locs ls hP hS hl => lv_idiv C.1 C.2.1 hd hne (k H locs ls hP hS hl)
theorem eg_ineg {E : eu_E} {rm : Room} {lo n nL : Nat} {cc : ByteArray} {own : String} {ws : List Cond} {ret : Option FieldType} (C : eu_C E rm lo n nL cc own ws ret) {Q : State → Prop} {σ : eu_T} {pc : Nat} {lv : List (Nat × Value)} {st : List Value} {x : Int32} (hd : decode cc pc = .ok (.ineg, 1))  (k : eu_G E lo n nL Q σ (pc + 1) lv (.int (-x) :: st)) : eu_G E lo n nL Q σ (pc) lv (.int x :: st) :=
  fun H locs ls hP hS hl => lv_ineg C.1 C.2.1 hd (k H locs ls hP hS hl)
theorem eg_ladd {E : eu_E} {rm : Room} {lo n nL : Nat} {cc : ByteArray} {own : String} {ws : List Cond} {ret : Option FieldType} (C : eu_C E rm lo n nL cc own ws ret) {Q : State → Prop} {σ : eu_T} {pc : Nat} {lv : List (Nat × Value)} {st : List Value} {x y : Int64} (hd : decode cc pc = .ok (.ladd, 1))  (k : eu_G E lo n nL Q σ (pc + 1) lv (.long (x + y) :: st)) : eu_G E lo n nL Q σ (pc) lv (.long y :: .long x :: st) :=
  fun H locs ls hP hS hl => lv_ladd C.1 C.2.1 hd (k H locs ls hP hS hl)
theorem eg_lmul {E : eu_E} {rm : Room} {lo n nL : Nat} {cc : ByteArray} {own : String} {ws : List Cond} {ret : Option FieldType} (C : eu_C E rm lo n nL cc own ws ret) {Q : State → Prop} {σ : eu_T} {pc : Nat} {lv : List (Nat × Value)} {st : List Value} {x y : Int64} (hd : decode cc pc = .ok (.lmul, 1))  (k : eu_G E lo n nL Q σ (pc + 1) lv (.long (x * y) :: st)) : eu_G E lo n nL Q σ (pc) lv (.long y :: .long x :: st) :=
  fun H locs ls hP hS hl => lv_lmul C.1 C.2.1 hd (k H locs ls hP hS hl)
theorem eg_lcmp {E : eu_E} {rm : Room} {lo n nL : Nat} {cc : ByteArray} {own : String} {ws : List Cond} {ret : Option FieldType} (C : eu_C E rm lo n nL cc own ws ret) {Q : State → Prop} {σ : eu_T} {pc : Nat} {lv : List (Nat × Value)} {st : List Value} {x y : Int64} (hd : decode cc pc = .ok (.lcmp, 1))  (k : eu_G E lo n nL Q σ (pc + 1) lv (.int (lg_cmp x y) :: st)) : eu_G E lo n nL Q σ (pc) lv (.long y :: .long x :: st) :=
  fun H locs ls hP hS hl => W.lcmp C.1 C.2.1 hd (k H locs ls hP hS hl)
theorem eg_i2l {E : eu_E} {rm : Room} {lo n nL : Nat} {cc : ByteArray} {own : String} {ws : List Cond} {ret : Option FieldType} (C : eu_C E rm lo n nL cc own ws ret) {Q : State → Prop} {σ : eu_T} {pc : Nat} {lv : List (Nat × Value)} {st : List Value} {x : Int32} (hd : decode cc pc = .ok (.i2l, 1))  (k : eu_G E lo n nL Q σ (pc + 1) lv (.long x.toInt64 :: st)) : eu_G E lo n nL Q σ (pc) lv (.int x :: st) :=
  fun H locs ls hP hS hl => lv_i2l C.1 C.2.1 hd rfl (k H locs ls hP hS hl)
theorem eg_i2b {E : eu_E} {rm : Room} {lo n nL : Nat} {cc : ByteArray} {own : String} {ws : List Cond} {ret : Option FieldType} (C : eu_C E rm lo n nL cc own ws ret) {Q : State → Prop} {σ : eu_T} {pc : Nat} {lv : List (Nat × Value)} {st : List Value} {x : Int32} (hd : decode cc pc = .ok (.i2b, 1))  (k : eu_G E lo n nL Q σ (pc + 1) lv (.int x.toInt8.toInt32 :: st)) : eu_G E lo n nL Q σ (pc) lv (.int x :: st) :=
  fun H locs ls hP hS hl => lv_i2b C.1 C.2.1 hd rfl (k H locs ls hP hS hl)
theorem eg_i2s {E : eu_E} {rm : Room} {lo n nL : Nat} {cc : ByteArray} {own : String} {ws : List Cond} {ret : Option FieldType} (C : eu_C E rm lo n nL cc own ws ret) {Q : State → Prop} {σ : eu_T} {pc : Nat} {lv : List (Nat × Value)} {st : List Value} {x : Int32} (hd : decode cc pc = .ok (.i2s, 1))  (k : eu_G E lo n nL Q σ (pc + 1) lv (.int x.toInt16.toInt32 :: st)) : eu_G E lo n nL Q σ (pc) lv (.int x :: st) :=
  fun H locs ls hP hS hl => lv_i2s C.1 C.2.1 hd rfl (k H locs ls hP hS hl)
theorem eg_iconst {E : eu_E} {rm : Room} {lo n nL : Nat} {cc : ByteArray} {own : String} {ws : List Cond} {ret : Option FieldType} (C : eu_C E rm lo n nL cc own ws ret) {Q : State → Prop} {σ : eu_T} {pc : Nat} {lv : List (Nat × Value)} {st : List Value} {i : Int} (v : Int32) (hd : decode cc pc = .ok (.iconst i, 1)) (hv : Int32.ofInt i = v) (k : eu_G E lo n nL Q σ (pc + 1) lv (.int v :: st)) : eu_G E lo n nL Q σ (pc) lv (st) :=
  fun H locs ls hP hS hl => lv_iconst C.1 C.2.1 hd hv (k H locs ls hP hS hl)
theorem eg_bipush {E : eu_E} {rm : Room} {lo n nL : Nat} {cc : ByteArray} {own : String} {ws : List Cond} {ret : Option FieldType} (C : eu_C E rm lo n nL cc own ws ret) {Q : State → Prop} {σ : eu_T} {pc : Nat} {lv : List (Nat × Value)} {st : List Value} {i : Int} (v : Int32) (hd : decode cc pc = .ok (.bipush i, 2)) (hv : (Int8.ofInt i).toInt32 = v) (k : eu_G E lo n nL Q σ (pc + 2) lv (.int v :: st)) : eu_G E lo n nL Q σ (pc) lv (st) :=
  fun H locs ls hP hS hl => lv_bipush C.1 C.2.1 hd hv (k H locs ls hP hS hl)
theorem eg_sipush {E : eu_E} {rm : Room} {lo n nL : Nat} {cc : ByteArray} {own : String} {ws : List Cond} {ret : Option FieldType} (C : eu_C E rm lo n nL cc own ws ret) {Q : State → Prop} {σ : eu_T} {pc : Nat} {lv : List (Nat × Value)} {st : List Value} {i : Int} (v : Int32) (hd : decode cc pc = .ok (.sipush i, 3)) (hv : (Int16.ofInt i).toInt32 = v) (k : eu_G E lo n nL Q σ (pc + 3) lv (.int v :: st)) : eu_G E lo n nL Q σ (pc) lv (st) :=
  fun H locs ls hP hS hl => lv_sipush C.1 C.2.1 hd hv (k H locs ls hP hS hl)
theorem eg_lconst {E : eu_E} {rm : Room} {lo n nL : Nat} {cc : ByteArray} {own : String} {ws : List Cond} {ret : Option FieldType} (C : eu_C E rm lo n nL cc own ws ret) {Q : State → Prop} {σ : eu_T} {pc : Nat} {lv : List (Nat × Value)} {st : List Value} {i : Fin 2} (v : Int64) (hd : decode cc pc = .ok (.lconst i, 1)) (hv : Int64.ofNat (i : Nat) = v) (k : eu_G E lo n nL Q σ (pc + 1) lv (.long v :: st)) : eu_G E lo n nL Q σ (pc) lv (st) :=
  fun H locs ls hP hS hl => lv_lconst C.1 C.2.1 hd hv (k H locs ls hP hS hl)
theorem eg_ldc {E : eu_E} {rm : Room} {lo n nL : Nat} {cc : ByteArray} {own : String} {ws : List Cond} {ret : Option FieldType} (C : eu_C E rm lo n nL cc own ws ret) {Q : State → Prop} {σ : eu_T} {pc : Nat} {lv : List (Nat × Value)} {st : List Value} {i : Nat} (v : Int32) (hd : decode cc pc = .ok (.ldc i, 2)) (hw : Cond.constant own i v ∈ ws) (k : eu_G E lo n nL Q σ (pc + 2) lv (.int v :: st)) : eu_G E lo n nL Q σ (pc) lv (st) :=
  fun H locs ls hP hS hl => lv_ldc C.1 C.2.1 C.2.2.2.1 (C.2.2.2.2.1 _ hw) hd (k H locs ls hP hS hl)
theorem eg_ldc2 {E : eu_E} {rm : Room} {lo n nL : Nat} {cc : ByteArray} {own : String} {ws : List Cond} {ret : Option FieldType} (C : eu_C E rm lo n nL cc own ws ret) {Q : State → Prop} {σ : eu_T} {pc : Nat} {lv : List (Nat × Value)} {st : List Value} {i : Nat} (v : Int64) (hd : decode cc pc = .ok (.ldc2_w i, 3)) (hw : Cond.constantLong own i v ∈ ws) (k : eu_G E lo n nL Q σ (pc + 3) lv (.long v :: st)) : eu_G E lo n nL Q σ (pc) lv (st) :=
  fun H locs ls hP hS hl => lv_ldc2 C.1 C.2.1 C.2.2.2.1 (C.2.2.2.2.1 _ hw) hd (k H locs ls hP hS hl)
theorem eg_iload_n {E : eu_E} {rm : Room} {lo n nL : Nat} {cc : ByteArray} {own : String} {ws : List Cond} {ret : Option FieldType} (C : eu_C E rm lo n nL cc own ws ret) {Q : State → Prop} {σ : eu_T} {pc : Nat} {lv : List (Nat × Value)} {st : List Value} {k : Fin 4} {x : Int32} (j : Nat) (hd : decode cc pc = .ok (.iload_n k, 1)) (hk : lv[j]? = some ((k : Nat), .int x)) (kk : eu_G E lo n nL Q σ (pc + 1) lv (.int x :: st)) : eu_G E lo n nL Q σ (pc) lv (st) :=
  fun H locs ls hP hS hl => lv_iload_n C.1 C.2.1 hd rfl (lv_at hl j hk) (kk H locs ls hP hS hl)
theorem eg_iload {E : eu_E} {rm : Room} {lo n nL : Nat} {cc : ByteArray} {own : String} {ws : List Cond} {ret : Option FieldType} (C : eu_C E rm lo n nL cc own ws ret) {Q : State → Prop} {σ : eu_T} {pc : Nat} {lv : List (Nat × Value)} {st : List Value} {i : Nat} {x : Int32} (j : Nat) (hd : decode cc pc = .ok (.iload i, 2)) (hk : lv[j]? = some (i, .int x)) (k : eu_G E lo n nL Q σ (pc + 2) lv (.int x :: st)) : eu_G E lo n nL Q σ (pc) lv (st) :=
  fun H locs ls hP hS hl => lv_iload C.1 C.2.1 hd (lv_at hl j hk) (k H locs ls hP hS hl)
theorem eg_istore_n {E : eu_E} {rm : Room} {lo n nL : Nat} {cc : ByteArray} {own : String} {ws : List Cond} {ret : Option FieldType} (C : eu_C E rm lo n nL cc own ws ret) {Q : State → Prop} {σ : eu_T} {pc : Nat} {lv : List (Nat × Value)} {st : List Value} {k : Fin 4} {i : Nat} {x : Int32} (lv' : List (Nat × Value)) (hd : decode cc pc = .ok (.istore_n k, 1)) (hi : (k : Nat) = i) (hn : i < nL) (hl' : (i, Value.int x) :: lv.filter (fun q => !(q.1 == i) && !(q.1 + 1 == i && q.2.category == 2)) = lv') (kk : eu_G E lo n nL Q σ (pc + 1) lv' (st)) : eu_G E lo n nL Q σ (pc) lv (.int x :: st) :=
  fun H locs ls hP hS hl => lv_istore_n C.1 C.2.1 hd hi hl hn hl' (fun ls2 hl2 => kk H locs ls2 hP hS hl2)
theorem eg_istore {E : eu_E} {rm : Room} {lo n nL : Nat} {cc : ByteArray} {own : String} {ws : List Cond} {ret : Option FieldType} (C : eu_C E rm lo n nL cc own ws ret) {Q : State → Prop} {σ : eu_T} {pc : Nat} {lv : List (Nat × Value)} {st : List Value} {i : Nat} {x : Int32} (lv' : List (Nat × Value)) (hd : decode cc pc = .ok (.istore i, 2)) (hn : i < nL) (hl' : (i, Value.int x) :: lv.filter (fun q => !(q.1 == i) && !(q.1 + 1 == i && q.2.category == 2)) = lv') (k : eu_G E lo n nL Q σ (pc + 2) lv' (st)) : eu_G E lo n nL Q σ (pc) lv (.int x :: st) :=
  fun H locs ls hP hS hl => lv_istore C.1 C.2.1 hd hl hn hl' (fun ls2 hl2 => k H locs ls2 hP hS hl2)
theorem eg_lload_n {E : eu_E} {rm : Room} {lo n nL : Nat} {cc : ByteArray} {own : String} {ws : List Cond} {ret : Option FieldType} (C : eu_C E rm lo n nL cc own ws ret) {Q : State → Prop} {σ : eu_T} {pc : Nat} {lv : List (Nat × Value)} {st : List Value} {k : Fin 4} {x : Int64} (j : Nat) (hd : decode cc pc = .ok (.lload_n k, 1)) (hk : lv[j]? = some ((k : Nat), .long x)) (kk : eu_G E lo n nL Q σ (pc + 1) lv (.long x :: st)) : eu_G E lo n nL Q σ (pc) lv (st) :=
  fun H locs ls hP hS hl => lv_lload_n C.1 C.2.1 hd rfl (lv_at hl j hk) (kk H locs ls hP hS hl)
theorem eg_lload {E : eu_E} {rm : Room} {lo n nL : Nat} {cc : ByteArray} {own : String} {ws : List Cond} {ret : Option FieldType} (C : eu_C E rm lo n nL cc own ws ret) {Q : State → Prop} {σ : eu_T} {pc : Nat} {lv : List (Nat × Value)} {st : List Value} {i : Nat} {x : Int64} (j : Nat) (hd : decode cc pc = .ok (.lload i, 2)) (hk : lv[j]? = some (i, .long x)) (k : eu_G E lo n nL Q σ (pc + 2) lv (.long x :: st)) : eu_G E lo n nL Q σ (pc) lv (st) :=
  fun H locs ls hP hS hl => lv_lload C.1 C.2.1 hd (lv_at hl j hk) (k H locs ls hP hS hl)
theorem eg_lstore_n {E : eu_E} {rm : Room} {lo n nL : Nat} {cc : ByteArray} {own : String} {ws : List Cond} {ret : Option FieldType} (C : eu_C E rm lo n nL cc own ws ret) {Q : State → Prop} {σ : eu_T} {pc : Nat} {lv : List (Nat × Value)} {st : List Value} {k : Fin 4} {i : Nat} {x : Int64} (lv' : List (Nat × Value)) (hd : decode cc pc = .ok (.lstore_n k, 1)) (hi : (k : Nat) = i) (hn : i + 1 < nL) (hl' : (i, Value.long x) :: lv.filter (fun q => !(q.1 == i) && (!(q.1 == i + 1) && !(q.1 + 1 == i && q.2.category == 2))) = lv') (kk : eu_G E lo n nL Q σ (pc + 1) lv' (st)) : eu_G E lo n nL Q σ (pc) lv (.long x :: st) :=
  fun H locs ls hP hS hl => lv_lstore_n C.1 C.2.1 hd hi hl hn hl' (fun ls2 hl2 => kk H locs ls2 hP hS hl2)
theorem eg_lstore {E : eu_E} {rm : Room} {lo n nL : Nat} {cc : ByteArray} {own : String} {ws : List Cond} {ret : Option FieldType} (C : eu_C E rm lo n nL cc own ws ret) {Q : State → Prop} {σ : eu_T} {pc : Nat} {lv : List (Nat × Value)} {st : List Value} {i : Nat} {x : Int64} (lv' : List (Nat × Value)) (hd : decode cc pc = .ok (.lstore i, 2)) (hn : i + 1 < nL) (hl' : (i, Value.long x) :: lv.filter (fun q => !(q.1 == i) && (!(q.1 == i + 1) && !(q.1 + 1 == i && q.2.category == 2))) = lv') (k : eu_G E lo n nL Q σ (pc + 2) lv' (st)) : eu_G E lo n nL Q σ (pc) lv (.long x :: st) :=
  fun H locs ls hP hS hl => lv_lstore C.1 C.2.1 hd hl hn hl' (fun ls2 hl2 => k H locs ls2 hP hS hl2)
theorem eg_aload_n {E : eu_E} {rm : Room} {lo n nL : Nat} {cc : ByteArray} {own : String} {ws : List Cond} {ret : Option FieldType} (C : eu_C E rm lo n nL cc own ws ret) {Q : State → Prop} {σ : eu_T} {pc : Nat} {lv : List (Nat × Value)} {st : List Value} {k : Fin 4} {x : Nat} (j : Nat) (hd : decode cc pc = .ok (.aload_n k, 1)) (hk : lv[j]? = some ((k : Nat), .ref x)) (kk : eu_G E lo n nL Q σ (pc + 1) lv (.ref x :: st)) : eu_G E lo n nL Q σ (pc) lv (st) :=
  fun H locs ls hP hS hl => lv_aload_n C.1 C.2.1 hd rfl (lv_at hl j hk) (kk H locs ls hP hS hl)
theorem eg_aload {E : eu_E} {rm : Room} {lo n nL : Nat} {cc : ByteArray} {own : String} {ws : List Cond} {ret : Option FieldType} (C : eu_C E rm lo n nL cc own ws ret) {Q : State → Prop} {σ : eu_T} {pc : Nat} {lv : List (Nat × Value)} {st : List Value} {i : Nat} {x : Nat} (j : Nat) (hd : decode cc pc = .ok (.aload i, 2)) (hk : lv[j]? = some (i, .ref x)) (k : eu_G E lo n nL Q σ (pc + 2) lv (.ref x :: st)) : eu_G E lo n nL Q σ (pc) lv (st) :=
  fun H locs ls hP hS hl => lv_aload C.1 C.2.1 hd (lv_at hl j hk) (k H locs ls hP hS hl)
theorem eg_astore_n {E : eu_E} {rm : Room} {lo n nL : Nat} {cc : ByteArray} {own : String} {ws : List Cond} {ret : Option FieldType} (C : eu_C E rm lo n nL cc own ws ret) {Q : State → Prop} {σ : eu_T} {pc : Nat} {lv : List (Nat × Value)} {st : List Value} {k : Fin 4} {i : Nat} {x : Nat} (lv' : List (Nat × Value)) (hd : decode cc pc = .ok (.astore_n k, 1)) (hi : (k : Nat) = i) (hn : i < nL) (hl' : (i, Value.ref x) :: lv.filter (fun q => !(q.1 == i) && !(q.1 + 1 == i && q.2.category == 2)) = lv') (kk : eu_G E lo n nL Q σ (pc + 1) lv' (st)) : eu_G E lo n nL Q σ (pc) lv (.ref x :: st) :=
  fun H locs ls hP hS hl => lv_astore_n C.1 C.2.1 hd hi hl hn hl' (fun ls2 hl2 => kk H locs ls2 hP hS hl2)
theorem eg_astore {E : eu_E} {rm : Room} {lo n nL : Nat} {cc : ByteArray} {own : String} {ws : List Cond} {ret : Option FieldType} (C : eu_C E rm lo n nL cc own ws ret) {Q : State → Prop} {σ : eu_T} {pc : Nat} {lv : List (Nat × Value)} {st : List Value} {i : Nat} {x : Nat} (lv' : List (Nat × Value)) (hd : decode cc pc = .ok (.astore i, 2)) (hn : i < nL) (hl' : (i, Value.ref x) :: lv.filter (fun q => !(q.1 == i) && !(q.1 + 1 == i && q.2.category == 2)) = lv') (k : eu_G E lo n nL Q σ (pc + 2) lv' (st)) : eu_G E lo n nL Q σ (pc) lv (.ref x :: st) :=
  fun H locs ls hP hS hl => lv_astore C.1 C.2.1 hd hl hn hl' (fun ls2 hl2 => k H locs ls2 hP hS hl2)
theorem eg_iinc {E : eu_E} {rm : Room} {lo n nL : Nat} {cc : ByteArray} {own : String} {ws : List Cond} {ret : Option FieldType} (C : eu_C E rm lo n nL cc own ws ret) {Q : State → Prop} {σ : eu_T} {pc : Nat} {lv : List (Nat × Value)} {st : List Value} {i : Nat} {a : Int} {x : Int32} (j : Nat) (v : Int32) (lv' : List (Nat × Value)) (hd : decode cc pc = .ok (.iinc i a, 3)) (hk : lv[j]? = some (i, .int x)) (hv : x + Int32.ofInt a = v) (hn : i < nL) (hl' : (i, Value.int v) :: lv.filter (fun q => !(q.1 == i) && !(q.1 + 1 == i && q.2.category == 2)) = lv') (k : eu_G E lo n nL Q σ (pc + 3) lv' (st)) : eu_G E lo n nL Q σ (pc) lv (st) :=
  fun H locs ls hP hS hl => lv_iinc C.1 C.2.1 hd hl hk hv hn hl' (fun ls2 hl2 => k H locs ls2 hP hS hl2)
theorem eg_dup {E : eu_E} {rm : Room} {lo n nL : Nat} {cc : ByteArray} {own : String} {ws : List Cond} {ret : Option FieldType} (C : eu_C E rm lo n nL cc own ws ret) {Q : State → Prop} {σ : eu_T} {pc : Nat} {lv : List (Nat × Value)} {st : List Value} {v : Value} (hd : decode cc pc = .ok (.dup, 1)) (hv : v.category = 1) (k : eu_G E lo n nL Q σ (pc + 1) lv (v :: v :: st)) : eu_G E lo n nL Q σ (pc) lv (v :: st) :=
  fun H locs ls hP hS hl => lv_dup C.1 C.2.1 hd hv (k H locs ls hP hS hl)
theorem eg_dup2 {E : eu_E} {rm : Room} {lo n nL : Nat} {cc : ByteArray} {own : String} {ws : List Cond} {ret : Option FieldType} (C : eu_C E rm lo n nL cc own ws ret) {Q : State → Prop} {σ : eu_T} {pc : Nat} {lv : List (Nat × Value)} {st : List Value} {v w : Value} (hd : decode cc pc = .ok (.dup2, 1)) (hv : v.category = 1) (hw : w.category = 1) (k : eu_G E lo n nL Q σ (pc + 1) lv (v :: w :: v :: w :: st)) : eu_G E lo n nL Q σ (pc) lv (v :: w :: st) :=
  fun H locs ls hP hS hl => lv_dup2_11 C.1 C.2.1 hd hv hw (k H locs ls hP hS hl)
theorem eg_pop {E : eu_E} {rm : Room} {lo n nL : Nat} {cc : ByteArray} {own : String} {ws : List Cond} {ret : Option FieldType} (C : eu_C E rm lo n nL cc own ws ret) {Q : State → Prop} {σ : eu_T} {pc : Nat} {lv : List (Nat × Value)} {st : List Value} {v : Value} (hd : decode cc pc = .ok (.pop, 1)) (hv : v.category = 1) (k : eu_G E lo n nL Q σ (pc + 1) lv (st)) : eu_G E lo n nL Q σ (pc) lv (v :: st) :=
  fun H locs ls hP hS hl => lv_pop C.1 C.2.1 hd hv (k H locs ls hP hS hl)
theorem eg_goto {E : eu_E} {rm : Room} {lo n nL : Nat} {cc : ByteArray} {own : String} {ws : List Cond} {ret : Option FieldType} (C : eu_C E rm lo n nL cc own ws ret) {Q : State → Prop} {σ : eu_T} {pc : Nat} {lv : List (Nat × Value)} {st : List Value} {off : Int} (tgt : Nat) (hd : decode cc pc = .ok (.goto off, 3)) (ht : (pc : Int) + off = (tgt : Int)) (k : eu_G E lo n nL Q σ (tgt) lv (st)) : eu_G E lo n nL Q σ (pc) lv (st) :=
  fun H locs ls hP hS hl => lv_goto C.1 C.2.1 hd ht (k H locs ls hP hS hl)
theorem eg_if_eq {E : eu_E} {rm : Room} {lo n nL : Nat} {cc : ByteArray} {own : String} {ws : List Cond} {ret : Option FieldType} (C : eu_C E rm lo n nL cc own ws ret) {Q : State → Prop} {σ : eu_T} {pc : Nat} {lv : List (Nat × Value)} {st : List Value} {x : Int32} {off : Int} (tgt : Nat) (hd : decode cc pc = .ok (.ifCond .eq off, 3)) (ht : (pc : Int) + off = (tgt : Int)) (kt : x = 0 → eu_G E lo n nL Q σ (tgt) lv (st)) (kf : ¬ x = 0 → eu_G E lo n nL Q σ (pc + 3) lv (st)) : eu_G E lo n nL Q σ (pc) lv (.int x :: st) :=
  fun H locs ls hP hS hl => lv_if_eq C.1 C.2.1 hd ht (fun c => kt c H locs ls hP hS hl) (fun c => kf c H locs ls hP hS hl)
theorem eg_icmp_eq {E : eu_E} {rm : Room} {lo n nL : Nat} {cc : ByteArray} {own : String} {ws : List Cond} {ret : Option FieldType} (C : eu_C E rm lo n nL cc own ws ret) {Q : State → Prop} {σ : eu_T} {pc : Nat} {lv : List (Nat × Value)} {st : List Value} {x y : Int32} {off : Int} (tgt : Nat) (hd : decode cc pc = .ok (.if_icmp .eq off, 3)) (ht : (pc : Int) + off = (tgt : Int)) (kt : x = y → eu_G E lo n nL Q σ (tgt) lv (st)) (kf : ¬ x = y → eu_G E lo n nL Q σ (pc + 3) lv (st)) : eu_G E lo n nL Q σ (pc) lv (.int y :: .int x :: st) :=
  fun H locs ls hP hS hl => lv_icmp_eq C.1 C.2.1 hd ht (fun c => kt c H locs ls hP hS hl) (fun c => kf c H locs ls hP hS hl)
theorem eg_if_ne {E : eu_E} {rm : Room} {lo n nL : Nat} {cc : ByteArray} {own : String} {ws : List Cond} {ret : Option FieldType} (C : eu_C E rm lo n nL cc own ws ret) {Q : State → Prop} {σ : eu_T} {pc : Nat} {lv : List (Nat × Value)} {st : List Value} {x : Int32} {off : Int} (tgt : Nat) (hd : decode cc pc = .ok (.ifCond .ne off, 3)) (ht : (pc : Int) + off = (tgt : Int)) (kt : ¬ x = 0 → eu_G E lo n nL Q σ (tgt) lv (st)) (kf : x = 0 → eu_G E lo n nL Q σ (pc + 3) lv (st)) : eu_G E lo n nL Q σ (pc) lv (.int x :: st) :=
  fun H locs ls hP hS hl => lv_if_ne C.1 C.2.1 hd ht (fun c => kt c H locs ls hP hS hl) (fun c => kf c H locs ls hP hS hl)
theorem eg_icmp_ne {E : eu_E} {rm : Room} {lo n nL : Nat} {cc : ByteArray} {own : String} {ws : List Cond} {ret : Option FieldType} (C : eu_C E rm lo n nL cc own ws ret) {Q : State → Prop} {σ : eu_T} {pc : Nat} {lv : List (Nat × Value)} {st : List Value} {x y : Int32} {off : Int} (tgt : Nat) (hd : decode cc pc = .ok (.if_icmp .ne off, 3)) (ht : (pc : Int) + off = (tgt : Int)) (kt : ¬ x = y → eu_G E lo n nL Q σ (tgt) lv (st)) (kf : x = y → eu_G E lo n nL Q σ (pc + 3) lv (st)) : eu_G E lo n nL Q σ (pc) lv (.int y :: .int x :: st) :=
  fun H locs ls hP hS hl => lv_icmp_ne C.1 C.2.1 hd ht (fun c => kt c H locs ls hP hS hl) (fun c => kf c H locs ls hP hS hl)
theorem eg_if_lt {E : eu_E} {rm : Room} {lo n nL : Nat} {cc : ByteArray} {own : String} {ws : List Cond} {ret : Option FieldType} (C : eu_C E rm lo n nL cc own ws ret) {Q : State → Prop} {σ : eu_T} {pc : Nat} {lv : List (Nat × Value)} {st : List Value} {x : Int32} {off : Int} (tgt : Nat) (hd : decode cc pc = .ok (.ifCond .lt off, 3)) (ht : (pc : Int) + off = (tgt : Int)) (kt : x < 0 → eu_G E lo n nL Q σ (tgt) lv (st)) (kf : ¬ x < 0 → eu_G E lo n nL Q σ (pc + 3) lv (st)) : eu_G E lo n nL Q σ (pc) lv (.int x :: st) :=
  fun H locs ls hP hS hl => lv_if_lt C.1 C.2.1 hd ht (fun c => kt c H locs ls hP hS hl) (fun c => kf c H locs ls hP hS hl)
theorem eg_icmp_lt {E : eu_E} {rm : Room} {lo n nL : Nat} {cc : ByteArray} {own : String} {ws : List Cond} {ret : Option FieldType} (C : eu_C E rm lo n nL cc own ws ret) {Q : State → Prop} {σ : eu_T} {pc : Nat} {lv : List (Nat × Value)} {st : List Value} {x y : Int32} {off : Int} (tgt : Nat) (hd : decode cc pc = .ok (.if_icmp .lt off, 3)) (ht : (pc : Int) + off = (tgt : Int)) (kt : x < y → eu_G E lo n nL Q σ (tgt) lv (st)) (kf : ¬ x < y → eu_G E lo n nL Q σ (pc + 3) lv (st)) : eu_G E lo n nL Q σ (pc) lv (.int y :: .int x :: st) :=
  fun H locs ls hP hS hl => lv_icmp_lt C.1 C.2.1 hd ht (fun c => kt c H locs ls hP hS hl) (fun c => kf c H locs ls hP hS hl)
theorem eg_if_ge {E : eu_E} {rm : Room} {lo n nL : Nat} {cc : ByteArray} {own : String} {ws : List Cond} {ret : Option FieldType} (C : eu_C E rm lo n nL cc own ws ret) {Q : State → Prop} {σ : eu_T} {pc : Nat} {lv : List (Nat × Value)} {st : List Value} {x : Int32} {off : Int} (tgt : Nat) (hd : decode cc pc = .ok (.ifCond .ge off, 3)) (ht : (pc : Int) + off = (tgt : Int)) (kt : 0 ≤ x → eu_G E lo n nL Q σ (tgt) lv (st)) (kf : ¬ 0 ≤ x → eu_G E lo n nL Q σ (pc + 3) lv (st)) : eu_G E lo n nL Q σ (pc) lv (.int x :: st) :=
  fun H locs ls hP hS hl => lv_if_ge C.1 C.2.1 hd ht (fun c => kt c H locs ls hP hS hl) (fun c => kf c H locs ls hP hS hl)
theorem eg_icmp_ge {E : eu_E} {rm : Room} {lo n nL : Nat} {cc : ByteArray} {own : String} {ws : List Cond} {ret : Option FieldType} (C : eu_C E rm lo n nL cc own ws ret) {Q : State → Prop} {σ : eu_T} {pc : Nat} {lv : List (Nat × Value)} {st : List Value} {x y : Int32} {off : Int} (tgt : Nat) (hd : decode cc pc = .ok (.if_icmp .ge off, 3)) (ht : (pc : Int) + off = (tgt : Int)) (kt : y ≤ x → eu_G E lo n nL Q σ (tgt) lv (st)) (kf : ¬ y ≤ x → eu_G E lo n nL Q σ (pc + 3) lv (st)) : eu_G E lo n nL Q σ (pc) lv (.int y :: .int x :: st) :=
  fun H locs ls hP hS hl => lv_icmp_ge C.1 C.2.1 hd ht (fun c => kt c H locs ls hP hS hl) (fun c => kf c H locs ls hP hS hl)
theorem eg_if_gt {E : eu_E} {rm : Room} {lo n nL : Nat} {cc : ByteArray} {own : String} {ws : List Cond} {ret : Option FieldType} (C : eu_C E rm lo n nL cc own ws ret) {Q : State → Prop} {σ : eu_T} {pc : Nat} {lv : List (Nat × Value)} {st : List Value} {x : Int32} {off : Int} (tgt : Nat) (hd : decode cc pc = .ok (.ifCond .gt off, 3)) (ht : (pc : Int) + off = (tgt : Int)) (kt : 0 < x → eu_G E lo n nL Q σ (tgt) lv (st)) (kf : ¬ 0 < x → eu_G E lo n nL Q σ (pc + 3) lv (st)) : eu_G E lo n nL Q σ (pc) lv (.int x :: st) :=
  fun H locs ls hP hS hl => lv_if_gt C.1 C.2.1 hd ht (fun c => kt c H locs ls hP hS hl) (fun c => kf c H locs ls hP hS hl)
theorem eg_icmp_gt {E : eu_E} {rm : Room} {lo n nL : Nat} {cc : ByteArray} {own : String} {ws : List Cond} {ret : Option FieldType} (C : eu_C E rm lo n nL cc own ws ret) {Q : State → Prop} {σ : eu_T} {pc : Nat} {lv : List (Nat × Value)} {st : List Value} {x y : Int32} {off : Int} (tgt : Nat) (hd : decode cc pc = .ok (.if_icmp .gt off, 3)) (ht : (pc : Int) + off = (tgt : Int)) (kt : y < x → eu_G E lo n nL Q σ (tgt) lv (st)) (kf : ¬ y < x → eu_G E lo n nL Q σ (pc + 3) lv (st)) : eu_G E lo n nL Q σ (pc) lv (.int y :: .int x :: st) :=
  fun H locs ls hP hS hl => lv_icmp_gt C.1 C.2.1 hd ht (fun c => kt c H locs ls hP hS hl) (fun c => kf c H locs ls hP hS hl)
theorem eg_if_le {E : eu_E} {rm : Room} {lo n nL : Nat} {cc : ByteArray} {own : String} {ws : List Cond} {ret : Option FieldType} (C : eu_C E rm lo n nL cc own ws ret) {Q : State → Prop} {σ : eu_T} {pc : Nat} {lv : List (Nat × Value)} {st : List Value} {x : Int32} {off : Int} (tgt : Nat) (hd : decode cc pc = .ok (.ifCond .le off, 3)) (ht : (pc : Int) + off = (tgt : Int)) (kt : x ≤ 0 → eu_G E lo n nL Q σ (tgt) lv (st)) (kf : ¬ x ≤ 0 → eu_G E lo n nL Q σ (pc + 3) lv (st)) : eu_G E lo n nL Q σ (pc) lv (.int x :: st) :=
  fun H locs ls hP hS hl => lv_if_le C.1 C.2.1 hd ht (fun c => kt c H locs ls hP hS hl) (fun c => kf c H locs ls hP hS hl)
theorem eg_icmp_le {E : eu_E} {rm : Room} {lo n nL : Nat} {cc : ByteArray} {own : String} {ws : List Cond} {ret : Option FieldType} (C : eu_C E rm lo n nL cc own ws ret) {Q : State → Prop} {σ : eu_T} {pc : Nat} {lv : List (Nat × Value)} {st : List Value} {x y : Int32} {off : Int} (tgt : Nat) (hd : decode cc pc = .ok (.if_icmp .le off, 3)) (ht : (pc : Int) + off = (tgt : Int)) (kt : x ≤ y → eu_G E lo n nL Q σ (tgt) lv (st)) (kf : ¬ x ≤ y → eu_G E lo n nL Q σ (pc + 3) lv (st)) : eu_G E lo n nL Q σ (pc) lv (.int y :: .int x :: st) :=
  fun H locs ls hP hS hl => lv_icmp_le C.1 C.2.1 hd ht (fun c => kt c H locs ls hP hS hl) (fun c => kf c H locs ls hP hS hl)
theorem eg_tin {E : eu_E} {rm : Room} {lo n nL : Nat} {cc : ByteArray} {own : String} {ws : List Cond} {ret : Option FieldType} (C : eu_C E rm lo n nL cc own ws ret) {Q : State → Prop} {σ : eu_T} {pc : Nat} {lv : List (Nat × Value)} {st : List Value} {dflt lo' hi : Int} {offs : Array Int} {len : Nat} {x : Int32} {off : Int} (v : Int32) (tgt : Nat) (hd : decode cc pc = .ok (.tableswitch dflt lo' hi offs, len)) (hx : x = v) (h1 : ¬ v.toInt < lo') (h2 : ¬ hi < v.toInt) (ho : offs[(v.toInt - lo').toNat]? = some off) (ht : (pc : Int) + off = (tgt : Int)) (k : eu_G E lo n nL Q σ (tgt) lv (st)) : eu_G E lo n nL Q σ (pc) lv (.int x :: st) :=
  fun H locs ls hP hS hl => lv_tableIn C.1 C.2.1 hd (by rw [hx]; exact h1) (by rw [hx]; exact h2) (by rw [hx]; exact ho) ht (k H locs ls hP hS hl)
theorem eg_tout {E : eu_E} {rm : Room} {lo n nL : Nat} {cc : ByteArray} {own : String} {ws : List Cond} {ret : Option FieldType} (C : eu_C E rm lo n nL cc own ws ret) {Q : State → Prop} {σ : eu_T} {pc : Nat} {lv : List (Nat × Value)} {st : List Value} {dflt lo' hi : Int} {offs : Array Int} {len : Nat} {x : Int32} (tgt : Nat) (hd : decode cc pc = .ok (.tableswitch dflt lo' hi offs, len)) (hx : x.toInt < lo' ∨ hi < x.toInt) (ht : (pc : Int) + dflt = (tgt : Int)) (k : eu_G E lo n nL Q σ (tgt) lv (st)) : eu_G E lo n nL Q σ (pc) lv (.int x :: st) :=
  fun H locs ls hP hS hl => lv_tableOut C.1 C.2.1 hd hx ht (k H locs ls hP hS hl)
theorem eg_sub {E : eu_E} {rm : Room} {lo n nL : Nat} {cc : ByteArray} {own : String} {ws : List Cond} {ret : Option FieldType} (C : eu_C E rm lo n nL cc own ws ret) {Q : State → Prop} {σ : eu_T} {pc : Nat} {lv : List (Nat × Value)} {st : List Value} {lv' : List (Nat × Value)} (ks : List Nat) (h : lv_pick lv ks = lv') (k : eu_G E lo n nL Q σ (pc) lv' (st)) : eu_G E lo n nL Q σ (pc) lv (st) :=
  fun H locs ls hP hS hl => k H locs ls hP hS (lv_sub hl ks h)
theorem eu_nsw {x k : Int32} {a : Int} (h : ¬ x = k) (hk : k.toInt = a) : ¬ x.toInt = a := fun q => h (Int32.toInt_inj.mp (by rw [hk]; exact q))
theorem hnw : ∀ w ∈ eu_nl, w.onTables = true := by decide +kernel
theorem eg_get {E : eu_E} {rm : Room} {lo n nL : Nat} {cc : ByteArray} {own : String} {ws : List Cond} {ret : Option FieldType} (C : eu_C E rm lo n nL cc own ws ret) {Q : State → Prop} {σ : eu_T} {pc : Nat} {lv : List (Nat × Value)} {st : List Value} {ref Cn : String} {T : u_T} {N idx ci : Nat} (hin : ∀ w ∈ u_ws Cn T N, w ∈ ws) (j : Nat) (hj : j < N) (hlink : Cond.fieldLink own idx ref (T j).2.1 (T j).2.2.1 ∈ ws) (hsame : ref = (T j).1) (k : Nat) (hk : lo ≤ k ∧ k < lo + n) {fs : List Value} (he : eu_we (eu_cy E) (eu_ad E) (σ k) k = .inr (ci, fs)) (hc : vwCl[ci]? = some (Cn, T, N)) {v : Value} (hv : fs[j]? = some v) (hd : decode cc pc = .ok (.getfield idx, 3)) (kk : eu_G E lo n nL Q σ (pc + 3) lv (v :: st)) : eu_G E lo n nL Q σ (pc) lv (.ref (eu_ad E k) :: st) :=
  fun H locs ls hP hS hl => va_get C.1 C.2.1 C.2.2.2.2.1 hin C.2.2.2.1 C.2.2.2.2.2.2.1 hP (k - lo) (by rw [eu_wd_get hk, he]) hc j hj (C.2.2.2.2.1 _ hlink) (fun x hx => by rw [hsame]; exact hx) hv hd (kk H locs ls hP hS hl)
theorem eg_put {E : eu_E} {rm : Room} {lo n nL : Nat} {cc : ByteArray} {own : String} {ws : List Cond} {ret : Option FieldType} (C : eu_C E rm lo n nL cc own ws ret) {Q : State → Prop} {σ : eu_T} {pc : Nat} {lv : List (Nat × Value)} {st : List Value} {ref Cn : String} {T : u_T} {N idx ci : Nat} (hin : ∀ w ∈ u_ws Cn T N, w ∈ ws) {ty0 : Nat → FieldType} (hty : ∀ k, k < N → parseFieldDescriptor (T k).2.2.1 = some (ty0 k)) (hnm : ∀ a, a < N → ∀ b, b < N → a ≠ b → (T a).2.1 ≠ (T b).2.1) (j : Nat) (hj : j < N) (hlink : Cond.fieldLink own idx ref (T j).2.1 (T j).2.2.1 ∈ ws) (hsame : ref = (T j).1) (k : Nat) (hk : lo ≤ k ∧ k < lo + n) {fs : List Value} (he : eu_we (eu_cy E) (eu_ad E) (σ k) k = .inr (ci, fs)) (hc : vwCl[ci]? = some (Cn, T, N)) {x : Int32} {ty : FieldType} (hfin : (T j).2.2.2 = false) (hdesc : parseFieldDescriptor (T j).2.2.1 = some ty) (hnar : narrow ty (.int x) = .int x) (hfit : fits ty (.int x) = true) (hlt : j < fs.length) (he' : eu_we (eu_cy E) (eu_ad E) (upd (σ k) j x) k = .inr (ci, fs.set j (.int x))) (hd : decode cc pc = .ok (.putfield idx, 3)) (kk : eu_G E lo n nL Q (eu_up σ k j x) (pc + 3) lv (st)) : eu_G E lo n nL Q σ (pc) lv (.int x :: .ref (eu_ad E k) :: st) :=
  fun H locs ls hP hS hl => va_put C.1 C.2.1 C.2.2.2.2.1 hin ty0 hty hnm C.2.2.2.1 C.2.2.2.2.2.2.1 hP (eu_wd_D σ C.2.2.2.2.2.2.2.2.1 C.2.2.2.2.2.2.2.2.2.2.1) hS (k - lo) (by rw [eu_wd_get hk, he]) hc j hj (C.2.2.2.2.1 _ hlink) (fun x hx => by rw [hsame]; exact hx) hfin hdesc hnar hfit hlt hd (fun H1 locs1 hP1 _ hS1 => kk H1 locs1 ls (by rw [eu_wd_set hk he'] at hP1; exact hP1) hS1 hl)
theorem eg_getN {E : eu_E} {rm : Room} {lo n nL : Nat} {cc : ByteArray} {own : String} {ws : List Cond} {ret : Option FieldType} (C : eu_C E rm lo n nL cc own ws ret) {Q : State → Prop} {σ : eu_T} {pc : Nat} {lv : List (Nat × Value)} {st : List Value} {ref Cn host : String} {T : u_T} {N idx ci : Nat} (hin : ∀ w ∈ u_ws Cn T N, w ∈ ws) (j : Nat) (hj : j < N) (hlink : Cond.fieldLinkNest own idx ref (T j).2.1 (T j).2.2.1 host ∈ eu_nl) (hsame : ref = (T j).1) (k : Nat) (hk : lo ≤ k ∧ k < lo + n) {fs : List Value} (he : eu_we (eu_cy E) (eu_ad E) (σ k) k = .inr (ci, fs)) (hc : vwCl[ci]? = some (Cn, T, N)) {v : Value} (hv : fs[j]? = some v) (hd : decode cc pc = .ok (.getfield idx, 3)) (kk : eu_G E lo n nL Q σ (pc + 3) lv (v :: st)) : eu_G E lo n nL Q σ (pc) lv (.ref (eu_ad E k) :: st) :=
  fun H locs ls hP hS hl => va_getN C.1 C.2.1 C.2.2.2.2.1 hin C.2.2.2.1 C.2.2.2.2.2.2.1 hP (k - lo) (by rw [eu_wd_get hk, he]) hc j hj (va_Nw.use (hnw _ hlink) (C.2.2.2.2.2.2.2.1 _ hlink)) (fun x hx => by rw [hsame]; exact hx) hv hd (kk H locs ls hP hS hl)
theorem eg_putN {E : eu_E} {rm : Room} {lo n nL : Nat} {cc : ByteArray} {own : String} {ws : List Cond} {ret : Option FieldType} (C : eu_C E rm lo n nL cc own ws ret) {Q : State → Prop} {σ : eu_T} {pc : Nat} {lv : List (Nat × Value)} {st : List Value} {ref Cn host : String} {T : u_T} {N idx ci : Nat} (hin : ∀ w ∈ u_ws Cn T N, w ∈ ws) {ty0 : Nat → FieldType} (hty : ∀ k, k < N → parseFieldDescriptor (T k).2.2.1 = some (ty0 k)) (hnm : ∀ a, a < N → ∀ b, b < N → a ≠ b → (T a).2.1 ≠ (T b).2.1) (j : Nat) (hj : j < N) (hlink : Cond.fieldLinkNest own idx ref (T j).2.1 (T j).2.2.1 host ∈ eu_nl) (hsame : ref = (T j).1) (k : Nat) (hk : lo ≤ k ∧ k < lo + n) {fs : List Value} (he : eu_we (eu_cy E) (eu_ad E) (σ k) k = .inr (ci, fs)) (hc : vwCl[ci]? = some (Cn, T, N)) {x : Int32} {ty : FieldType} (hfin : (T j).2.2.2 = false) (hdesc : parseFieldDescriptor (T j).2.2.1 = some ty) (hnar : narrow ty (.int x) = .int x) (hfit : fits ty (.int x) = true) (hlt : j < fs.length) (he' : eu_we (eu_cy E) (eu_ad E) (upd (σ k) j x) k = .inr (ci, fs.set j (.int x))) (hd : decode cc pc = .ok (.putfield idx, 3)) (kk : eu_G E lo n nL Q (eu_up σ k j x) (pc + 3) lv (st)) : eu_G E lo n nL Q σ (pc) lv (.int x :: .ref (eu_ad E k) :: st) :=
  fun H locs ls hP hS hl => va_putN C.1 C.2.1 C.2.2.2.2.1 hin ty0 hty hnm C.2.2.2.1 C.2.2.2.2.2.2.1 hP (eu_wd_D σ C.2.2.2.2.2.2.2.2.1 C.2.2.2.2.2.2.2.2.2.2.1) hS (k - lo) (by rw [eu_wd_get hk, he]) hc j hj (va_Nw.use (hnw _ hlink) (C.2.2.2.2.2.2.2.1 _ hlink)) (fun x hx => by rw [hsame]; exact hx) hfin hdesc hnar hfit hlt hd (fun H1 locs1 hP1 _ hS1 => kk H1 locs1 ls (by rw [eu_wd_set hk he'] at hP1; exact hP1) hS1 hl)
theorem eg_iald {E : eu_E} {rm : Room} {lo n nL : Nat} {cc : ByteArray} {own : String} {ws : List Cond} {ret : Option FieldType} (C : eu_C E rm lo n nL cc own ws ret) {Q : State → Prop} {σ : eu_T} {pc : Nat} {lv : List (Nat × Value)} {st : List Value} (k : Nat) (hk : lo ≤ k ∧ k < lo + n) {z : Nat} (he : ∀ f, eu_we (eu_cy E) (eu_ad E) f k = .inl (eu_cy E 0, z, .inl f)) {i : Int32} (hin : vp_in i z) (hd : decode cc pc = .ok (.iaload, 1)) (kk : eu_G E lo n nL Q σ (pc + 1) lv (.int (σ k i.toNatClampNeg) :: st)) : eu_G E lo n nL Q σ (pc) lv (.int i :: .ref (eu_ad E k) :: st) :=
  fun H locs ls hP hS hl => va_iald C.1 C.2.1 C.2.2.2.2.2.2.1 hP (k - lo) 0 (by rw [eu_wd_get hk, he]) rfl hin hd (kk H locs ls hP hS hl)
theorem eg_zald {E : eu_E} {rm : Room} {lo n nL : Nat} {cc : ByteArray} {own : String} {ws : List Cond} {ret : Option FieldType} (C : eu_C E rm lo n nL cc own ws ret) {Q : State → Prop} {σ : eu_T} {pc : Nat} {lv : List (Nat × Value)} {st : List Value} (k : Nat) (hk : lo ≤ k ∧ k < lo + n) {z : Nat} (he : ∀ f, eu_we (eu_cy E) (eu_ad E) f k = .inl (eu_cy E 1, z, .inl f)) {i : Int32} (hin : vp_in i z) (hd : decode cc pc = .ok (.baload, 1)) (kk : eu_G E lo n nL Q σ (pc + 1) lv (.int (σ k i.toNatClampNeg) :: st)) : eu_G E lo n nL Q σ (pc) lv (.int i :: .ref (eu_ad E k) :: st) :=
  fun H locs ls hP hS hl => va_zald C.1 C.2.1 C.2.2.2.2.2.2.1 hP (k - lo) 1 (by rw [eu_wd_get hk, he]) rfl hin hd (kk H locs ls hP hS hl)
theorem eg_aald {E : eu_E} {rm : Room} {lo n nL : Nat} {cc : ByteArray} {own : String} {ws : List Cond} {ret : Option FieldType} (C : eu_C E rm lo n nL cc own ws ret) {Q : State → Prop} {σ : eu_T} {pc : Nat} {lv : List (Nat × Value)} {st : List Value} {Cn : String} (t : Nat) (ht : (eu_ty (eu_cy E))[t]? = some (eu_cy E t, .object Cn)) (k : Nat) (hk : lo ≤ k ∧ k < lo + n) {z b : Nat} (he : ∀ f, eu_we (eu_cy E) (eu_ad E) f k = .inl (eu_cy E t, z, .inr (.inr (.inr (.inr (fun j => some (eu_ad E (b + j)))))))) {i : Int32} (hin : vp_in i z) (hd : decode cc pc = .ok (.aaload, 1)) (kk : eu_G E lo n nL Q σ (pc + 1) lv (.ref (eu_ad E (b + i.toNatClampNeg)) :: st)) : eu_G E lo n nL Q σ (pc) lv (.int i :: .ref (eu_ad E k) :: st) :=
  fun H locs ls hP hS hl => va_aldq (f := fun j => some (eu_ad E (b + j))) C.1 C.2.1 C.2.2.2.2.2.2.1 hP (k - lo) t (by rw [eu_wd_get hk, he]) ht hin hd (kk H locs ls hP hS hl)
theorem eg_aalA {E : eu_E} {rm : Room} {lo n nL : Nat} {cc : ByteArray} {own : String} {ws : List Cond} {ret : Option FieldType} (C : eu_C E rm lo n nL cc own ws ret) {Q : State → Prop} {σ : eu_T} {pc : Nat} {lv : List (Nat × Value)} {st : List Value} (k : Nat) (hk : lo ≤ k ∧ k < lo + n) {z b : Nat} (he : ∀ f, eu_we (eu_cy E) (eu_ad E) f k = .inl (eu_cy E 3, z, .inr (.inr (.inr (.inr (fun j => some (eu_ad E (b + j)))))))) {i : Int32} (hin : vp_in i z) (hd : decode cc pc = .ok (.aaload, 1)) (kk : eu_G E lo n nL Q σ (pc + 1) lv (.ref (eu_ad E (b + i.toNatClampNeg)) :: st)) : eu_G E lo n nL Q σ (pc) lv (.int i :: .ref (eu_ad E k) :: st) := by
  intro H locs ls hP hS hl
  have hlt : i.toNatClampNeg < z := Nat.not_le.mp fun q => hin (Or.inr q)
  have hcell := hP (k - lo) _ (by rw [eu_wd_get hk, he])
  exact W.aald (v := .ref (eu_ad E (b + i.toNatClampNeg))) (ty := .array .int) C.1 C.2.1 hcell ((C.2.2.2.2.2.2.1.2 3 _ rfl).1 z (fun j => va_rf (some (eu_ad E (b + j))))) rfl (fun q => by cases q) (by show ¬ (i < 0 ∨ (arrV _ _ _).slots.size ≤ _); rw [arrV_size]; exact hin) (by show (arrV _ _ _).slots[_]? = _; rw [arrV_read _ _ hlt]; rfl) rfl rfl hd (kk H locs ls hP hS hl)
theorem eg_iast {E : eu_E} {rm : Room} {lo n nL : Nat} {cc : ByteArray} {own : String} {ws : List Cond} {ret : Option FieldType} (C : eu_C E rm lo n nL cc own ws ret) {Q : State → Prop} {σ : eu_T} {pc : Nat} {lv : List (Nat × Value)} {st : List Value} (k : Nat) (hk : lo ≤ k ∧ k < lo + n) {z : Nat} (he : ∀ f, eu_we (eu_cy E) (eu_ad E) f k = .inl (eu_cy E 0, z, .inl f)) {i x : Int32} (hin : vp_in i z) (hd : decode cc pc = .ok (.iastore, 1)) (kk : eu_G E lo n nL Q (eu_up σ k i.toNatClampNeg x) (pc + 1) lv (st)) : eu_G E lo n nL Q σ (pc) lv (.int x :: .int i :: .ref (eu_ad E k) :: st) :=
  fun H locs ls hP hS hl => va_iast C.1 C.2.1 C.2.2.2.2.2.2.1 hP (eu_wd_D σ C.2.2.2.2.2.2.2.2.1 C.2.2.2.2.2.2.2.2.2.2.1) hS (k - lo) 0 (by rw [eu_wd_get hk, he]) rfl hin hd (fun H1 locs1 hP1 _ hS1 => kk H1 locs1 ls (by rw [eu_wd_set hk (he _)] at hP1; exact hP1) hS1 hl)
theorem eg_zast {E : eu_E} {rm : Room} {lo n nL : Nat} {cc : ByteArray} {own : String} {ws : List Cond} {ret : Option FieldType} (C : eu_C E rm lo n nL cc own ws ret) {Q : State → Prop} {σ : eu_T} {pc : Nat} {lv : List (Nat × Value)} {st : List Value} (k : Nat) (hk : lo ≤ k ∧ k < lo + n) {z : Nat} (he : ∀ f, eu_we (eu_cy E) (eu_ad E) f k = .inl (eu_cy E 1, z, .inl f)) {i x : Int32} (hz : x = 0 ∨ x = 1) (hin : vp_in i z) (hd : decode cc pc = .ok (.bastore, 1)) (kk : eu_G E lo n nL Q (eu_up σ k i.toNatClampNeg x) (pc + 1) lv (st)) : eu_G E lo n nL Q σ (pc) lv (.int x :: .int i :: .ref (eu_ad E k) :: st) :=
  fun H locs ls hP hS hl => va_zast C.1 C.2.1 C.2.2.2.2.2.2.1 hP (eu_wd_D σ C.2.2.2.2.2.2.2.2.1 C.2.2.2.2.2.2.2.2.2.2.1) hS (k - lo) 1 (by rw [eu_wd_get hk, he]) rfl hin hd (fun H1 locs1 hP1 _ hS1 => kk H1 locs1 ls (by rw [show vp_nar .boolean x = x by rcases hz with e | e <;> subst e <;> rfl, eu_wd_set hk (he _)] at hP1; exact hP1) hS1 hl)
theorem eg_copy {E : eu_E} {rm : Room} {lo n nL : Nat} {cc : ByteArray} {own : String} {ws : List Cond} {ret : Option FieldType} (C : eu_C E rm lo n nL cc own ws ret) {Q : State → Prop} {σ : eu_T} {pc : Nat} {lv : List (Nat × Value)} {st : List Value} (k1 k2 : Nat) (hk1 : lo ≤ k1 ∧ k1 < lo + n) (hk2 : lo ≤ k2 ∧ k2 < lo + n) {z1 z2 : Nat} (he1 : ∀ f, eu_we (eu_cy E) (eu_ad E) f k1 = .inl (eu_cy E 0, z1, .inl f)) (he2 : ∀ f, eu_we (eu_cy E) (eu_ad E) f k2 = .inl (eu_cy E 0, z2, .inl f)) {idx : Nat} (hlink : Cond.methodLink own idx arraycopyName ∈ ws) (hnat : Cond.native arraycopyName ∈ ws) (hstat : Cond.static arraycopyName ∈ ws) (hini : Cond.initialized "java/lang/System" ∈ ws) {sp dp a : Int32} (h1 : ¬ sp < 0) (h2 : ¬ dp < 0) (h3 : ¬ a < 0) (h4 : sp.toNatClampNeg + a.toNatClampNeg ≤ z1) (h5 : dp.toNatClampNeg + a.toNatClampNeg ≤ z2) (hfr : 1 ≤ rm.frames) (hlo : (st.map fun v => v.category).sum + (nativeFrameWords "java/lang/System" "arraycopy" 5 + 11) ≤ rm.locals) (hd : decode cc pc = .ok (.invokestatic idx, 3)) (kk : eu_G E lo n nL Q (eu_sk σ k2 (va_cpy (σ k1) (σ k2) sp.toNatClampNeg dp.toNatClampNeg a.toNatClampNeg)) (pc + 3) lv (st)) : eu_G E lo n nL Q σ (pc) lv (.int a :: .int dp :: .ref (eu_ad E k2) :: .int sp :: .ref (eu_ad E k1) :: st) :=
  fun H locs ls hP hS hl => va_copyi C.1 C.2.1 (C.2.2.1.trans hl.1.symm) C.2.2.2.1 (C.2.2.2.2.1 _ hlink) (C.2.2.2.2.1 _ hnat) (C.2.2.2.2.1 _ hstat) (C.2.2.2.2.1 _ hini) C.2.2.2.2.2.2.1 hP (eu_wd_D σ C.2.2.2.2.2.2.2.2.1 C.2.2.2.2.2.2.2.2.2.2.1) hS (k1 - lo) (k2 - lo) 0 0 (by rw [eu_wd_get hk1, he1]) (by rw [eu_wd_get hk2, he2]) rfl rfl rfl h1 h2 h3 h4 h5 (fun i hi => rfl) (by rw [C.2.2.2.2.2.2.2.2.2.1]; exact hfr) (by rw [C.2.2.2.2.2.2.2.2.2.1]; exact hlo) hd (fun H1 locs1 hP1 _ hS1 => kk H1 locs1 ls (by rw [eu_wd_set hk2 (he2 _)] at hP1; exact hP1) hS1 hl)
theorem eg_iret {E : eu_E} {rm : Room} {lo n nL : Nat} {cc : ByteArray} {own : String} {ws : List Cond} {ret : Option FieldType} (C : eu_C E rm lo n nL cc own ws ret) {σ : eu_T} {pc : Nat} {lv : List (Nat × Value)} {st : List Value} (hr : ret = some .int) {v : Int32} (hd : decode cc pc = .ok (.ireturn, 1)) : eu_G E lo n nL (eu_QI E lo n σ v) σ pc lv [.int v] :=
  fun H locs ls hP hS hl => W.iret C.1 C.2.1 (C.2.2.2.2.2.2.2.2.2.2.2.trans hr) (fun t ht hW => ⟨⟨v, (), rfl, rfl, by show va_P _ _ _ t.heap; rw [ht]; exact hP⟩, hS.F ht⟩) hS.2.2 hd C.2.2.2.2.2.1
theorem eg_zret {E : eu_E} {rm : Room} {lo n nL : Nat} {cc : ByteArray} {own : String} {ws : List Cond} {ret : Option FieldType} (C : eu_C E rm lo n nL cc own ws ret) {σ : eu_T} {pc : Nat} {lv : List (Nat × Value)} {st : List Value} (hr : ret = some .boolean) {v : Int32} (hz : v = 0 ∨ v = 1) (hd : decode cc pc = .ok (.ireturn, 1)) : eu_G E lo n nL (eu_QI E lo n σ v) σ pc lv [.int v] :=
  fun H locs ls hP hS hl => W.zret C.1 C.2.1 (C.2.2.2.2.2.2.2.2.2.2.2.trans hr) (by rcases hz with e | e <;> subst e <;> rfl) (fun t ht hW => ⟨⟨v, (), rfl, rfl, by show va_P _ _ _ t.heap; rw [ht]; exact hP⟩, hS.F ht⟩) hS.2.2 hd C.2.2.2.2.2.1
theorem eg_lret {E : eu_E} {rm : Room} {lo n nL : Nat} {cc : ByteArray} {own : String} {ws : List Cond} {ret : Option FieldType} (C : eu_C E rm lo n nL cc own ws ret) {σ : eu_T} {pc : Nat} {lv : List (Nat × Value)} {st : List Value} (hr : ret = some .long) {v : Int64} (hd : decode cc pc = .ok (.lreturn, 1)) : eu_G E lo n nL (eu_QL E lo n σ v) σ pc lv [.long v] :=
  fun H locs ls hP hS hl => W.lret C.1 C.2.1 (C.2.2.2.2.2.2.2.2.2.2.2.trans hr) (fun t ht hW => ⟨⟨v, (), rfl, rfl, by show va_P _ _ _ t.heap; rw [ht]; exact hP⟩, hS.F ht⟩) hS.2.2 hd C.2.2.2.2.2.1
theorem eg_vret {E : eu_E} {rm : Room} {lo n nL : Nat} {cc : ByteArray} {own : String} {ws : List Cond} {ret : Option FieldType} (C : eu_C E rm lo n nL cc own ws ret) {σ : eu_T} {pc : Nat} {lv : List (Nat × Value)} {st : List Value} (hr : ret = none) (v : Int32) (hd : decode cc pc = .ok (.return_, 1)) : eu_G E lo n nL (eu_QV E lo n σ v) σ pc lv [] :=
  fun H locs ls hP hS hl => W.vret C.1 C.2.1 (C.2.2.2.2.2.2.2.2.2.2.2.trans hr) (fun t ht hW => ⟨⟨(), rfl, trivial, by show va_P _ _ _ t.heap; rw [ht]; exact hP⟩, hS.F ht⟩) hS.2.2 hd C.2.2.2.2.2.1
theorem eu_blind (lo n : Nat) (av : (Nat → Nat) → List Value) (σ : eu_T) (D : va_G) (cy : Nat → ClassId) (ad : Nat → Nat) : FrameBlind (eu_Pc lo n av σ D cy ad) := fun a U g mk q => ⟨q.1, q.2.1, va_K.moved (u := U) (U := U.calling g mk a) (Vm.Alike.refl U.vm) q.2.2.1, eu_N_same (s := U) (U := U.calling g mk a) rfl q.2.2.2⟩
theorem eg_callI {E : eu_E} {rm : Room} {lo n nL : Nat} {cc : ByteArray} {own : String} {ws : List Cond} {ret : Option FieldType} (C : eu_C E rm lo n nL cc own ws ret) {Q : State → Prop} {σ : eu_T} {pc : Nat} {lv : List (Nat × Value)} {st : List Value} {y : MethodName} {bytes : ByteArray} {maxL idx na : Nat} {retY : Option FieldType} {wsy : List Cond} {rmy : Room} {Cn : String} (cw : CallW (eu_R E) (eu_s E) (eu_a E) own Cn idx y bytes maxL retY wsy rmy 0 0 na) {av : List Value} (b : Nat) (hb : lo ≤ b ∧ b < lo + n) {σ' : eu_T} {r : Int32} (hM : eu_KI (eu_l E) y wsy rmy lo n (fun ad => .ref (ad b) :: av) σ σ' r) (hna : av.length = na) {ci : Nat} {fs : List Value} {q : vw_C} (he : eu_we (eu_cy E) (eu_ad E) (σ b) b = .inr (ci, fs)) (hc : vwCl[ci]? = some q) (hq : q.1 = Cn) {stk : List Value} (hst : stk = av.reverse ++ .ref (eu_ad E b) :: st) (hroom : (st.map fun v => v.category).sum ≤ 8) (hd : decode cc pc = .ok (.invokevirtual idx, 3)) (kk : eu_G E lo n nL Q σ' (pc + 3) lv (.int r :: st)) : eu_G E lo n nL Q σ pc lv stk :=
  fun H locs ls hP hS hl => va_calli (va_runV (As := av) (rest := st) ⟨C.1, C.2.1, C.2.2.1, C.2.2.2.1, C.2.2.2.2.1⟩ (hM (eu_D E) (eu_cy E) (eu_ad E) C.2.2.2.2.2.2.2.2.1) cw ⟨eu_blind lo n (fun ad => .ref (ad b) :: av) σ (eu_D E) (eu_cy E) (eu_ad E), by rw [← hq]; exact va_recv C.2.2.2.2.2.2.1 hP hc (q0 := b - lo) (ci := ci) (fs := fs) (by rw [eu_wd_get hb, he]), fun U hU hW => ⟨rfl, by rw [hU]; exact hP, va_K.moved hW.alike C.2.2.2.2.2.2.1, eu_N_warm hW C.2.2.2.2.2.2.2.1⟩⟩ rfl hna hl.1 hst (lv_room hroom) hd ⟨Nat.zero_le _, Nat.zero_le _⟩) hS (fun q _ h => h) (fun q h => h) (fun r' u t H1 locs1 ht hvm hp hB hz hk hS1 => by
    have e : r' = r := hp
    subst e
    exact kk H1 locs1 ls (by rw [← ht]; exact hB) hS1 hl)
theorem eg_callNI {E : eu_E} {rm : Room} {lo n nL : Nat} {cc : ByteArray} {own : String} {ws : List Cond} {ret : Option FieldType} (C : eu_C E rm lo n nL cc own ws ret) {Q : State → Prop} {σ : eu_T} {pc : Nat} {lv : List (Nat × Value)} {st : List Value} {y : MethodName} {bytes : ByteArray} {maxL idx na : Nat} {retY : Option FieldType} {wsy : List Cond} {rmy : Room} {Cn : String} {host : String} (cw : va_CN (eu_R E) (eu_s E) (eu_a E) own idx y host bytes maxL retY wsy rmy 0 0 na ∧ (Cond.instanceMethod y).before (eu_a E) (eu_s E) = true ∧ (Cond.selects Cn y y).before (eu_a E) (eu_s E) = true) {av : List Value} (b : Nat) (hb : lo ≤ b ∧ b < lo + n) {σ' : eu_T} {r : Int32} (hM : eu_KI (eu_l E) y wsy rmy lo n (fun ad => .ref (ad b) :: av) σ σ' r) (hna : av.length = na) {ci : Nat} {fs : List Value} {q : vw_C} (he : eu_we (eu_cy E) (eu_ad E) (σ b) b = .inr (ci, fs)) (hc : vwCl[ci]? = some q) (hq : q.1 = Cn) {stk : List Value} (hst : stk = av.reverse ++ .ref (eu_ad E b) :: st) (hroom : (st.map fun v => v.category).sum ≤ 8) (hd : decode cc pc = .ok (.invokevirtual idx, 3)) (kk : eu_G E lo n nL Q σ' (pc + 3) lv (.int r :: st)) : eu_G E lo n nL Q σ pc lv stk :=
  fun H locs ls hP hS hl => va_calli (va_runVN (As := av) (rest := st) ⟨C.1, C.2.1, C.2.2.1, C.2.2.2.1, C.2.2.2.2.1⟩ (hM (eu_D E) (eu_cy E) (eu_ad E) C.2.2.2.2.2.2.2.2.1) cw ⟨eu_blind lo n (fun ad => .ref (ad b) :: av) σ (eu_D E) (eu_cy E) (eu_ad E), by rw [← hq]; exact va_recv C.2.2.2.2.2.2.1 hP hc (q0 := b - lo) (ci := ci) (fs := fs) (by rw [eu_wd_get hb, he]), fun U hU hW => ⟨rfl, by rw [hU]; exact hP, va_K.moved hW.alike C.2.2.2.2.2.2.1, eu_N_warm hW C.2.2.2.2.2.2.2.1⟩⟩ rfl hna hl.1 hst (lv_room hroom) hd ⟨Nat.zero_le _, Nat.zero_le _⟩) hS (fun q _ h => h) (fun q h => h) (fun r' u t H1 locs1 ht hvm hp hB hz hk hS1 => by
    have e : r' = r := hp
    subst e
    exact kk H1 locs1 ls (by rw [← ht]; exact hB) hS1 hl)
theorem eg_scallI {E : eu_E} {rm : Room} {lo n nL : Nat} {cc : ByteArray} {own : String} {ws : List Cond} {ret : Option FieldType} (C : eu_C E rm lo n nL cc own ws ret) {Q : State → Prop} {σ : eu_T} {pc : Nat} {lv : List (Nat × Value)} {st : List Value} {y : MethodName} {bytes : ByteArray} {maxL idx na : Nat} {retY : Option FieldType} {wsy : List Cond} {rmy : Room} (cw : CallB (eu_R E) (eu_s E) (eu_a E) own idx y bytes maxL retY wsy rmy 0 0 na ∧ (Cond.static y).before (eu_a E) (eu_s E) = true) {av : List Value} {σ' : eu_T} {r : Int32} (hM : eu_KI (eu_l E) y wsy rmy lo n (fun _ => av) σ σ' r) (hna : av.length = na) {stk : List Value} (hst : stk = av.reverse ++ st) (hroom : (st.map fun v => v.category).sum ≤ 8) (hd : decode cc pc = .ok (.invokestatic idx, 3)) (kk : eu_G E lo n nL Q σ' (pc + 3) lv (.int r :: st)) : eu_G E lo n nL Q σ pc lv stk :=
  fun H locs ls hP hS hl => va_calli (va_runS (As := av) (rest := st) ⟨C.1, C.2.1, C.2.2.1, C.2.2.2.1, C.2.2.2.2.1⟩ (hM (eu_D E) (eu_cy E) (eu_ad E) C.2.2.2.2.2.2.2.2.1) cw ⟨eu_blind lo n (fun _ => av) σ (eu_D E) (eu_cy E) (eu_ad E), fun U hU hW => ⟨rfl, by rw [hU]; exact hP, va_K.moved hW.alike C.2.2.2.2.2.2.1, eu_N_warm hW C.2.2.2.2.2.2.2.1⟩⟩ rfl hna hl.1 hst (lv_room hroom) hd ⟨Nat.zero_le _, Nat.zero_le _⟩) hS (fun q _ h => h) (fun q h => h) (fun r' u t H1 locs1 ht hvm hp hB hz hk hS1 => by
    have e : r' = r := hp
    subst e
    exact kk H1 locs1 ls (by rw [← ht]; exact hB) hS1 hl)
theorem eg_scallNI {E : eu_E} {rm : Room} {lo n nL : Nat} {cc : ByteArray} {own : String} {ws : List Cond} {ret : Option FieldType} (C : eu_C E rm lo n nL cc own ws ret) {Q : State → Prop} {σ : eu_T} {pc : Nat} {lv : List (Nat × Value)} {st : List Value} {y : MethodName} {bytes : ByteArray} {maxL idx na : Nat} {retY : Option FieldType} {wsy : List Cond} {rmy : Room} {host : String} (cw : va_CN (eu_R E) (eu_s E) (eu_a E) own idx y host bytes maxL retY wsy rmy 0 0 na ∧ (Cond.static y).before (eu_a E) (eu_s E) = true ∧ True) {av : List Value} {σ' : eu_T} {r : Int32} (hM : eu_KI (eu_l E) y wsy rmy lo n (fun _ => av) σ σ' r) (hna : av.length = na) {stk : List Value} (hst : stk = av.reverse ++ st) (hroom : (st.map fun v => v.category).sum ≤ 8) (hd : decode cc pc = .ok (.invokestatic idx, 3)) (kk : eu_G E lo n nL Q σ' (pc + 3) lv (.int r :: st)) : eu_G E lo n nL Q σ pc lv stk :=
  fun H locs ls hP hS hl => va_calli (va_runSN (As := av) (rest := st) ⟨C.1, C.2.1, C.2.2.1, C.2.2.2.1, C.2.2.2.2.1⟩ (hM (eu_D E) (eu_cy E) (eu_ad E) C.2.2.2.2.2.2.2.2.1) cw ⟨eu_blind lo n (fun _ => av) σ (eu_D E) (eu_cy E) (eu_ad E), fun U hU hW => ⟨rfl, by rw [hU]; exact hP, va_K.moved hW.alike C.2.2.2.2.2.2.1, eu_N_warm hW C.2.2.2.2.2.2.2.1⟩⟩ rfl hna hl.1 hst (lv_room hroom) hd ⟨Nat.zero_le _, Nat.zero_le _⟩) hS (fun q _ h => h) (fun q h => h) (fun r' u t H1 locs1 ht hvm hp hB hz hk hS1 => by
    have e : r' = r := hp
    subst e
    exact kk H1 locs1 ls (by rw [← ht]; exact hB) hS1 hl)
theorem eg_callL {E : eu_E} {rm : Room} {lo n nL : Nat} {cc : ByteArray} {own : String} {ws : List Cond} {ret : Option FieldType} (C : eu_C E rm lo n nL cc own ws ret) {Q : State → Prop} {σ : eu_T} {pc : Nat} {lv : List (Nat × Value)} {st : List Value} {y : MethodName} {bytes : ByteArray} {maxL idx na : Nat} {retY : Option FieldType} {wsy : List Cond} {rmy : Room} {Cn : String} (cw : CallW (eu_R E) (eu_s E) (eu_a E) own Cn idx y bytes maxL retY wsy rmy 0 0 na) {av : List Value} (b : Nat) (hb : lo ≤ b ∧ b < lo + n) {σ' : eu_T} {r : Int64} (hM : eu_KL (eu_l E) y wsy rmy lo n (fun ad => .ref (ad b) :: av) σ σ' r) (hna : av.length = na) {ci : Nat} {fs : List Value} {q : vw_C} (he : eu_we (eu_cy E) (eu_ad E) (σ b) b = .inr (ci, fs)) (hc : vwCl[ci]? = some q) (hq : q.1 = Cn) {stk : List Value} (hst : stk = av.reverse ++ .ref (eu_ad E b) :: st) (hroom : (st.map fun v => v.category).sum ≤ 8) (hd : decode cc pc = .ok (.invokevirtual idx, 3)) (kk : eu_G E lo n nL Q σ' (pc + 3) lv (.long r :: st)) : eu_G E lo n nL Q σ pc lv stk :=
  fun H locs ls hP hS hl => va_calll (va_runV (As := av) (rest := st) ⟨C.1, C.2.1, C.2.2.1, C.2.2.2.1, C.2.2.2.2.1⟩ (hM (eu_D E) (eu_cy E) (eu_ad E) C.2.2.2.2.2.2.2.2.1) cw ⟨eu_blind lo n (fun ad => .ref (ad b) :: av) σ (eu_D E) (eu_cy E) (eu_ad E), by rw [← hq]; exact va_recv C.2.2.2.2.2.2.1 hP hc (q0 := b - lo) (ci := ci) (fs := fs) (by rw [eu_wd_get hb, he]), fun U hU hW => ⟨rfl, by rw [hU]; exact hP, va_K.moved hW.alike C.2.2.2.2.2.2.1, eu_N_warm hW C.2.2.2.2.2.2.2.1⟩⟩ rfl hna hl.1 hst (lv_room hroom) hd ⟨Nat.zero_le _, Nat.zero_le _⟩) hS (fun q _ h => h) (fun q h => h) (fun r' u t H1 locs1 ht hvm hp hB hz hk hS1 => by
    have e : r' = r := hp
    subst e
    exact kk H1 locs1 ls (by rw [← ht]; exact hB) hS1 hl)
theorem eg_callNL {E : eu_E} {rm : Room} {lo n nL : Nat} {cc : ByteArray} {own : String} {ws : List Cond} {ret : Option FieldType} (C : eu_C E rm lo n nL cc own ws ret) {Q : State → Prop} {σ : eu_T} {pc : Nat} {lv : List (Nat × Value)} {st : List Value} {y : MethodName} {bytes : ByteArray} {maxL idx na : Nat} {retY : Option FieldType} {wsy : List Cond} {rmy : Room} {Cn : String} {host : String} (cw : va_CN (eu_R E) (eu_s E) (eu_a E) own idx y host bytes maxL retY wsy rmy 0 0 na ∧ (Cond.instanceMethod y).before (eu_a E) (eu_s E) = true ∧ (Cond.selects Cn y y).before (eu_a E) (eu_s E) = true) {av : List Value} (b : Nat) (hb : lo ≤ b ∧ b < lo + n) {σ' : eu_T} {r : Int64} (hM : eu_KL (eu_l E) y wsy rmy lo n (fun ad => .ref (ad b) :: av) σ σ' r) (hna : av.length = na) {ci : Nat} {fs : List Value} {q : vw_C} (he : eu_we (eu_cy E) (eu_ad E) (σ b) b = .inr (ci, fs)) (hc : vwCl[ci]? = some q) (hq : q.1 = Cn) {stk : List Value} (hst : stk = av.reverse ++ .ref (eu_ad E b) :: st) (hroom : (st.map fun v => v.category).sum ≤ 8) (hd : decode cc pc = .ok (.invokevirtual idx, 3)) (kk : eu_G E lo n nL Q σ' (pc + 3) lv (.long r :: st)) : eu_G E lo n nL Q σ pc lv stk :=
  fun H locs ls hP hS hl => va_calll (va_runVN (As := av) (rest := st) ⟨C.1, C.2.1, C.2.2.1, C.2.2.2.1, C.2.2.2.2.1⟩ (hM (eu_D E) (eu_cy E) (eu_ad E) C.2.2.2.2.2.2.2.2.1) cw ⟨eu_blind lo n (fun ad => .ref (ad b) :: av) σ (eu_D E) (eu_cy E) (eu_ad E), by rw [← hq]; exact va_recv C.2.2.2.2.2.2.1 hP hc (q0 := b - lo) (ci := ci) (fs := fs) (by rw [eu_wd_get hb, he]), fun U hU hW => ⟨rfl, by rw [hU]; exact hP, va_K.moved hW.alike C.2.2.2.2.2.2.1, eu_N_warm hW C.2.2.2.2.2.2.2.1⟩⟩ rfl hna hl.1 hst (lv_room hroom) hd ⟨Nat.zero_le _, Nat.zero_le _⟩) hS (fun q _ h => h) (fun q h => h) (fun r' u t H1 locs1 ht hvm hp hB hz hk hS1 => by
    have e : r' = r := hp
    subst e
    exact kk H1 locs1 ls (by rw [← ht]; exact hB) hS1 hl)
theorem eg_scallL {E : eu_E} {rm : Room} {lo n nL : Nat} {cc : ByteArray} {own : String} {ws : List Cond} {ret : Option FieldType} (C : eu_C E rm lo n nL cc own ws ret) {Q : State → Prop} {σ : eu_T} {pc : Nat} {lv : List (Nat × Value)} {st : List Value} {y : MethodName} {bytes : ByteArray} {maxL idx na : Nat} {retY : Option FieldType} {wsy : List Cond} {rmy : Room} (cw : CallB (eu_R E) (eu_s E) (eu_a E) own idx y bytes maxL retY wsy rmy 0 0 na ∧ (Cond.static y).before (eu_a E) (eu_s E) = true) {av : List Value} {σ' : eu_T} {r : Int64} (hM : eu_KL (eu_l E) y wsy rmy lo n (fun _ => av) σ σ' r) (hna : av.length = na) {stk : List Value} (hst : stk = av.reverse ++ st) (hroom : (st.map fun v => v.category).sum ≤ 8) (hd : decode cc pc = .ok (.invokestatic idx, 3)) (kk : eu_G E lo n nL Q σ' (pc + 3) lv (.long r :: st)) : eu_G E lo n nL Q σ pc lv stk :=
  fun H locs ls hP hS hl => va_calll (va_runS (As := av) (rest := st) ⟨C.1, C.2.1, C.2.2.1, C.2.2.2.1, C.2.2.2.2.1⟩ (hM (eu_D E) (eu_cy E) (eu_ad E) C.2.2.2.2.2.2.2.2.1) cw ⟨eu_blind lo n (fun _ => av) σ (eu_D E) (eu_cy E) (eu_ad E), fun U hU hW => ⟨rfl, by rw [hU]; exact hP, va_K.moved hW.alike C.2.2.2.2.2.2.1, eu_N_warm hW C.2.2.2.2.2.2.2.1⟩⟩ rfl hna hl.1 hst (lv_room hroom) hd ⟨Nat.zero_le _, Nat.zero_le _⟩) hS (fun q _ h => h) (fun q h => h) (fun r' u t H1 locs1 ht hvm hp hB hz hk hS1 => by
    have e : r' = r := hp
    subst e
    exact kk H1 locs1 ls (by rw [← ht]; exact hB) hS1 hl)
theorem eg_scallNL {E : eu_E} {rm : Room} {lo n nL : Nat} {cc : ByteArray} {own : String} {ws : List Cond} {ret : Option FieldType} (C : eu_C E rm lo n nL cc own ws ret) {Q : State → Prop} {σ : eu_T} {pc : Nat} {lv : List (Nat × Value)} {st : List Value} {y : MethodName} {bytes : ByteArray} {maxL idx na : Nat} {retY : Option FieldType} {wsy : List Cond} {rmy : Room} {host : String} (cw : va_CN (eu_R E) (eu_s E) (eu_a E) own idx y host bytes maxL retY wsy rmy 0 0 na ∧ (Cond.static y).before (eu_a E) (eu_s E) = true ∧ True) {av : List Value} {σ' : eu_T} {r : Int64} (hM : eu_KL (eu_l E) y wsy rmy lo n (fun _ => av) σ σ' r) (hna : av.length = na) {stk : List Value} (hst : stk = av.reverse ++ st) (hroom : (st.map fun v => v.category).sum ≤ 8) (hd : decode cc pc = .ok (.invokestatic idx, 3)) (kk : eu_G E lo n nL Q σ' (pc + 3) lv (.long r :: st)) : eu_G E lo n nL Q σ pc lv stk :=
  fun H locs ls hP hS hl => va_calll (va_runSN (As := av) (rest := st) ⟨C.1, C.2.1, C.2.2.1, C.2.2.2.1, C.2.2.2.2.1⟩ (hM (eu_D E) (eu_cy E) (eu_ad E) C.2.2.2.2.2.2.2.2.1) cw ⟨eu_blind lo n (fun _ => av) σ (eu_D E) (eu_cy E) (eu_ad E), fun U hU hW => ⟨rfl, by rw [hU]; exact hP, va_K.moved hW.alike C.2.2.2.2.2.2.1, eu_N_warm hW C.2.2.2.2.2.2.2.1⟩⟩ rfl hna hl.1 hst (lv_room hroom) hd ⟨Nat.zero_le _, Nat.zero_le _⟩) hS (fun q _ h => h) (fun q h => h) (fun r' u t H1 locs1 ht hvm hp hB hz hk hS1 => by
    have e : r' = r := hp
    subst e
    exact kk H1 locs1 ls (by rw [← ht]; exact hB) hS1 hl)
theorem eg_callV {E : eu_E} {rm : Room} {lo n nL : Nat} {cc : ByteArray} {own : String} {ws : List Cond} {ret : Option FieldType} (C : eu_C E rm lo n nL cc own ws ret) {Q : State → Prop} {σ : eu_T} {pc : Nat} {lv : List (Nat × Value)} {st : List Value} {y : MethodName} {bytes : ByteArray} {maxL idx na : Nat} {retY : Option FieldType} {wsy : List Cond} {rmy : Room} {Cn : String} (cw : CallW (eu_R E) (eu_s E) (eu_a E) own Cn idx y bytes maxL retY wsy rmy 0 0 na) {av : List Value} (b : Nat) (hb : lo ≤ b ∧ b < lo + n) {σ' : eu_T} {r : Int32} (hM : eu_KV (eu_l E) y wsy rmy lo n (fun ad => .ref (ad b) :: av) σ σ' r) (hna : av.length = na) {ci : Nat} {fs : List Value} {q : vw_C} (he : eu_we (eu_cy E) (eu_ad E) (σ b) b = .inr (ci, fs)) (hc : vwCl[ci]? = some q) (hq : q.1 = Cn) {stk : List Value} (hst : stk = av.reverse ++ .ref (eu_ad E b) :: st) (hroom : (st.map fun v => v.category).sum ≤ 8) (hd : decode cc pc = .ok (.invokevirtual idx, 3)) (kk : eu_G E lo n nL Q σ' (pc + 3) lv ( st)) : eu_G E lo n nL Q σ pc lv stk :=
  fun H locs ls hP hS hl => va_callv (va_runV (As := av) (rest := st) ⟨C.1, C.2.1, C.2.2.1, C.2.2.2.1, C.2.2.2.2.1⟩ (hM (eu_D E) (eu_cy E) (eu_ad E) C.2.2.2.2.2.2.2.2.1) cw ⟨eu_blind lo n (fun ad => .ref (ad b) :: av) σ (eu_D E) (eu_cy E) (eu_ad E), by rw [← hq]; exact va_recv C.2.2.2.2.2.2.1 hP hc (q0 := b - lo) (ci := ci) (fs := fs) (by rw [eu_wd_get hb, he]), fun U hU hW => ⟨rfl, by rw [hU]; exact hP, va_K.moved hW.alike C.2.2.2.2.2.2.1, eu_N_warm hW C.2.2.2.2.2.2.2.1⟩⟩ rfl hna hl.1 hst (lv_room hroom) hd ⟨Nat.zero_le _, Nat.zero_le _⟩) hS (fun q _ h => h) (fun q h => h) (fun u t H1 locs1 ht hvm hp hB hz hk hS1 => kk H1 locs1 ls (by rw [← ht]; exact hB) hS1 hl)
theorem eg_callNV {E : eu_E} {rm : Room} {lo n nL : Nat} {cc : ByteArray} {own : String} {ws : List Cond} {ret : Option FieldType} (C : eu_C E rm lo n nL cc own ws ret) {Q : State → Prop} {σ : eu_T} {pc : Nat} {lv : List (Nat × Value)} {st : List Value} {y : MethodName} {bytes : ByteArray} {maxL idx na : Nat} {retY : Option FieldType} {wsy : List Cond} {rmy : Room} {Cn : String} {host : String} (cw : va_CN (eu_R E) (eu_s E) (eu_a E) own idx y host bytes maxL retY wsy rmy 0 0 na ∧ (Cond.instanceMethod y).before (eu_a E) (eu_s E) = true ∧ (Cond.selects Cn y y).before (eu_a E) (eu_s E) = true) {av : List Value} (b : Nat) (hb : lo ≤ b ∧ b < lo + n) {σ' : eu_T} {r : Int32} (hM : eu_KV (eu_l E) y wsy rmy lo n (fun ad => .ref (ad b) :: av) σ σ' r) (hna : av.length = na) {ci : Nat} {fs : List Value} {q : vw_C} (he : eu_we (eu_cy E) (eu_ad E) (σ b) b = .inr (ci, fs)) (hc : vwCl[ci]? = some q) (hq : q.1 = Cn) {stk : List Value} (hst : stk = av.reverse ++ .ref (eu_ad E b) :: st) (hroom : (st.map fun v => v.category).sum ≤ 8) (hd : decode cc pc = .ok (.invokevirtual idx, 3)) (kk : eu_G E lo n nL Q σ' (pc + 3) lv ( st)) : eu_G E lo n nL Q σ pc lv stk :=
  fun H locs ls hP hS hl => va_callv (va_runVN (As := av) (rest := st) ⟨C.1, C.2.1, C.2.2.1, C.2.2.2.1, C.2.2.2.2.1⟩ (hM (eu_D E) (eu_cy E) (eu_ad E) C.2.2.2.2.2.2.2.2.1) cw ⟨eu_blind lo n (fun ad => .ref (ad b) :: av) σ (eu_D E) (eu_cy E) (eu_ad E), by rw [← hq]; exact va_recv C.2.2.2.2.2.2.1 hP hc (q0 := b - lo) (ci := ci) (fs := fs) (by rw [eu_wd_get hb, he]), fun U hU hW => ⟨rfl, by rw [hU]; exact hP, va_K.moved hW.alike C.2.2.2.2.2.2.1, eu_N_warm hW C.2.2.2.2.2.2.2.1⟩⟩ rfl hna hl.1 hst (lv_room hroom) hd ⟨Nat.zero_le _, Nat.zero_le _⟩) hS (fun q _ h => h) (fun q h => h) (fun u t H1 locs1 ht hvm hp hB hz hk hS1 => kk H1 locs1 ls (by rw [← ht]; exact hB) hS1 hl)
theorem eg_scallV {E : eu_E} {rm : Room} {lo n nL : Nat} {cc : ByteArray} {own : String} {ws : List Cond} {ret : Option FieldType} (C : eu_C E rm lo n nL cc own ws ret) {Q : State → Prop} {σ : eu_T} {pc : Nat} {lv : List (Nat × Value)} {st : List Value} {y : MethodName} {bytes : ByteArray} {maxL idx na : Nat} {retY : Option FieldType} {wsy : List Cond} {rmy : Room} (cw : CallB (eu_R E) (eu_s E) (eu_a E) own idx y bytes maxL retY wsy rmy 0 0 na ∧ (Cond.static y).before (eu_a E) (eu_s E) = true) {av : List Value} {σ' : eu_T} {r : Int32} (hM : eu_KV (eu_l E) y wsy rmy lo n (fun _ => av) σ σ' r) (hna : av.length = na) {stk : List Value} (hst : stk = av.reverse ++ st) (hroom : (st.map fun v => v.category).sum ≤ 8) (hd : decode cc pc = .ok (.invokestatic idx, 3)) (kk : eu_G E lo n nL Q σ' (pc + 3) lv ( st)) : eu_G E lo n nL Q σ pc lv stk :=
  fun H locs ls hP hS hl => va_callv (va_runS (As := av) (rest := st) ⟨C.1, C.2.1, C.2.2.1, C.2.2.2.1, C.2.2.2.2.1⟩ (hM (eu_D E) (eu_cy E) (eu_ad E) C.2.2.2.2.2.2.2.2.1) cw ⟨eu_blind lo n (fun _ => av) σ (eu_D E) (eu_cy E) (eu_ad E), fun U hU hW => ⟨rfl, by rw [hU]; exact hP, va_K.moved hW.alike C.2.2.2.2.2.2.1, eu_N_warm hW C.2.2.2.2.2.2.2.1⟩⟩ rfl hna hl.1 hst (lv_room hroom) hd ⟨Nat.zero_le _, Nat.zero_le _⟩) hS (fun q _ h => h) (fun q h => h) (fun u t H1 locs1 ht hvm hp hB hz hk hS1 => kk H1 locs1 ls (by rw [← ht]; exact hB) hS1 hl)
theorem eg_scallNV {E : eu_E} {rm : Room} {lo n nL : Nat} {cc : ByteArray} {own : String} {ws : List Cond} {ret : Option FieldType} (C : eu_C E rm lo n nL cc own ws ret) {Q : State → Prop} {σ : eu_T} {pc : Nat} {lv : List (Nat × Value)} {st : List Value} {y : MethodName} {bytes : ByteArray} {maxL idx na : Nat} {retY : Option FieldType} {wsy : List Cond} {rmy : Room} {host : String} (cw : va_CN (eu_R E) (eu_s E) (eu_a E) own idx y host bytes maxL retY wsy rmy 0 0 na ∧ (Cond.static y).before (eu_a E) (eu_s E) = true ∧ True) {av : List Value} {σ' : eu_T} {r : Int32} (hM : eu_KV (eu_l E) y wsy rmy lo n (fun _ => av) σ σ' r) (hna : av.length = na) {stk : List Value} (hst : stk = av.reverse ++ st) (hroom : (st.map fun v => v.category).sum ≤ 8) (hd : decode cc pc = .ok (.invokestatic idx, 3)) (kk : eu_G E lo n nL Q σ' (pc + 3) lv ( st)) : eu_G E lo n nL Q σ pc lv stk :=
  fun H locs ls hP hS hl => va_callv (va_runSN (As := av) (rest := st) ⟨C.1, C.2.1, C.2.2.1, C.2.2.2.1, C.2.2.2.2.1⟩ (hM (eu_D E) (eu_cy E) (eu_ad E) C.2.2.2.2.2.2.2.2.1) cw ⟨eu_blind lo n (fun _ => av) σ (eu_D E) (eu_cy E) (eu_ad E), fun U hU hW => ⟨rfl, by rw [hU]; exact hP, va_K.moved hW.alike C.2.2.2.2.2.2.1, eu_N_warm hW C.2.2.2.2.2.2.2.1⟩⟩ rfl hna hl.1 hst (lv_room hroom) hd ⟨Nat.zero_le _, Nat.zero_le _⟩) hS (fun q _ h => h) (fun q h => h) (fun u t H1 locs1 ht hvm hp hB hz hk hS1 => kk H1 locs1 ls (by rw [← ht]; exact hB) hS1 hl)
/-! words for the functions that the walks compute -/
def eu_gd {α : Type} (c : Prop) [Decidable c] (k : Option α) : Option α := if c then k else none
theorem eu_gd_some {α : Type} {c : Prop} [Decidable c] {k : Option α} {r : α} (h : eu_gd c k = some r) : c ∧ k = some r := by
  unfold eu_gd at h
  split at h
  · exact ⟨by assumption, h⟩
  · cases h
theorem eu_gd_t {α : Type} {c : Prop} [Decidable c] {k : Option α} (h : c) : eu_gd c k = k := if_pos h
def eu_bd {α β : Type} (o : Option α) (k : α → Option β) : Option β := match o with
  | none => none
  | some a => k a
theorem eu_bd_some {α β : Type} {o : Option α} {k : α → Option β} {r : β} (h : eu_bd o k = some r) : ∃ a, o = some a ∧ k a = some r := by
  cases o with
  | none => cases h
  | some a => exact ⟨a, rfl, h⟩
theorem eu_bd_2 {α γ β : Type} {o : Option (α × γ)} {k : α → γ → Option β} {r : β} (h : eu_bd o (fun q => k q.1 q.2) = some r) : ∃ a c, o = some (a, c) ∧ k a c = some r := by
  cases o with
  | none => cases h
  | some a => exact ⟨a.1, a.2, rfl, h⟩
theorem eu_bd_t {α β : Type} {a : α} {k : α → Option β} : eu_bd (some a) k = k a := rfl
def eu_lt {α β : Type} (v : α) (k : α → β) : β := k v
theorem eu_lt_x {α β : Type} {v : α} {k : α → β} {r : β} (h : eu_lt v k = r) : ∃ x, x = v ∧ k x = r := ⟨v, rfl, h⟩
abbrev eu_in (i : Int32) (z : Nat) : Prop := 0 ≤ i.toInt ∧ i.toInt < (z : Int)
theorem eu_in_vp {i : Int32} {z : Nat} (h : eu_in i z) : vp_in i z := vp_in_iff.mpr h
abbrev eu_bo (x : Int32) : Prop := x = 0 ∨ x = 1
end
