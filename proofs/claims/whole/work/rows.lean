section
-- ===== PART A: goes FIRST, ahead of the names: the tables' words, and 'selects' of the private methods out of them =====
/-- a private method of a class that the tables say can be made, by its rows of tables_1 -/
def lw_okq (q : MethodName × Nat) : Prop := (q.1.cls ≠ "java/lang/invoke/MethodHandle" ∧ q.1.cls ≠ "java/lang/invoke/VarHandle") ∧ Cond.instantiable q.1.cls q.2 ∈ tables_1 ∧ Cond.privateMethod q.1 ∈ tables_1 ∧ Cond.instanceMethod q.1 ∈ tables_1
theorem lw_p0 : lw_okq (⟨"MarginBooks$Reader", "add", "(I)Z"⟩, 8) := ⟨⟨by decide +kernel, by decide +kernel⟩, List.mem_of_getElem? (i := 68) (by decide +kernel), List.mem_of_getElem? (i := 282) (by decide +kernel), List.mem_of_getElem? (i := 283) (by decide +kernel)⟩
theorem lw_p1 : lw_okq (⟨"MarginBooks$Reader", "empty", "()I"⟩, 8) := ⟨⟨by decide +kernel, by decide +kernel⟩, List.mem_of_getElem? (i := 68) (by decide +kernel), List.mem_of_getElem? (i := 290) (by decide +kernel), List.mem_of_getElem? (i := 291) (by decide +kernel)⟩
theorem lw_p2 : lw_okq (⟨"MarginBooks$Reader", "read", "(LMarginBooks$House;)I"⟩, 8) := ⟨⟨by decide +kernel, by decide +kernel⟩, List.mem_of_getElem? (i := 68) (by decide +kernel), List.mem_of_getElem? (i := 298) (by decide +kernel), List.mem_of_getElem? (i := 299) (by decide +kernel)⟩
theorem lw_p3 : lw_okq (⟨"MarginBooks$House", "begin", "()V"⟩, 8) := ⟨⟨by decide +kernel, by decide +kernel⟩, List.mem_of_getElem? (i := 23) (by decide +kernel), List.mem_of_getElem? (i := 302) (by decide +kernel), List.mem_of_getElem? (i := 303) (by decide +kernel)⟩
theorem lw_p4 : lw_okq (⟨"MarginBooks$Reader", "readToken", "()V"⟩, 8) := ⟨⟨by decide +kernel, by decide +kernel⟩, List.mem_of_getElem? (i := 68) (by decide +kernel), List.mem_of_getElem? (i := 306) (by decide +kernel), List.mem_of_getElem? (i := 307) (by decide +kernel)⟩
theorem lw_p5 : lw_okq (⟨"MarginBooks$Reader", "byteAt", "(I)I"⟩, 8) := ⟨⟨by decide +kernel, by decide +kernel⟩, List.mem_of_getElem? (i := 68) (by decide +kernel), List.mem_of_getElem? (i := 310) (by decide +kernel), List.mem_of_getElem? (i := 311) (by decide +kernel)⟩
theorem lw_p6 : lw_okq (⟨"MarginBooks$Reader", "readLetters", "()V"⟩, 8) := ⟨⟨by decide +kernel, by decide +kernel⟩, List.mem_of_getElem? (i := 68) (by decide +kernel), List.mem_of_getElem? (i := 317) (by decide +kernel), List.mem_of_getElem? (i := 318) (by decide +kernel)⟩
theorem lw_p7 : lw_okq (⟨"MarginBooks$Reader", "readFigures", "()V"⟩, 8) := ⟨⟨by decide +kernel, by decide +kernel⟩, List.mem_of_getElem? (i := 68) (by decide +kernel), List.mem_of_getElem? (i := 324) (by decide +kernel), List.mem_of_getElem? (i := 325) (by decide +kernel)⟩
theorem lw_p8 : lw_okq (⟨"MarginBooks$Reader", "readOpinions", "(LMarginBooks$House;)Z"⟩, 8) := ⟨⟨by decide +kernel, by decide +kernel⟩, List.mem_of_getElem? (i := 68) (by decide +kernel), List.mem_of_getElem? (i := 331) (by decide +kernel), List.mem_of_getElem? (i := 332) (by decide +kernel)⟩
theorem lw_p9 : lw_okq (⟨"MarginBooks$Reader", "readNumber", "(II)Z"⟩, 8) := ⟨⟨by decide +kernel, by decide +kernel⟩, List.mem_of_getElem? (i := 68) (by decide +kernel), List.mem_of_getElem? (i := 335) (by decide +kernel), List.mem_of_getElem? (i := 336) (by decide +kernel)⟩
theorem lw_p10 : lw_okq (⟨"MarginBooks$Reader", "readStop", "()Z"⟩, 8) := ⟨⟨by decide +kernel, by decide +kernel⟩, List.mem_of_getElem? (i := 68) (by decide +kernel), List.mem_of_getElem? (i := 339) (by decide +kernel), List.mem_of_getElem? (i := 340) (by decide +kernel)⟩
theorem lw_p11 : lw_okq (⟨"MarginBooks$Reader", "readBook", "(LMarginBooks$House;)Z"⟩, 8) := ⟨⟨by decide +kernel, by decide +kernel⟩, List.mem_of_getElem? (i := 68) (by decide +kernel), List.mem_of_getElem? (i := 343) (by decide +kernel), List.mem_of_getElem? (i := 344) (by decide +kernel)⟩
theorem lw_p12 : lw_okq (⟨"MarginBooks$House", "hasOpinion", "(I)Z"⟩, 8) := ⟨⟨by decide +kernel, by decide +kernel⟩, List.mem_of_getElem? (i := 23) (by decide +kernel), List.mem_of_getElem? (i := 347) (by decide +kernel), List.mem_of_getElem? (i := 348) (by decide +kernel)⟩
theorem lw_p13 : lw_okq (⟨"MarginBooks$House", "addLine", "(I)V"⟩, 8) := ⟨⟨by decide +kernel, by decide +kernel⟩, List.mem_of_getElem? (i := 23) (by decide +kernel), List.mem_of_getElem? (i := 351) (by decide +kernel), List.mem_of_getElem? (i := 352) (by decide +kernel)⟩
theorem lw_p14 : lw_okq (⟨"MarginBooks$Reader", "readScribe", "(LMarginBooks$House;)Z"⟩, 8) := ⟨⟨by decide +kernel, by decide +kernel⟩, List.mem_of_getElem? (i := 68) (by decide +kernel), List.mem_of_getElem? (i := 355) (by decide +kernel), List.mem_of_getElem? (i := 356) (by decide +kernel)⟩
theorem lw_p15 : lw_okq (⟨"MarginBooks$House", "addScribe", "(II)V"⟩, 8) := ⟨⟨by decide +kernel, by decide +kernel⟩, List.mem_of_getElem? (i := 23) (by decide +kernel), List.mem_of_getElem? (i := 359) (by decide +kernel), List.mem_of_getElem? (i := 360) (by decide +kernel)⟩
def lw_privs_1 : List (MethodName × Nat) := [(⟨"MarginBooks$Reader", "add", "(I)Z"⟩, 8), (⟨"MarginBooks$Reader", "empty", "()I"⟩, 8), (⟨"MarginBooks$Reader", "read", "(LMarginBooks$House;)I"⟩, 8), (⟨"MarginBooks$House", "begin", "()V"⟩, 8), (⟨"MarginBooks$Reader", "readToken", "()V"⟩, 8), (⟨"MarginBooks$Reader", "byteAt", "(I)I"⟩, 8), (⟨"MarginBooks$Reader", "readLetters", "()V"⟩, 8), (⟨"MarginBooks$Reader", "readFigures", "()V"⟩, 8), (⟨"MarginBooks$Reader", "readOpinions", "(LMarginBooks$House;)Z"⟩, 8), (⟨"MarginBooks$Reader", "readNumber", "(II)Z"⟩, 8), (⟨"MarginBooks$Reader", "readStop", "()Z"⟩, 8), (⟨"MarginBooks$Reader", "readBook", "(LMarginBooks$House;)Z"⟩, 8), (⟨"MarginBooks$House", "hasOpinion", "(I)Z"⟩, 8), (⟨"MarginBooks$House", "addLine", "(I)V"⟩, 8), (⟨"MarginBooks$Reader", "readScribe", "(LMarginBooks$House;)Z"⟩, 8), (⟨"MarginBooks$House", "addScribe", "(II)V"⟩, 8)]
theorem lw_r1 : ∀ q ∈ lw_privs_1, lw_okq q := List.forall_mem_cons.mpr ⟨lw_p0, List.forall_mem_cons.mpr ⟨lw_p1, List.forall_mem_cons.mpr ⟨lw_p2, List.forall_mem_cons.mpr ⟨lw_p3, List.forall_mem_cons.mpr ⟨lw_p4, List.forall_mem_cons.mpr ⟨lw_p5, List.forall_mem_cons.mpr ⟨lw_p6, List.forall_mem_cons.mpr ⟨lw_p7, List.forall_mem_cons.mpr ⟨lw_p8, List.forall_mem_cons.mpr ⟨lw_p9, List.forall_mem_cons.mpr ⟨lw_p10, List.forall_mem_cons.mpr ⟨lw_p11, List.forall_mem_cons.mpr ⟨lw_p12, List.forall_mem_cons.mpr ⟨lw_p13, List.forall_mem_cons.mpr ⟨lw_p14, List.forall_mem_cons.mpr ⟨lw_p15, fun _ h => absurd h List.not_mem_nil⟩⟩⟩⟩⟩⟩⟩⟩⟩⟩⟩⟩⟩⟩⟩⟩
theorem lw_p16 : lw_okq (⟨"MarginBooks$Reader", "readNeed", "(LMarginBooks$House;)Z"⟩, 8) := ⟨⟨by decide +kernel, by decide +kernel⟩, List.mem_of_getElem? (i := 68) (by decide +kernel), List.mem_of_getElem? (i := 363) (by decide +kernel), List.mem_of_getElem? (i := 364) (by decide +kernel)⟩
theorem lw_p17 : lw_okq (⟨"MarginBooks$Laws", "learn", "(LMarginBooks$House;)V"⟩, 3) := ⟨⟨by decide +kernel, by decide +kernel⟩, List.mem_of_getElem? (i := 100) (by decide +kernel), List.mem_of_getElem? (i := 367) (by decide +kernel), List.mem_of_getElem? (i := 368) (by decide +kernel)⟩
theorem lw_p18 : lw_okq (⟨"MarginBooks$House", "isConvinced", "(II)Z"⟩, 8) := ⟨⟨by decide +kernel, by decide +kernel⟩, List.mem_of_getElem? (i := 23) (by decide +kernel), List.mem_of_getElem? (i := 372) (by decide +kernel), List.mem_of_getElem? (i := 373) (by decide +kernel)⟩
theorem lw_p19 : lw_okq (⟨"MarginBooks$House", "unlikeLines", "(II)I"⟩, 8) := ⟨⟨by decide +kernel, by decide +kernel⟩, List.mem_of_getElem? (i := 23) (by decide +kernel), List.mem_of_getElem? (i := 376) (by decide +kernel), List.mem_of_getElem? (i := 377) (by decide +kernel)⟩
theorem lw_p20 : lw_okq (⟨"MarginBooks$House", "saidBy", "(II)I"⟩, 8) := ⟨⟨by decide +kernel, by decide +kernel⟩, List.mem_of_getElem? (i := 23) (by decide +kernel), List.mem_of_getElem? (i := 380) (by decide +kernel), List.mem_of_getElem? (i := 381) (by decide +kernel)⟩
theorem lw_p21 : lw_okq (⟨"MarginBooks$House", "turnOf", "(I)I"⟩, 8) := ⟨⟨by decide +kernel, by decide +kernel⟩, List.mem_of_getElem? (i := 23) (by decide +kernel), List.mem_of_getElem? (i := 384) (by decide +kernel), List.mem_of_getElem? (i := 385) (by decide +kernel)⟩
theorem lw_p22 : lw_okq (⟨"MarginBooks$House", "hasScribe", "(I)Z"⟩, 8) := ⟨⟨by decide +kernel, by decide +kernel⟩, List.mem_of_getElem? (i := 23) (by decide +kernel), List.mem_of_getElem? (i := 388) (by decide +kernel), List.mem_of_getElem? (i := 389) (by decide +kernel)⟩
theorem lw_p23 : lw_okq (⟨"MarginBooks$House", "bentOf", "(I)I"⟩, 8) := ⟨⟨by decide +kernel, by decide +kernel⟩, List.mem_of_getElem? (i := 23) (by decide +kernel), List.mem_of_getElem? (i := 392) (by decide +kernel), List.mem_of_getElem? (i := 393) (by decide +kernel)⟩
theorem lw_p24 : lw_okq (⟨"MarginBooks$House", "becomes", "(II)I"⟩, 8) := ⟨⟨by decide +kernel, by decide +kernel⟩, List.mem_of_getElem? (i := 23) (by decide +kernel), List.mem_of_getElem? (i := 405) (by decide +kernel), List.mem_of_getElem? (i := 406) (by decide +kernel)⟩
theorem lw_p25 : lw_okq (⟨"MarginBooks$Standing", "begin", "(I)V"⟩, 2) := ⟨⟨by decide +kernel, by decide +kernel⟩, List.mem_of_getElem? (i := 120) (by decide +kernel), List.mem_of_getElem? (i := 409) (by decide +kernel), List.mem_of_getElem? (i := 410) (by decide +kernel)⟩
theorem lw_p26 : lw_okq (⟨"MarginBooks$Standing", "put", "(II)V"⟩, 2) := ⟨⟨by decide +kernel, by decide +kernel⟩, List.mem_of_getElem? (i := 120) (by decide +kernel), List.mem_of_getElem? (i := 413) (by decide +kernel), List.mem_of_getElem? (i := 414) (by decide +kernel)⟩
theorem lw_p27 : lw_okq (⟨"MarginBooks$Margins", "empty", "()I"⟩, 3) := ⟨⟨by decide +kernel, by decide +kernel⟩, List.mem_of_getElem? (i := 187) (by decide +kernel), List.mem_of_getElem? (i := 417) (by decide +kernel), List.mem_of_getElem? (i := 418) (by decide +kernel)⟩
theorem lw_p28 : lw_okq (⟨"MarginBooks$House", "hasLine", "(I)Z"⟩, 8) := ⟨⟨by decide +kernel, by decide +kernel⟩, List.mem_of_getElem? (i := 23) (by decide +kernel), List.mem_of_getElem? (i := 425) (by decide +kernel), List.mem_of_getElem? (i := 426) (by decide +kernel)⟩
theorem lw_p29 : lw_okq (⟨"MarginBooks$Standing", "book", "()I"⟩, 2) := ⟨⟨by decide +kernel, by decide +kernel⟩, List.mem_of_getElem? (i := 120) (by decide +kernel), List.mem_of_getElem? (i := 429) (by decide +kernel), List.mem_of_getElem? (i := 430) (by decide +kernel)⟩
theorem lw_p30 : lw_okq (⟨"MarginBooks$Standing", "at", "(I)I"⟩, 2) := ⟨⟨by decide +kernel, by decide +kernel⟩, List.mem_of_getElem? (i := 120) (by decide +kernel), List.mem_of_getElem? (i := 433) (by decide +kernel), List.mem_of_getElem? (i := 434) (by decide +kernel)⟩
theorem lw_p31 : lw_okq (⟨"MarginBooks$House", "lineOf", "(II)I"⟩, 8) := ⟨⟨by decide +kernel, by decide +kernel⟩, List.mem_of_getElem? (i := 23) (by decide +kernel), List.mem_of_getElem? (i := 437) (by decide +kernel), List.mem_of_getElem? (i := 438) (by decide +kernel)⟩
def lw_privs_2 : List (MethodName × Nat) := [(⟨"MarginBooks$Reader", "readNeed", "(LMarginBooks$House;)Z"⟩, 8), (⟨"MarginBooks$Laws", "learn", "(LMarginBooks$House;)V"⟩, 3), (⟨"MarginBooks$House", "isConvinced", "(II)Z"⟩, 8), (⟨"MarginBooks$House", "unlikeLines", "(II)I"⟩, 8), (⟨"MarginBooks$House", "saidBy", "(II)I"⟩, 8), (⟨"MarginBooks$House", "turnOf", "(I)I"⟩, 8), (⟨"MarginBooks$House", "hasScribe", "(I)Z"⟩, 8), (⟨"MarginBooks$House", "bentOf", "(I)I"⟩, 8), (⟨"MarginBooks$House", "becomes", "(II)I"⟩, 8), (⟨"MarginBooks$Standing", "begin", "(I)V"⟩, 2), (⟨"MarginBooks$Standing", "put", "(II)V"⟩, 2), (⟨"MarginBooks$Margins", "empty", "()I"⟩, 3), (⟨"MarginBooks$House", "hasLine", "(I)Z"⟩, 8), (⟨"MarginBooks$Standing", "book", "()I"⟩, 2), (⟨"MarginBooks$Standing", "at", "(I)I"⟩, 2), (⟨"MarginBooks$House", "lineOf", "(II)I"⟩, 8)]
theorem lw_r2 : ∀ q ∈ lw_privs_2, lw_okq q := List.forall_mem_cons.mpr ⟨lw_p16, List.forall_mem_cons.mpr ⟨lw_p17, List.forall_mem_cons.mpr ⟨lw_p18, List.forall_mem_cons.mpr ⟨lw_p19, List.forall_mem_cons.mpr ⟨lw_p20, List.forall_mem_cons.mpr ⟨lw_p21, List.forall_mem_cons.mpr ⟨lw_p22, List.forall_mem_cons.mpr ⟨lw_p23, List.forall_mem_cons.mpr ⟨lw_p24, List.forall_mem_cons.mpr ⟨lw_p25, List.forall_mem_cons.mpr ⟨lw_p26, List.forall_mem_cons.mpr ⟨lw_p27, List.forall_mem_cons.mpr ⟨lw_p28, List.forall_mem_cons.mpr ⟨lw_p29, List.forall_mem_cons.mpr ⟨lw_p30, List.forall_mem_cons.mpr ⟨lw_p31, fun _ h => absurd h List.not_mem_nil⟩⟩⟩⟩⟩⟩⟩⟩⟩⟩⟩⟩⟩⟩⟩⟩
theorem lw_p32 : lw_okq (⟨"MarginBooks$House", "weightOf", "(I)I"⟩, 8) := ⟨⟨by decide +kernel, by decide +kernel⟩, List.mem_of_getElem? (i := 23) (by decide +kernel), List.mem_of_getElem? (i := 441) (by decide +kernel), List.mem_of_getElem? (i := 442) (by decide +kernel)⟩
theorem lw_p33 : lw_okq (⟨"MarginBooks$Standing", "isReleased", "(I)Z"⟩, 2) := ⟨⟨by decide +kernel, by decide +kernel⟩, List.mem_of_getElem? (i := 120) (by decide +kernel), List.mem_of_getElem? (i := 452) (by decide +kernel), List.mem_of_getElem? (i := 453) (by decide +kernel)⟩
theorem lw_p34 : lw_okq (⟨"MarginBooks$Standing", "released", "()I"⟩, 2) := ⟨⟨by decide +kernel, by decide +kernel⟩, List.mem_of_getElem? (i := 120) (by decide +kernel), List.mem_of_getElem? (i := 456) (by decide +kernel), List.mem_of_getElem? (i := 457) (by decide +kernel)⟩
theorem lw_p35 : lw_okq (⟨"MarginBooks$Standing", "timesOf", "(I)I"⟩, 2) := ⟨⟨by decide +kernel, by decide +kernel⟩, List.mem_of_getElem? (i := 120) (by decide +kernel), List.mem_of_getElem? (i := 460) (by decide +kernel), List.mem_of_getElem? (i := 461) (by decide +kernel)⟩
theorem lw_p36 : lw_okq (⟨"MarginBooks$House", "comesRound", "(II)I"⟩, 8) := ⟨⟨by decide +kernel, by decide +kernel⟩, List.mem_of_getElem? (i := 23) (by decide +kernel), List.mem_of_getElem? (i := 466) (by decide +kernel), List.mem_of_getElem? (i := 467) (by decide +kernel)⟩
theorem lw_p37 : lw_okq (⟨"MarginBooks$Standing", "copiesNow", "()I"⟩, 2) := ⟨⟨by decide +kernel, by decide +kernel⟩, List.mem_of_getElem? (i := 120) (by decide +kernel), List.mem_of_getElem? (i := 481) (by decide +kernel), List.mem_of_getElem? (i := 482) (by decide +kernel)⟩
theorem lw_p38 : lw_okq (⟨"MarginBooks$Standing", "remember", "()V"⟩, 2) := ⟨⟨by decide +kernel, by decide +kernel⟩, List.mem_of_getElem? (i := 120) (by decide +kernel), List.mem_of_getElem? (i := 485) (by decide +kernel), List.mem_of_getElem? (i := 486) (by decide +kernel)⟩
theorem lw_p39 : lw_okq (⟨"MarginBooks$Standing", "copyRow", "(I[[II)V"⟩, 2) := ⟨⟨by decide +kernel, by decide +kernel⟩, List.mem_of_getElem? (i := 120) (by decide +kernel), List.mem_of_getElem? (i := 489) (by decide +kernel), List.mem_of_getElem? (i := 490) (by decide +kernel)⟩
theorem lw_p40 : lw_okq (⟨"MarginBooks$Standing", "copied", "(II)V"⟩, 2) := ⟨⟨by decide +kernel, by decide +kernel⟩, List.mem_of_getElem? (i := 120) (by decide +kernel), List.mem_of_getElem? (i := 497) (by decide +kernel), List.mem_of_getElem? (i := 498) (by decide +kernel)⟩
theorem lw_p41 : lw_okq (⟨"MarginBooks$House", "withLine", "(III)I"⟩, 8) := ⟨⟨by decide +kernel, by decide +kernel⟩, List.mem_of_getElem? (i := 23) (by decide +kernel), List.mem_of_getElem? (i := 507) (by decide +kernel), List.mem_of_getElem? (i := 508) (by decide +kernel)⟩
theorem lw_p42 : lw_okq (⟨"MarginBooks$Standing", "setBook", "(I)V"⟩, 2) := ⟨⟨by decide +kernel, by decide +kernel⟩, List.mem_of_getElem? (i := 120) (by decide +kernel), List.mem_of_getElem? (i := 512) (by decide +kernel), List.mem_of_getElem? (i := 513) (by decide +kernel)⟩
theorem lw_p43 : lw_okq (⟨"MarginBooks$Standing", "turnReleased", "(I)V"⟩, 2) := ⟨⟨by decide +kernel, by decide +kernel⟩, List.mem_of_getElem? (i := 120) (by decide +kernel), List.mem_of_getElem? (i := 520) (by decide +kernel), List.mem_of_getElem? (i := 521) (by decide +kernel)⟩
theorem lw_p44 : lw_okq (⟨"MarginBooks$Standing", "takeBack", "()Z"⟩, 2) := ⟨⟨by decide +kernel, by decide +kernel⟩, List.mem_of_getElem? (i := 120) (by decide +kernel), List.mem_of_getElem? (i := 534) (by decide +kernel), List.mem_of_getElem? (i := 535) (by decide +kernel)⟩
theorem lw_p45 : lw_okq (⟨"MarginBooks", "convinced", "()I"⟩, 14) := ⟨⟨by decide +kernel, by decide +kernel⟩, List.mem_of_getElem? (i := 15) (by decide +kernel), List.mem_of_getElem? (i := 542) (by decide +kernel), List.mem_of_getElem? (i := 543) (by decide +kernel)⟩
theorem lw_p46 : lw_okq (⟨"MarginBooks$Ways", "lastCopiers", "(I)I"⟩, 6) := ⟨⟨by decide +kernel, by decide +kernel⟩, List.mem_of_getElem? (i := 162) (by decide +kernel), List.mem_of_getElem? (i := 546) (by decide +kernel), List.mem_of_getElem? (i := 547) (by decide +kernel)⟩
theorem lw_p47 : lw_okq (⟨"MarginBooks$Ways", "countBefore", "(II)I"⟩, 6) := ⟨⟨by decide +kernel, by decide +kernel⟩, List.mem_of_getElem? (i := 162) (by decide +kernel), List.mem_of_getElem? (i := 550) (by decide +kernel), List.mem_of_getElem? (i := 551) (by decide +kernel)⟩
def lw_privs_3 : List (MethodName × Nat) := [(⟨"MarginBooks$House", "weightOf", "(I)I"⟩, 8), (⟨"MarginBooks$Standing", "isReleased", "(I)Z"⟩, 2), (⟨"MarginBooks$Standing", "released", "()I"⟩, 2), (⟨"MarginBooks$Standing", "timesOf", "(I)I"⟩, 2), (⟨"MarginBooks$House", "comesRound", "(II)I"⟩, 8), (⟨"MarginBooks$Standing", "copiesNow", "()I"⟩, 2), (⟨"MarginBooks$Standing", "remember", "()V"⟩, 2), (⟨"MarginBooks$Standing", "copyRow", "(I[[II)V"⟩, 2), (⟨"MarginBooks$Standing", "copied", "(II)V"⟩, 2), (⟨"MarginBooks$House", "withLine", "(III)I"⟩, 8), (⟨"MarginBooks$Standing", "setBook", "(I)V"⟩, 2), (⟨"MarginBooks$Standing", "turnReleased", "(I)V"⟩, 2), (⟨"MarginBooks$Standing", "takeBack", "()Z"⟩, 2), (⟨"MarginBooks", "convinced", "()I"⟩, 14), (⟨"MarginBooks$Ways", "lastCopiers", "(I)I"⟩, 6), (⟨"MarginBooks$Ways", "countBefore", "(II)I"⟩, 6)]
theorem lw_r3 : ∀ q ∈ lw_privs_3, lw_okq q := List.forall_mem_cons.mpr ⟨lw_p32, List.forall_mem_cons.mpr ⟨lw_p33, List.forall_mem_cons.mpr ⟨lw_p34, List.forall_mem_cons.mpr ⟨lw_p35, List.forall_mem_cons.mpr ⟨lw_p36, List.forall_mem_cons.mpr ⟨lw_p37, List.forall_mem_cons.mpr ⟨lw_p38, List.forall_mem_cons.mpr ⟨lw_p39, List.forall_mem_cons.mpr ⟨lw_p40, List.forall_mem_cons.mpr ⟨lw_p41, List.forall_mem_cons.mpr ⟨lw_p42, List.forall_mem_cons.mpr ⟨lw_p43, List.forall_mem_cons.mpr ⟨lw_p44, List.forall_mem_cons.mpr ⟨lw_p45, List.forall_mem_cons.mpr ⟨lw_p46, List.forall_mem_cons.mpr ⟨lw_p47, fun _ h => absurd h List.not_mem_nil⟩⟩⟩⟩⟩⟩⟩⟩⟩⟩⟩⟩⟩⟩⟩⟩
theorem lw_p48 : lw_okq (⟨"MarginBooks$Laws", "copyBy", "(II)I"⟩, 3) := ⟨⟨by decide +kernel, by decide +kernel⟩, List.mem_of_getElem? (i := 100) (by decide +kernel), List.mem_of_getElem? (i := 554) (by decide +kernel), List.mem_of_getElem? (i := 555) (by decide +kernel)⟩
theorem lw_p49 : lw_okq (⟨"MarginBooks$Ways", "sameLines", "(LMarginBooks$House;I)I"⟩, 6) := ⟨⟨by decide +kernel, by decide +kernel⟩, List.mem_of_getElem? (i := 162) (by decide +kernel), List.mem_of_getElem? (i := 558) (by decide +kernel), List.mem_of_getElem? (i := 559) (by decide +kernel)⟩
theorem lw_p50 : lw_okq (⟨"MarginBooks$Margins", "fittingScribes", "(LMarginBooks$House;)I"⟩, 3) := ⟨⟨by decide +kernel, by decide +kernel⟩, List.mem_of_getElem? (i := 187) (by decide +kernel), List.mem_of_getElem? (i := 566) (by decide +kernel), List.mem_of_getElem? (i := 567) (by decide +kernel)⟩
theorem lw_p51 : lw_okq (⟨"MarginBooks$Margins", "fits", "(III)Z"⟩, 3) := ⟨⟨by decide +kernel, by decide +kernel⟩, List.mem_of_getElem? (i := 187) (by decide +kernel), List.mem_of_getElem? (i := 572) (by decide +kernel), List.mem_of_getElem? (i := 573) (by decide +kernel)⟩
theorem lw_p52 : lw_okq (⟨"MarginBooks", "bought", "()I"⟩, 14) := ⟨⟨by decide +kernel, by decide +kernel⟩, List.mem_of_getElem? (i := 15) (by decide +kernel), List.mem_of_getElem? (i := 581) (by decide +kernel), List.mem_of_getElem? (i := 582) (by decide +kernel)⟩
theorem lw_p53 : lw_okq (⟨"MarginBooks$House", "allScribes", "()I"⟩, 8) := ⟨⟨by decide +kernel, by decide +kernel⟩, List.mem_of_getElem? (i := 23) (by decide +kernel), List.mem_of_getElem? (i := 585) (by decide +kernel), List.mem_of_getElem? (i := 586) (by decide +kernel)⟩
theorem lw_p54 : lw_okq (⟨"MarginBooks$Rounds", "run", "(III)V"⟩, 5) := ⟨⟨by decide +kernel, by decide +kernel⟩, List.mem_of_getElem? (i := 136) (by decide +kernel), List.mem_of_getElem? (i := 589) (by decide +kernel), List.mem_of_getElem? (i := 590) (by decide +kernel)⟩
theorem lw_p55 : lw_okq (⟨"MarginBooks$Rounds", "runToEnd", "(II)V"⟩, 5) := ⟨⟨by decide +kernel, by decide +kernel⟩, List.mem_of_getElem? (i := 136) (by decide +kernel), List.mem_of_getElem? (i := 601) (by decide +kernel), List.mem_of_getElem? (i := 602) (by decide +kernel)⟩
theorem lw_p56 : lw_okq (⟨"MarginBooks$Rounds", "longestBook", "(I)I"⟩, 5) := ⟨⟨by decide +kernel, by decide +kernel⟩, List.mem_of_getElem? (i := 136) (by decide +kernel), List.mem_of_getElem? (i := 610) (by decide +kernel), List.mem_of_getElem? (i := 611) (by decide +kernel)⟩
theorem lw_p57 : lw_okq (⟨"MarginBooks$Rounds", "fewestToBuy", "(IIII)I"⟩, 5) := ⟨⟨by decide +kernel, by decide +kernel⟩, List.mem_of_getElem? (i := 136) (by decide +kernel), List.mem_of_getElem? (i := 619) (by decide +kernel), List.mem_of_getElem? (i := 620) (by decide +kernel)⟩
theorem lw_p58 : lw_okq (⟨"MarginBooks$Rounds", "reaches", "(III)Z"⟩, 5) := ⟨⟨by decide +kernel, by decide +kernel⟩, List.mem_of_getElem? (i := 136) (by decide +kernel), List.mem_of_getElem? (i := 624) (by decide +kernel), List.mem_of_getElem? (i := 625) (by decide +kernel)⟩
theorem lw_p59 : lw_okq (⟨"MarginBooks$Ways", "search", "(III)V"⟩, 6) := ⟨⟨by decide +kernel, by decide +kernel⟩, List.mem_of_getElem? (i := 162) (by decide +kernel), List.mem_of_getElem? (i := 643) (by decide +kernel), List.mem_of_getElem? (i := 644) (by decide +kernel)⟩
theorem lw_p60 : lw_okq (⟨"MarginBooks$Ways", "find", "(IIII)V"⟩, 6) := ⟨⟨by decide +kernel, by decide +kernel⟩, List.mem_of_getElem? (i := 162) (by decide +kernel), List.mem_of_getElem? (i := 647) (by decide +kernel), List.mem_of_getElem? (i := 648) (by decide +kernel)⟩
theorem lw_p61 : lw_okq (⟨"MarginBooks$Ways", "isFound", "(I)Z"⟩, 6) := ⟨⟨by decide +kernel, by decide +kernel⟩, List.mem_of_getElem? (i := 162) (by decide +kernel), List.mem_of_getElem? (i := 654) (by decide +kernel), List.mem_of_getElem? (i := 655) (by decide +kernel)⟩
theorem lw_p62 : lw_okq (⟨"MarginBooks$Ways", "distanceOf", "(I)I"⟩, 6) := ⟨⟨by decide +kernel, by decide +kernel⟩, List.mem_of_getElem? (i := 162) (by decide +kernel), List.mem_of_getElem? (i := 658) (by decide +kernel), List.mem_of_getElem? (i := 659) (by decide +kernel)⟩
theorem lw_p63 : lw_okq (⟨"MarginBooks$Ways", "fewestCopies", "(I)I"⟩, 6) := ⟨⟨by decide +kernel, by decide +kernel⟩, List.mem_of_getElem? (i := 162) (by decide +kernel), List.mem_of_getElem? (i := 662) (by decide +kernel), List.mem_of_getElem? (i := 663) (by decide +kernel)⟩
def lw_privs_4 : List (MethodName × Nat) := [(⟨"MarginBooks$Laws", "copyBy", "(II)I"⟩, 3), (⟨"MarginBooks$Ways", "sameLines", "(LMarginBooks$House;I)I"⟩, 6), (⟨"MarginBooks$Margins", "fittingScribes", "(LMarginBooks$House;)I"⟩, 3), (⟨"MarginBooks$Margins", "fits", "(III)Z"⟩, 3), (⟨"MarginBooks", "bought", "()I"⟩, 14), (⟨"MarginBooks$House", "allScribes", "()I"⟩, 8), (⟨"MarginBooks$Rounds", "run", "(III)V"⟩, 5), (⟨"MarginBooks$Rounds", "runToEnd", "(II)V"⟩, 5), (⟨"MarginBooks$Rounds", "longestBook", "(I)I"⟩, 5), (⟨"MarginBooks$Rounds", "fewestToBuy", "(IIII)I"⟩, 5), (⟨"MarginBooks$Rounds", "reaches", "(III)Z"⟩, 5), (⟨"MarginBooks$Ways", "search", "(III)V"⟩, 6), (⟨"MarginBooks$Ways", "find", "(IIII)V"⟩, 6), (⟨"MarginBooks$Ways", "isFound", "(I)Z"⟩, 6), (⟨"MarginBooks$Ways", "distanceOf", "(I)I"⟩, 6), (⟨"MarginBooks$Ways", "fewestCopies", "(I)I"⟩, 6)]
theorem lw_r4 : ∀ q ∈ lw_privs_4, lw_okq q := List.forall_mem_cons.mpr ⟨lw_p48, List.forall_mem_cons.mpr ⟨lw_p49, List.forall_mem_cons.mpr ⟨lw_p50, List.forall_mem_cons.mpr ⟨lw_p51, List.forall_mem_cons.mpr ⟨lw_p52, List.forall_mem_cons.mpr ⟨lw_p53, List.forall_mem_cons.mpr ⟨lw_p54, List.forall_mem_cons.mpr ⟨lw_p55, List.forall_mem_cons.mpr ⟨lw_p56, List.forall_mem_cons.mpr ⟨lw_p57, List.forall_mem_cons.mpr ⟨lw_p58, List.forall_mem_cons.mpr ⟨lw_p59, List.forall_mem_cons.mpr ⟨lw_p60, List.forall_mem_cons.mpr ⟨lw_p61, List.forall_mem_cons.mpr ⟨lw_p62, List.forall_mem_cons.mpr ⟨lw_p63, fun _ h => absurd h List.not_mem_nil⟩⟩⟩⟩⟩⟩⟩⟩⟩⟩⟩⟩⟩⟩⟩⟩
theorem lw_p64 : lw_okq (⟨"MarginBooks$Ways", "scribeOfCopy", "(II)I"⟩, 6) := ⟨⟨by decide +kernel, by decide +kernel⟩, List.mem_of_getElem? (i := 162) (by decide +kernel), List.mem_of_getElem? (i := 666) (by decide +kernel), List.mem_of_getElem? (i := 667) (by decide +kernel)⟩
theorem lw_p65 : lw_okq (⟨"MarginBooks$Margins", "add", "(II)Z"⟩, 3) := ⟨⟨by decide +kernel, by decide +kernel⟩, List.mem_of_getElem? (i := 187) (by decide +kernel), List.mem_of_getElem? (i := 679) (by decide +kernel), List.mem_of_getElem? (i := 680) (by decide +kernel)⟩
theorem lw_p66 : lw_okq (⟨"MarginBooks$Margins", "countFits", "(I)I"⟩, 3) := ⟨⟨by decide +kernel, by decide +kernel⟩, List.mem_of_getElem? (i := 187) (by decide +kernel), List.mem_of_getElem? (i := 691) (by decide +kernel), List.mem_of_getElem? (i := 692) (by decide +kernel)⟩
theorem lw_p67 : lw_okq (⟨"MarginBooks$Margins", "firstFit", "(I)I"⟩, 3) := ⟨⟨by decide +kernel, by decide +kernel⟩, List.mem_of_getElem? (i := 187) (by decide +kernel), List.mem_of_getElem? (i := 695) (by decide +kernel), List.mem_of_getElem? (i := 696) (by decide +kernel)⟩
theorem lw_p68 : lw_okq (⟨"MarginBooks$Margins", "mostTelling", "(I)I"⟩, 3) := ⟨⟨by decide +kernel, by decide +kernel⟩, List.mem_of_getElem? (i := 187) (by decide +kernel), List.mem_of_getElem? (i := 699) (by decide +kernel), List.mem_of_getElem? (i := 700) (by decide +kernel)⟩
theorem lw_p69 : lw_okq (⟨"MarginBooks$Margins", "answersTo", "(II)I"⟩, 3) := ⟨⟨by decide +kernel, by decide +kernel⟩, List.mem_of_getElem? (i := 187) (by decide +kernel), List.mem_of_getElem? (i := 703) (by decide +kernel), List.mem_of_getElem? (i := 704) (by decide +kernel)⟩
theorem lw_p70 : lw_okq (⟨"MarginBooks$Marks", "ask", "(II)I"⟩, 6) := ⟨⟨by decide +kernel, by decide +kernel⟩, List.mem_of_getElem? (i := 204) (by decide +kernel), List.mem_of_getElem? (i := 716) (by decide +kernel), List.mem_of_getElem? (i := 717) (by decide +kernel)⟩
theorem lw_p71 : lw_okq (⟨"MarginBooks$Standing", "become", "(LMarginBooks$Standing;)V"⟩, 2) := ⟨⟨by decide +kernel, by decide +kernel⟩, List.mem_of_getElem? (i := 120) (by decide +kernel), List.mem_of_getElem? (i := 730) (by decide +kernel), List.mem_of_getElem? (i := 731) (by decide +kernel)⟩
theorem lw_p72 : lw_okq (⟨"MarginBooksModel", "plain", "()V"⟩, 26) := ⟨⟨by decide +kernel, by decide +kernel⟩, List.mem_of_getElem? (i := 746) (by decide +kernel), List.mem_of_getElem? (i := 752) (by decide +kernel), List.mem_of_getElem? (i := 753) (by decide +kernel)⟩
theorem lw_p73 : lw_okq (⟨"MarginBooksModel", "takeDraft", "()V"⟩, 26) := ⟨⟨by decide +kernel, by decide +kernel⟩, List.mem_of_getElem? (i := 746) (by decide +kernel), List.mem_of_getElem? (i := 756) (by decide +kernel), List.mem_of_getElem? (i := 757) (by decide +kernel)⟩
theorem lw_p74 : lw_okq (⟨"MarginBooksModel", "step", "()V"⟩, 26) := ⟨⟨by decide +kernel, by decide +kernel⟩, List.mem_of_getElem? (i := 746) (by decide +kernel), List.mem_of_getElem? (i := 856) (by decide +kernel), List.mem_of_getElem? (i := 857) (by decide +kernel)⟩
theorem lw_p75 : lw_okq (⟨"MarginBooksModel", "here", "()I"⟩, 26) := ⟨⟨by decide +kernel, by decide +kernel⟩, List.mem_of_getElem? (i := 746) (by decide +kernel), List.mem_of_getElem? (i := 860) (by decide +kernel), List.mem_of_getElem? (i := 861) (by decide +kernel)⟩
theorem lw_p76 : lw_okq (⟨"MarginBooksModel", "mayBe", "(II)Z"⟩, 26) := ⟨⟨by decide +kernel, by decide +kernel⟩, List.mem_of_getElem? (i := 746) (by decide +kernel), List.mem_of_getElem? (i := 864) (by decide +kernel), List.mem_of_getElem? (i := 865) (by decide +kernel)⟩
theorem lw_p77 : lw_okq (⟨"MarginBooksModel", "due", "(Z)I"⟩, 26) := ⟨⟨by decide +kernel, by decide +kernel⟩, List.mem_of_getElem? (i := 746) (by decide +kernel), List.mem_of_getElem? (i := 868) (by decide +kernel), List.mem_of_getElem? (i := 869) (by decide +kernel)⟩
theorem lw_p78 : lw_okq (⟨"MarginBooksModel", "readRow", "(I)V"⟩, 26) := ⟨⟨by decide +kernel, by decide +kernel⟩, List.mem_of_getElem? (i := 746) (by decide +kernel), List.mem_of_getElem? (i := 872) (by decide +kernel), List.mem_of_getElem? (i := 873) (by decide +kernel)⟩
theorem lw_p79 : lw_okq (⟨"MarginBooksModel", "number", "(II)I"⟩, 26) := ⟨⟨by decide +kernel, by decide +kernel⟩, List.mem_of_getElem? (i := 746) (by decide +kernel), List.mem_of_getElem? (i := 876) (by decide +kernel), List.mem_of_getElem? (i := 877) (by decide +kernel)⟩
def lw_privs_5 : List (MethodName × Nat) := [(⟨"MarginBooks$Ways", "scribeOfCopy", "(II)I"⟩, 6), (⟨"MarginBooks$Margins", "add", "(II)Z"⟩, 3), (⟨"MarginBooks$Margins", "countFits", "(I)I"⟩, 3), (⟨"MarginBooks$Margins", "firstFit", "(I)I"⟩, 3), (⟨"MarginBooks$Margins", "mostTelling", "(I)I"⟩, 3), (⟨"MarginBooks$Margins", "answersTo", "(II)I"⟩, 3), (⟨"MarginBooks$Marks", "ask", "(II)I"⟩, 6), (⟨"MarginBooks$Standing", "become", "(LMarginBooks$Standing;)V"⟩, 2), (⟨"MarginBooksModel", "plain", "()V"⟩, 26), (⟨"MarginBooksModel", "takeDraft", "()V"⟩, 26), (⟨"MarginBooksModel", "step", "()V"⟩, 26), (⟨"MarginBooksModel", "here", "()I"⟩, 26), (⟨"MarginBooksModel", "mayBe", "(II)Z"⟩, 26), (⟨"MarginBooksModel", "due", "(Z)I"⟩, 26), (⟨"MarginBooksModel", "readRow", "(I)V"⟩, 26), (⟨"MarginBooksModel", "number", "(II)I"⟩, 26)]
theorem lw_r5 : ∀ q ∈ lw_privs_5, lw_okq q := List.forall_mem_cons.mpr ⟨lw_p64, List.forall_mem_cons.mpr ⟨lw_p65, List.forall_mem_cons.mpr ⟨lw_p66, List.forall_mem_cons.mpr ⟨lw_p67, List.forall_mem_cons.mpr ⟨lw_p68, List.forall_mem_cons.mpr ⟨lw_p69, List.forall_mem_cons.mpr ⟨lw_p70, List.forall_mem_cons.mpr ⟨lw_p71, List.forall_mem_cons.mpr ⟨lw_p72, List.forall_mem_cons.mpr ⟨lw_p73, List.forall_mem_cons.mpr ⟨lw_p74, List.forall_mem_cons.mpr ⟨lw_p75, List.forall_mem_cons.mpr ⟨lw_p76, List.forall_mem_cons.mpr ⟨lw_p77, List.forall_mem_cons.mpr ⟨lw_p78, List.forall_mem_cons.mpr ⟨lw_p79, fun _ h => absurd h List.not_mem_nil⟩⟩⟩⟩⟩⟩⟩⟩⟩⟩⟩⟩⟩⟩⟩⟩
theorem lw_p80 : lw_okq (⟨"MarginBooksModel", "isLine", "(I)Z"⟩, 26) := ⟨⟨by decide +kernel, by decide +kernel⟩, List.mem_of_getElem? (i := 746) (by decide +kernel), List.mem_of_getElem? (i := 884) (by decide +kernel), List.mem_of_getElem? (i := 885) (by decide +kernel)⟩
theorem lw_p81 : lw_okq (⟨"MarginBooksModel", "lineOf", "(II)I"⟩, 26) := ⟨⟨by decide +kernel, by decide +kernel⟩, List.mem_of_getElem? (i := 746) (by decide +kernel), List.mem_of_getElem? (i := 888) (by decide +kernel), List.mem_of_getElem? (i := 889) (by decide +kernel)⟩
theorem lw_p82 : lw_okq (⟨"MarginBooksModel", "isScribe", "(I)Z"⟩, 26) := ⟨⟨by decide +kernel, by decide +kernel⟩, List.mem_of_getElem? (i := 746) (by decide +kernel), List.mem_of_getElem? (i := 896) (by decide +kernel), List.mem_of_getElem? (i := 897) (by decide +kernel)⟩
theorem lw_p83 : lw_okq (⟨"MarginBooksModel", "disagrees", "(II)I"⟩, 26) := ⟨⟨by decide +kernel, by decide +kernel⟩, List.mem_of_getElem? (i := 746) (by decide +kernel), List.mem_of_getElem? (i := 900) (by decide +kernel), List.mem_of_getElem? (i := 901) (by decide +kernel)⟩
theorem lw_p84 : lw_okq (⟨"MarginBooksModel", "saysOf", "(II)I"⟩, 26) := ⟨⟨by decide +kernel, by decide +kernel⟩, List.mem_of_getElem? (i := 746) (by decide +kernel), List.mem_of_getElem? (i := 904) (by decide +kernel), List.mem_of_getElem? (i := 905) (by decide +kernel)⟩
theorem lw_p85 : lw_okq (⟨"MarginBooksModel", "isConvinced", "(II)Z"⟩, 26) := ⟨⟨by decide +kernel, by decide +kernel⟩, List.mem_of_getElem? (i := 746) (by decide +kernel), List.mem_of_getElem? (i := 908) (by decide +kernel), List.mem_of_getElem? (i := 909) (by decide +kernel)⟩
theorem lw_p86 : lw_okq (⟨"MarginBooksModel", "comes", "(I)I"⟩, 26) := ⟨⟨by decide +kernel, by decide +kernel⟩, List.mem_of_getElem? (i := 746) (by decide +kernel), List.mem_of_getElem? (i := 915) (by decide +kernel), List.mem_of_getElem? (i := 916) (by decide +kernel)⟩
theorem lw_p87 : lw_okq (⟨"MarginBooksModel", "copyOf", "(II)I"⟩, 26) := ⟨⟨by decide +kernel, by decide +kernel⟩, List.mem_of_getElem? (i := 746) (by decide +kernel), List.mem_of_getElem? (i := 919) (by decide +kernel), List.mem_of_getElem? (i := 920) (by decide +kernel)⟩
theorem lw_p88 : lw_okq (⟨"MarginBooksModel", "isOpinion", "(I)Z"⟩, 26) := ⟨⟨by decide +kernel, by decide +kernel⟩, List.mem_of_getElem? (i := 746) (by decide +kernel), List.mem_of_getElem? (i := 927) (by decide +kernel), List.mem_of_getElem? (i := 928) (by decide +kernel)⟩
theorem lw_p89 : lw_okq (⟨"MarginBooksModel", "know", "()V"⟩, 26) := ⟨⟨by decide +kernel, by decide +kernel⟩, List.mem_of_getElem? (i := 746) (by decide +kernel), List.mem_of_getElem? (i := 935) (by decide +kernel), List.mem_of_getElem? (i := 936) (by decide +kernel)⟩
theorem lw_p90 : lw_okq (⟨"MarginBooksModel", "put", "(III)I"⟩, 26) := ⟨⟨by decide +kernel, by decide +kernel⟩, List.mem_of_getElem? (i := 746) (by decide +kernel), List.mem_of_getElem? (i := 943) (by decide +kernel), List.mem_of_getElem? (i := 944) (by decide +kernel)⟩
theorem lw_p91 : lw_okq (⟨"MarginBooksModel", "fromOf", "(I)I"⟩, 26) := ⟨⟨by decide +kernel, by decide +kernel⟩, List.mem_of_getElem? (i := 746) (by decide +kernel), List.mem_of_getElem? (i := 963) (by decide +kernel), List.mem_of_getElem? (i := 964) (by decide +kernel)⟩
theorem lw_p92 : lw_okq (⟨"MarginBooksModel", "books", "()I"⟩, 26) := ⟨⟨by decide +kernel, by decide +kernel⟩, List.mem_of_getElem? (i := 746) (by decide +kernel), List.mem_of_getElem? (i := 967) (by decide +kernel), List.mem_of_getElem? (i := 968) (by decide +kernel)⟩
theorem lw_p93 : lw_okq (⟨"MarginBooksModel", "mayCome", "(II)Z"⟩, 26) := ⟨⟨by decide +kernel, by decide +kernel⟩, List.mem_of_getElem? (i := 746) (by decide +kernel), List.mem_of_getElem? (i := 971) (by decide +kernel), List.mem_of_getElem? (i := 972) (by decide +kernel)⟩
theorem lw_p94 : lw_okq (⟨"MarginBooksModel", "same", "()I"⟩, 26) := ⟨⟨by decide +kernel, by decide +kernel⟩, List.mem_of_getElem? (i := 746) (by decide +kernel), List.mem_of_getElem? (i := 975) (by decide +kernel), List.mem_of_getElem? (i := 976) (by decide +kernel)⟩
theorem lw_p95 : lw_okq (⟨"MarginBooksModel", "isSo", "(II)Z"⟩, 26) := ⟨⟨by decide +kernel, by decide +kernel⟩, List.mem_of_getElem? (i := 746) (by decide +kernel), List.mem_of_getElem? (i := 979) (by decide +kernel), List.mem_of_getElem? (i := 980) (by decide +kernel)⟩
def lw_privs_6 : List (MethodName × Nat) := [(⟨"MarginBooksModel", "isLine", "(I)Z"⟩, 26), (⟨"MarginBooksModel", "lineOf", "(II)I"⟩, 26), (⟨"MarginBooksModel", "isScribe", "(I)Z"⟩, 26), (⟨"MarginBooksModel", "disagrees", "(II)I"⟩, 26), (⟨"MarginBooksModel", "saysOf", "(II)I"⟩, 26), (⟨"MarginBooksModel", "isConvinced", "(II)Z"⟩, 26), (⟨"MarginBooksModel", "comes", "(I)I"⟩, 26), (⟨"MarginBooksModel", "copyOf", "(II)I"⟩, 26), (⟨"MarginBooksModel", "isOpinion", "(I)Z"⟩, 26), (⟨"MarginBooksModel", "know", "()V"⟩, 26), (⟨"MarginBooksModel", "put", "(III)I"⟩, 26), (⟨"MarginBooksModel", "fromOf", "(I)I"⟩, 26), (⟨"MarginBooksModel", "books", "()I"⟩, 26), (⟨"MarginBooksModel", "mayCome", "(II)Z"⟩, 26), (⟨"MarginBooksModel", "same", "()I"⟩, 26), (⟨"MarginBooksModel", "isSo", "(II)Z"⟩, 26)]
theorem lw_r6 : ∀ q ∈ lw_privs_6, lw_okq q := List.forall_mem_cons.mpr ⟨lw_p80, List.forall_mem_cons.mpr ⟨lw_p81, List.forall_mem_cons.mpr ⟨lw_p82, List.forall_mem_cons.mpr ⟨lw_p83, List.forall_mem_cons.mpr ⟨lw_p84, List.forall_mem_cons.mpr ⟨lw_p85, List.forall_mem_cons.mpr ⟨lw_p86, List.forall_mem_cons.mpr ⟨lw_p87, List.forall_mem_cons.mpr ⟨lw_p88, List.forall_mem_cons.mpr ⟨lw_p89, List.forall_mem_cons.mpr ⟨lw_p90, List.forall_mem_cons.mpr ⟨lw_p91, List.forall_mem_cons.mpr ⟨lw_p92, List.forall_mem_cons.mpr ⟨lw_p93, List.forall_mem_cons.mpr ⟨lw_p94, List.forall_mem_cons.mpr ⟨lw_p95, fun _ h => absurd h List.not_mem_nil⟩⟩⟩⟩⟩⟩⟩⟩⟩⟩⟩⟩⟩⟩⟩⟩
theorem lw_p96 : lw_okq (⟨"MarginBooksModel", "boughtIn", "()I"⟩, 26) := ⟨⟨by decide +kernel, by decide +kernel⟩, List.mem_of_getElem? (i := 746) (by decide +kernel), List.mem_of_getElem? (i := 987) (by decide +kernel), List.mem_of_getElem? (i := 988) (by decide +kernel)⟩
theorem lw_p97 : lw_okq (⟨"MarginBooksModel", "go", "(III)V"⟩, 26) := ⟨⟨by decide +kernel, by decide +kernel⟩, List.mem_of_getElem? (i := 746) (by decide +kernel), List.mem_of_getElem? (i := 991) (by decide +kernel), List.mem_of_getElem? (i := 992) (by decide +kernel)⟩
theorem lw_p98 : lw_okq (⟨"MarginBooksModel", "measure", "()V"⟩, 26) := ⟨⟨by decide +kernel, by decide +kernel⟩, List.mem_of_getElem? (i := 746) (by decide +kernel), List.mem_of_getElem? (i := 1015) (by decide +kernel), List.mem_of_getElem? (i := 1016) (by decide +kernel)⟩
def lw_privs_7 : List (MethodName × Nat) := [(⟨"MarginBooksModel", "boughtIn", "()I"⟩, 26), (⟨"MarginBooksModel", "go", "(III)V"⟩, 26), (⟨"MarginBooksModel", "measure", "()V"⟩, 26)]
theorem lw_r7 : ∀ q ∈ lw_privs_7, lw_okq q := List.forall_mem_cons.mpr ⟨lw_p96, List.forall_mem_cons.mpr ⟨lw_p97, List.forall_mem_cons.mpr ⟨lw_p98, fun _ h => absurd h List.not_mem_nil⟩⟩⟩
def lw_privs : List (MethodName × Nat) := lw_privs_1 ++ (lw_privs_2 ++ (lw_privs_3 ++ (lw_privs_4 ++ (lw_privs_5 ++ (lw_privs_6 ++ (lw_privs_7))))))
def lw_tbl : List Cond := k2_sels lw_privs ++ tables_1
theorem lw_privs_ok : ∀ q ∈ lw_privs, lw_okq q := by
  show ∀ q ∈ lw_privs_1 ++ (lw_privs_2 ++ (lw_privs_3 ++ (lw_privs_4 ++ (lw_privs_5 ++ (lw_privs_6 ++ (lw_privs_7)))))), lw_okq q
  exact List.forall_mem_append.mpr ⟨lw_r1, List.forall_mem_append.mpr ⟨lw_r2, List.forall_mem_append.mpr ⟨lw_r3, List.forall_mem_append.mpr ⟨lw_r4, List.forall_mem_append.mpr ⟨lw_r5, List.forall_mem_append.mpr ⟨lw_r6, lw_r7⟩⟩⟩⟩⟩⟩
end
section
/-! ===== BEGIN printed: names, fields, word lists, decode rows ===== -/
def RX0 : String := "MarginBooks$House"
def TX0 : u_T := fun k => match k with
  | 0 => ("MarginBooks$House", "opinions", "I", false)
  | 1 => ("MarginBooks$House", "lines", "I", false)
  | 2 => ("MarginBooks$House", "books", "I", false)
  | 3 => ("MarginBooks$House", "told", "I", false)
  | 4 => ("MarginBooks$House", "scribes", "I", false)
  | 5 => ("MarginBooks$House", "need", "I", false)
  | 6 => ("MarginBooks$House", "turn", "[I", true)
  | _ => ("MarginBooks$House", "bent", "[I", true)
def tyX0 : Nat → FieldType := fun k => match k with
  | 0 => .int
  | 1 => .int
  | 2 => .int
  | 3 => .int
  | 4 => .int
  | 5 => .int
  | 6 => .array .int
  | _ => .array .int
abbrev wsX00 : List Cond := u_ws RX0 TX0 8
theorem nmX0 : ∀ a, a < 8 → ∀ b, b < 8 → a ≠ b → (TX0 a).2.1 ≠ (TX0 b).2.1 := by decide +kernel
theorem tyX0_ok : ∀ k, k < 8 → parseFieldDescriptor (TX0 k).2.2.1 = some (tyX0 k) := by decide +kernel
abbrev cX0_init : ByteArray := prog_2_method_1_code
def yX0_init : MethodName := ⟨RX0, "<init>", "()V"⟩
abbrev cX0_begin : ByteArray := prog_2_method_2_code
def yX0_begin : MethodName := ⟨RX0, "begin", "()V"⟩
abbrev cX0_addLine : ByteArray := prog_2_method_3_code
def yX0_addLine : MethodName := ⟨RX0, "addLine", "(I)V"⟩
abbrev cX0_addScribe : ByteArray := prog_2_method_4_code
def yX0_addScribe : MethodName := ⟨RX0, "addScribe", "(II)V"⟩
abbrev cX0_hasOpinion : ByteArray := prog_2_method_5_code
def yX0_hasOpinion : MethodName := ⟨RX0, "hasOpinion", "(I)Z"⟩
abbrev cX0_hasLine : ByteArray := prog_2_method_6_code
def yX0_hasLine : MethodName := ⟨RX0, "hasLine", "(I)Z"⟩
abbrev cX0_hasScribe : ByteArray := prog_2_method_7_code
def yX0_hasScribe : MethodName := ⟨RX0, "hasScribe", "(I)Z"⟩
abbrev cX0_allScribes : ByteArray := prog_2_method_8_code
def yX0_allScribes : MethodName := ⟨RX0, "allScribes", "()I"⟩
abbrev cX0_turnOf : ByteArray := prog_2_method_9_code
def yX0_turnOf : MethodName := ⟨RX0, "turnOf", "(I)I"⟩
abbrev cX0_bentOf : ByteArray := prog_2_method_10_code
def yX0_bentOf : MethodName := ⟨RX0, "bentOf", "(I)I"⟩
abbrev cX0_saidBy : ByteArray := prog_2_method_11_code
def yX0_saidBy : MethodName := ⟨RX0, "saidBy", "(II)I"⟩
abbrev cX0_weightOf : ByteArray := prog_2_method_12_code
def yX0_weightOf : MethodName := ⟨RX0, "weightOf", "(I)I"⟩
abbrev cX0_lineOf : ByteArray := prog_2_method_13_code
def yX0_lineOf : MethodName := ⟨RX0, "lineOf", "(II)I"⟩
abbrev cX0_withLine : ByteArray := prog_2_method_14_code
def yX0_withLine : MethodName := ⟨RX0, "withLine", "(III)I"⟩
abbrev cX0_becomes : ByteArray := prog_2_method_15_code
def yX0_becomes : MethodName := ⟨RX0, "becomes", "(II)I"⟩
abbrev cX0_unlikeLines : ByteArray := prog_2_method_16_code
def yX0_unlikeLines : MethodName := ⟨RX0, "unlikeLines", "(II)I"⟩
abbrev cX0_isConvinced : ByteArray := prog_2_method_17_code
def yX0_isConvinced : MethodName := ⟨RX0, "isConvinced", "(II)Z"⟩
abbrev cX0_comesRound : ByteArray := prog_2_method_18_code
def yX0_comesRound : MethodName := ⟨RX0, "comesRound", "(II)I"⟩
abbrev cX0_said : ByteArray := prog_2_method_19_code
def yX0_said : MethodName := ⟨RX0, "said", "(IIII)I"⟩
def RX1 : String := "MarginBooks$Laws"
def TX1 : u_T := fun k => match k with
  | 0 => ("MarginBooks$Laws", "made", "[I", true)
  | 1 => ("MarginBooks$Laws", "scribes", "I", false)
  | _ => ("MarginBooks$Laws", "books", "I", false)
def tyX1 : Nat → FieldType := fun k => match k with
  | 0 => .array .int
  | 1 => .int
  | _ => .int
abbrev wsX10 : List Cond := u_ws RX1 TX1 3
theorem nmX1 : ∀ a, a < 3 → ∀ b, b < 3 → a ≠ b → (TX1 a).2.1 ≠ (TX1 b).2.1 := by decide +kernel
theorem tyX1_ok : ∀ k, k < 3 → parseFieldDescriptor (TX1 k).2.2.1 = some (tyX1 k) := by decide +kernel
abbrev cX1_init : ByteArray := prog_3_method_1_code
def yX1_init : MethodName := ⟨RX1, "<init>", "()V"⟩
abbrev cX1_learn : ByteArray := prog_3_method_2_code
def yX1_learn : MethodName := ⟨RX1, "learn", "(LMarginBooks$House;)V"⟩
abbrev cX1_copyBy : ByteArray := prog_3_method_3_code
def yX1_copyBy : MethodName := ⟨RX1, "copyBy", "(II)I"⟩
def RX2 : String := "MarginBooks$Margins"
def TX2 : u_T := fun k => match k with
  | 0 => ("MarginBooks$Margins", "of", "[I", true)
  | 1 => ("MarginBooks$Margins", "said", "[I", true)
  | _ => ("MarginBooks$Margins", "size", "I", false)
def tyX2 : Nat → FieldType := fun k => match k with
  | 0 => .array .int
  | 1 => .array .int
  | _ => .int
abbrev wsX20 : List Cond := u_ws RX2 TX2 3
theorem nmX2 : ∀ a, a < 3 → ∀ b, b < 3 → a ≠ b → (TX2 a).2.1 ≠ (TX2 b).2.1 := by decide +kernel
theorem tyX2_ok : ∀ k, k < 3 → parseFieldDescriptor (TX2 k).2.2.1 = some (tyX2 k) := by decide +kernel
abbrev cX2_init : ByteArray := prog_4_method_1_code
def yX2_init : MethodName := ⟨RX2, "<init>", "()V"⟩
abbrev cX2_add : ByteArray := prog_4_method_2_code
def yX2_add : MethodName := ⟨RX2, "add", "(II)Z"⟩
abbrev cX2_empty : ByteArray := prog_4_method_3_code
def yX2_empty : MethodName := ⟨RX2, "empty", "()I"⟩
abbrev cX2_fits : ByteArray := prog_4_method_4_code
def yX2_fits : MethodName := ⟨RX2, "fits", "(III)Z"⟩
abbrev cX2_countFits : ByteArray := prog_4_method_5_code
def yX2_countFits : MethodName := ⟨RX2, "countFits", "(I)I"⟩
abbrev cX2_firstFit : ByteArray := prog_4_method_6_code
def yX2_firstFit : MethodName := ⟨RX2, "firstFit", "(I)I"⟩
abbrev cX2_mostTelling : ByteArray := prog_4_method_7_code
def yX2_mostTelling : MethodName := ⟨RX2, "mostTelling", "(I)I"⟩
abbrev cX2_answersTo : ByteArray := prog_4_method_8_code
def yX2_answersTo : MethodName := ⟨RX2, "answersTo", "(II)I"⟩
abbrev cX2_fittingScribes : ByteArray := prog_4_method_9_code
def yX2_fittingScribes : MethodName := ⟨RX2, "fittingScribes", "(LMarginBooks$House;)I"⟩
def RX3 : String := "MarginBooks$Marks"
def TX3 : u_T := fun k => match k with
  | 0 => ("MarginBooks$Marks", "unlike", "I", false)
  | 1 => ("MarginBooks$Marks", "turn", "I", false)
  | 2 => ("MarginBooks$Marks", "bent", "I", false)
  | 3 => ("MarginBooks$Marks", "times", "I", false)
  | 4 => ("MarginBooks$Marks", "copies", "I", false)
  | _ => ("MarginBooks$Marks", "traced", "J", false)
def tyX3 : Nat → FieldType := fun k => match k with
  | 0 => .int
  | 1 => .int
  | 2 => .int
  | 3 => .int
  | 4 => .int
  | _ => .long
abbrev wsX30 : List Cond := u_ws RX3 TX3 6
theorem nmX3 : ∀ a, a < 6 → ∀ b, b < 6 → a ≠ b → (TX3 a).2.1 ≠ (TX3 b).2.1 := by decide +kernel
theorem tyX3_ok : ∀ k, k < 6 → parseFieldDescriptor (TX3 k).2.2.1 = some (tyX3 k) := by decide +kernel
abbrev cX3_init : ByteArray := prog_5_method_1_code
def yX3_init : MethodName := ⟨RX3, "<init>", "()V"⟩
abbrev cX3_isKind : ByteArray := prog_5_method_2_code
def yX3_isKind : MethodName := ⟨RX3, "isKind", "(I)Z"⟩
abbrev cX3_ask : ByteArray := prog_5_method_3_code
def yX3_ask : MethodName := ⟨RX3, "ask", "(II)I"⟩
def RX4 : String := "MarginBooks$Reader"
def TX4 : u_T := fun k => match k with
  | 0 => ("MarginBooks$Reader", "text", "[I", true)
  | 1 => ("MarginBooks$Reader", "length", "I", false)
  | 2 => ("MarginBooks$Reader", "next", "I", false)
  | 3 => ("MarginBooks$Reader", "place", "I", false)
  | 4 => ("MarginBooks$Reader", "sort", "I", false)
  | 5 => ("MarginBooks$Reader", "value", "I", false)
  | 6 => ("MarginBooks$Reader", "bookTold", "Z", false)
  | _ => ("MarginBooks$Reader", "needTold", "Z", false)
def tyX4 : Nat → FieldType := fun k => match k with
  | 0 => .array .int
  | 1 => .int
  | 2 => .int
  | 3 => .int
  | 4 => .int
  | 5 => .int
  | 6 => .boolean
  | _ => .boolean
abbrev wsX40 : List Cond := u_ws RX4 TX4 8
theorem nmX4 : ∀ a, a < 8 → ∀ b, b < 8 → a ≠ b → (TX4 a).2.1 ≠ (TX4 b).2.1 := by decide +kernel
theorem tyX4_ok : ∀ k, k < 8 → parseFieldDescriptor (TX4 k).2.2.1 = some (tyX4 k) := by decide +kernel
abbrev cX4_init : ByteArray := prog_6_method_1_code
def yX4_init : MethodName := ⟨RX4, "<init>", "()V"⟩
abbrev cX4_add : ByteArray := prog_6_method_2_code
def yX4_add : MethodName := ⟨RX4, "add", "(I)Z"⟩
abbrev cX4_empty : ByteArray := prog_6_method_3_code
def yX4_empty : MethodName := ⟨RX4, "empty", "()I"⟩
abbrev cX4_read : ByteArray := prog_6_method_4_code
def yX4_read : MethodName := ⟨RX4, "read", "(LMarginBooks$House;)I"⟩
abbrev cX4_readOpinions : ByteArray := prog_6_method_5_code
def yX4_readOpinions : MethodName := ⟨RX4, "readOpinions", "(LMarginBooks$House;)Z"⟩
abbrev cX4_readBook : ByteArray := prog_6_method_6_code
def yX4_readBook : MethodName := ⟨RX4, "readBook", "(LMarginBooks$House;)Z"⟩
abbrev cX4_readScribe : ByteArray := prog_6_method_7_code
def yX4_readScribe : MethodName := ⟨RX4, "readScribe", "(LMarginBooks$House;)Z"⟩
abbrev cX4_readNeed : ByteArray := prog_6_method_8_code
def yX4_readNeed : MethodName := ⟨RX4, "readNeed", "(LMarginBooks$House;)Z"⟩
abbrev cX4_readNumber : ByteArray := prog_6_method_9_code
def yX4_readNumber : MethodName := ⟨RX4, "readNumber", "(II)Z"⟩
abbrev cX4_readStop : ByteArray := prog_6_method_10_code
def yX4_readStop : MethodName := ⟨RX4, "readStop", "()Z"⟩
abbrev cX4_readToken : ByteArray := prog_6_method_11_code
def yX4_readToken : MethodName := ⟨RX4, "readToken", "()V"⟩
abbrev cX4_readLetters : ByteArray := prog_6_method_12_code
def yX4_readLetters : MethodName := ⟨RX4, "readLetters", "()V"⟩
abbrev cX4_readFigures : ByteArray := prog_6_method_13_code
def yX4_readFigures : MethodName := ⟨RX4, "readFigures", "()V"⟩
abbrev cX4_byteAt : ByteArray := prog_6_method_14_code
def yX4_byteAt : MethodName := ⟨RX4, "byteAt", "(I)I"⟩
abbrev cX4_isLetter : ByteArray := prog_6_method_15_code
def yX4_isLetter : MethodName := ⟨RX4, "isLetter", "(I)Z"⟩
abbrev cX4_isFigure : ByteArray := prog_6_method_16_code
def yX4_isFigure : MethodName := ⟨RX4, "isFigure", "(I)Z"⟩
def RX5 : String := "MarginBooks$Rounds"
def TX5 : u_T := fun k => match k with
  | 0 => ("MarginBooks$Rounds", "laws", "LMarginBooks$Laws;", true)
  | 1 => ("MarginBooks$Rounds", "book", "I", false)
  | 2 => ("MarginBooks$Rounds", "copies", "I", false)
  | 3 => ("MarginBooks$Rounds", "ender", "I", false)
  | _ => ("MarginBooks$Rounds", "goesOn", "Z", false)
def tyX5 : Nat → FieldType := fun k => match k with
  | 0 => .object "MarginBooks$Laws"
  | 1 => .int
  | 2 => .int
  | 3 => .int
  | _ => .boolean
abbrev wsX50 : List Cond := u_ws RX5 TX5 5
theorem nmX5 : ∀ a, a < 5 → ∀ b, b < 5 → a ≠ b → (TX5 a).2.1 ≠ (TX5 b).2.1 := by decide +kernel
theorem tyX5_ok : ∀ k, k < 5 → parseFieldDescriptor (TX5 k).2.2.1 = some (tyX5 k) := by decide +kernel
abbrev cX5_init : ByteArray := prog_7_method_1_code
def yX5_init : MethodName := ⟨RX5, "<init>", "(LMarginBooks$Laws;)V"⟩
abbrev cX5_run : ByteArray := prog_7_method_2_code
def yX5_run : MethodName := ⟨RX5, "run", "(III)V"⟩
abbrev cX5_runToEnd : ByteArray := prog_7_method_3_code
def yX5_runToEnd : MethodName := ⟨RX5, "runToEnd", "(II)V"⟩
abbrev cX5_reaches : ByteArray := prog_7_method_4_code
def yX5_reaches : MethodName := ⟨RX5, "reaches", "(III)Z"⟩
abbrev cX5_longestBook : ByteArray := prog_7_method_5_code
def yX5_longestBook : MethodName := ⟨RX5, "longestBook", "(I)I"⟩
abbrev cX5_fewestToBuy : ByteArray := prog_7_method_6_code
def yX5_fewestToBuy : MethodName := ⟨RX5, "fewestToBuy", "(IIII)I"⟩
abbrev cX5_boughtFrom : ByteArray := prog_7_method_7_code
def yX5_boughtFrom : MethodName := ⟨RX5, "boughtFrom", "(II)I"⟩
def RX6 : String := "MarginBooks$Standing"
def TX6 : u_T := fun k => match k with
  | 0 => ("MarginBooks$Standing", "rows", "[[I", true)
  | _ => ("MarginBooks$Standing", "known", "I", false)
def tyX6 : Nat → FieldType := fun k => match k with
  | 0 => .array (.array .int)
  | _ => .int
abbrev wsX60 : List Cond := u_ws RX6 TX6 2
theorem nmX6 : ∀ a, a < 2 → ∀ b, b < 2 → a ≠ b → (TX6 a).2.1 ≠ (TX6 b).2.1 := by decide +kernel
theorem tyX6_ok : ∀ k, k < 2 → parseFieldDescriptor (TX6 k).2.2.1 = some (tyX6 k) := by decide +kernel
abbrev cX6_init : ByteArray := prog_8_method_1_code
def yX6_init : MethodName := ⟨RX6, "<init>", "()V"⟩
abbrev cX6_begin : ByteArray := prog_8_method_2_code
def yX6_begin : MethodName := ⟨RX6, "begin", "(I)V"⟩
abbrev cX6_at : ByteArray := prog_8_method_3_code
def yX6_at : MethodName := ⟨RX6, "at", "(I)I"⟩
abbrev cX6_put : ByteArray := prog_8_method_4_code
def yX6_put : MethodName := ⟨RX6, "put", "(II)V"⟩
abbrev cX6_book : ByteArray := prog_8_method_5_code
def yX6_book : MethodName := ⟨RX6, "book", "()I"⟩
abbrev cX6_copiesNow : ByteArray := prog_8_method_6_code
def yX6_copiesNow : MethodName := ⟨RX6, "copiesNow", "()I"⟩
abbrev cX6_released : ByteArray := prog_8_method_7_code
def yX6_released : MethodName := ⟨RX6, "released", "()I"⟩
abbrev cX6_isReleased : ByteArray := prog_8_method_8_code
def yX6_isReleased : MethodName := ⟨RX6, "isReleased", "(I)Z"⟩
abbrev cX6_timesOf : ByteArray := prog_8_method_9_code
def yX6_timesOf : MethodName := ⟨RX6, "timesOf", "(I)I"⟩
abbrev cX6_setBook : ByteArray := prog_8_method_10_code
def yX6_setBook : MethodName := ⟨RX6, "setBook", "(I)V"⟩
abbrev cX6_copied : ByteArray := prog_8_method_11_code
def yX6_copied : MethodName := ⟨RX6, "copied", "(II)V"⟩
abbrev cX6_turnReleased : ByteArray := prog_8_method_12_code
def yX6_turnReleased : MethodName := ⟨RX6, "turnReleased", "(I)V"⟩
abbrev cX6_remember : ByteArray := prog_8_method_13_code
def yX6_remember : MethodName := ⟨RX6, "remember", "()V"⟩
abbrev cX6_takeBack : ByteArray := prog_8_method_14_code
def yX6_takeBack : MethodName := ⟨RX6, "takeBack", "()Z"⟩
abbrev cX6_become : ByteArray := prog_8_method_15_code
def yX6_become : MethodName := ⟨RX6, "become", "(LMarginBooks$Standing;)V"⟩
abbrev cX6_copyRow : ByteArray := prog_8_method_16_code
def yX6_copyRow : MethodName := ⟨RX6, "copyRow", "(I[[II)V"⟩
def RX7 : String := "MarginBooks$Ways"
def TX7 : u_T := fun k => match k with
  | 0 => ("MarginBooks$Ways", "laws", "LMarginBooks$Laws;", true)
  | 1 => ("MarginBooks$Ways", "distance", "[I", true)
  | 2 => ("MarginBooks$Ways", "before", "[I", true)
  | 3 => ("MarginBooks$Ways", "lastScribe", "[I", true)
  | 4 => ("MarginBooks$Ways", "queue", "[I", true)
  | _ => ("MarginBooks$Ways", "queued", "I", false)
def tyX7 : Nat → FieldType := fun k => match k with
  | 0 => .object "MarginBooks$Laws"
  | 1 => .array .int
  | 2 => .array .int
  | 3 => .array .int
  | 4 => .array .int
  | _ => .int
abbrev wsX70 : List Cond := u_ws RX7 TX7 6
theorem nmX7 : ∀ a, a < 6 → ∀ b, b < 6 → a ≠ b → (TX7 a).2.1 ≠ (TX7 b).2.1 := by decide +kernel
theorem tyX7_ok : ∀ k, k < 6 → parseFieldDescriptor (TX7 k).2.2.1 = some (tyX7 k) := by decide +kernel
abbrev cX7_init : ByteArray := prog_9_method_1_code
def yX7_init : MethodName := ⟨RX7, "<init>", "(LMarginBooks$Laws;)V"⟩
abbrev cX7_search : ByteArray := prog_9_method_2_code
def yX7_search : MethodName := ⟨RX7, "search", "(III)V"⟩
abbrev cX7_find : ByteArray := prog_9_method_3_code
def yX7_find : MethodName := ⟨RX7, "find", "(IIII)V"⟩
abbrev cX7_isBook : ByteArray := prog_9_method_4_code
def yX7_isBook : MethodName := ⟨RX7, "isBook", "(I)Z"⟩
abbrev cX7_distanceOf : ByteArray := prog_9_method_5_code
def yX7_distanceOf : MethodName := ⟨RX7, "distanceOf", "(I)I"⟩
abbrev cX7_isFound : ByteArray := prog_9_method_6_code
def yX7_isFound : MethodName := ⟨RX7, "isFound", "(I)Z"⟩
abbrev cX7_fewestCopies : ByteArray := prog_9_method_7_code
def yX7_fewestCopies : MethodName := ⟨RX7, "fewestCopies", "(I)I"⟩
abbrev cX7_scribeOfCopy : ByteArray := prog_9_method_8_code
def yX7_scribeOfCopy : MethodName := ⟨RX7, "scribeOfCopy", "(II)I"⟩
abbrev cX7_countBefore : ByteArray := prog_9_method_9_code
def yX7_countBefore : MethodName := ⟨RX7, "countBefore", "(II)I"⟩
abbrev cX7_lastCopiers : ByteArray := prog_9_method_10_code
def yX7_lastCopiers : MethodName := ⟨RX7, "lastCopiers", "(I)I"⟩
abbrev cX7_sameLines : ByteArray := prog_9_method_11_code
def yX7_sameLines : MethodName := ⟨RX7, "sameLines", "(LMarginBooks$House;I)I"⟩
abbrev cX7_alikeLines : ByteArray := prog_9_method_12_code
def yX7_alikeLines : MethodName := ⟨RX7, "alikeLines", "(LMarginBooks$House;II)I"⟩
def RX8 : String := "MarginBooks"
def TX8 : u_T := fun k => match k with
  | 0 => ("MarginBooks", "house", "LMarginBooks$House;", false)
  | 1 => ("MarginBooks", "draft", "LMarginBooks$House;", false)
  | 2 => ("MarginBooks", "reader", "LMarginBooks$Reader;", true)
  | 3 => ("MarginBooks", "laws", "LMarginBooks$Laws;", true)
  | 4 => ("MarginBooks", "standing", "LMarginBooks$Standing;", true)
  | 5 => ("MarginBooks", "imageZero", "LMarginBooks$Standing;", true)
  | 6 => ("MarginBooks", "imageOne", "LMarginBooks$Standing;", true)
  | 7 => ("MarginBooks", "keptZero", "Z", false)
  | 8 => ("MarginBooks", "keptOne", "Z", false)
  | 9 => ("MarginBooks", "target", "I", false)
  | 10 => ("MarginBooks", "rounds", "LMarginBooks$Rounds;", true)
  | 11 => ("MarginBooks", "ways", "LMarginBooks$Ways;", true)
  | 12 => ("MarginBooks", "margins", "LMarginBooks$Margins;", true)
  | _ => ("MarginBooks", "marks", "LMarginBooks$Marks;", true)
def tyX8 : Nat → FieldType := fun k => match k with
  | 0 => .object "MarginBooks$House"
  | 1 => .object "MarginBooks$House"
  | 2 => .object "MarginBooks$Reader"
  | 3 => .object "MarginBooks$Laws"
  | 4 => .object "MarginBooks$Standing"
  | 5 => .object "MarginBooks$Standing"
  | 6 => .object "MarginBooks$Standing"
  | 7 => .boolean
  | 8 => .boolean
  | 9 => .int
  | 10 => .object "MarginBooks$Rounds"
  | 11 => .object "MarginBooks$Ways"
  | 12 => .object "MarginBooks$Margins"
  | _ => .object "MarginBooks$Marks"
abbrev wsX80 : List Cond := u_ws RX8 TX8 14
theorem nmX8 : ∀ a, a < 14 → ∀ b, b < 14 → a ≠ b → (TX8 a).2.1 ≠ (TX8 b).2.1 := by decide +kernel
theorem tyX8_ok : ∀ k, k < 14 → parseFieldDescriptor (TX8 k).2.2.1 = some (tyX8 k) := by decide +kernel
abbrev cX8_init : ByteArray := prog_1_method_1_code
def yX8_init : MethodName := ⟨RX8, "<init>", "()V"⟩
abbrev cX8_type : ByteArray := prog_1_method_2_code
def yX8_type : MethodName := ⟨RX8, "type", "(I)I"⟩
abbrev cX8_clear : ByteArray := prog_1_method_3_code
def yX8_clear : MethodName := ⟨RX8, "clear", "()I"⟩
abbrev cX8_house : ByteArray := prog_1_method_4_code
def yX8_house : MethodName := ⟨RX8, "house", "()I"⟩
abbrev cX8_line : ByteArray := prog_1_method_5_code
def yX8_line : MethodName := ⟨RX8, "line", "(II)I"⟩
abbrev cX8_scribe : ByteArray := prog_1_method_6_code
def yX8_scribe : MethodName := ⟨RX8, "scribe", "(II)I"⟩
abbrev cX8_says : ByteArray := prog_1_method_7_code
def yX8_says : MethodName := ⟨RX8, "says", "(II)I"⟩
abbrev cX8_copies : ByteArray := prog_1_method_8_code
def yX8_copies : MethodName := ⟨RX8, "copies", "(I)I"⟩
abbrev cX8_errs : ByteArray := prog_1_method_9_code
def yX8_errs : MethodName := ⟨RX8, "errs", "(II)I"⟩
abbrev cX8_releases : ByteArray := prog_1_method_10_code
def yX8_releases : MethodName := ⟨RX8, "releases", "(II)I"⟩
abbrev cX8_aims : ByteArray := prog_1_method_11_code
def yX8_aims : MethodName := ⟨RX8, "aims", "(II)I"⟩
abbrev cX8_undo : ByteArray := prog_1_method_12_code
def yX8_undo : MethodName := ⟨RX8, "undo", "()I"⟩
abbrev cX8_now : ByteArray := prog_1_method_13_code
def yX8_now : MethodName := ⟨RX8, "now", "(I)I"⟩
abbrev cX8_convinced : ByteArray := prog_1_method_14_code
def yX8_convinced : MethodName := ⟨RX8, "convinced", "()I"⟩
abbrev cX8_bought : ByteArray := prog_1_method_15_code
def yX8_bought : MethodName := ⟨RX8, "bought", "()I"⟩
abbrev cX8_behind : ByteArray := prog_1_method_16_code
def yX8_behind : MethodName := ⟨RX8, "behind", "(II)I"⟩
abbrev cX8_ends : ByteArray := prog_1_method_17_code
def yX8_ends : MethodName := ⟨RX8, "ends", "(I)I"⟩
abbrev cX8_lasts : ByteArray := prog_1_method_18_code
def yX8_lasts : MethodName := ⟨RX8, "lasts", "(I)I"⟩
abbrev cX8_buy : ByteArray := prog_1_method_19_code
def yX8_buy : MethodName := ⟨RX8, "buy", "(I)I"⟩
abbrev cX8_odds : ByteArray := prog_1_method_20_code
def yX8_odds : MethodName := ⟨RX8, "odds", "(III)I"⟩
abbrev cX8_commonDivisor : ByteArray := prog_1_method_21_code
def yX8_commonDivisor : MethodName := ⟨RX8, "commonDivisor", "(II)I"⟩
abbrev cX8_power : ByteArray := prog_1_method_22_code
def yX8_power : MethodName := ⟨RX8, "power", "(II)I"⟩
abbrev cX8_way : ByteArray := prog_1_method_23_code
def yX8_way : MethodName := ⟨RX8, "way", "(I)I"⟩
abbrev cX8_from : ByteArray := prog_1_method_24_code
def yX8_from : MethodName := ⟨RX8, "from", "(I)I"⟩
abbrev cX8_saw : ByteArray := prog_1_method_25_code
def yX8_saw : MethodName := ⟨RX8, "saw", "(II)I"⟩
abbrev cX8_forget : ByteArray := prog_1_method_26_code
def yX8_forget : MethodName := ⟨RX8, "forget", "()I"⟩
abbrev cX8_fit : ByteArray := prog_1_method_27_code
def yX8_fit : MethodName := ⟨RX8, "fit", "(I)I"⟩
abbrev cX8_mark : ByteArray := prog_1_method_28_code
def yX8_mark : MethodName := ⟨RX8, "mark", "(II)I"⟩
abbrev cX8_keep : ByteArray := prog_1_method_29_code
def yX8_keep : MethodName := ⟨RX8, "keep", "(I)I"⟩
abbrev cX8_back : ByteArray := prog_1_method_30_code
def yX8_back : MethodName := ⟨RX8, "back", "(I)I"⟩
abbrev cX8_count : ByteArray := prog_1_method_31_code
def yX8_count : MethodName := ⟨RX8, "count", "(I)I"⟩
abbrev cX8_trace : ByteArray := prog_1_method_32_code
def yX8_trace : MethodName := ⟨RX8, "trace", "()J"⟩
def RX9 : String := "MarginBooksModel"
def TX9 : u_T := fun k => match k with
  | 0 => ("MarginBooksModel", "trace", "J", false)
  | 1 => ("MarginBooksModel", "text", "[B", true)
  | 2 => ("MarginBooksModel", "typed", "I", false)
  | 3 => ("MarginBooksModel", "opinions", "[I", true)
  | 4 => ("MarginBooksModel", "lines", "[I", true)
  | 5 => ("MarginBooksModel", "draftBook", "[I", true)
  | 6 => ("MarginBooksModel", "scribes", "[I", true)
  | 7 => ("MarginBooksModel", "turn", "[I", true)
  | 8 => ("MarginBooksModel", "bent", "[I", true)
  | 9 => ("MarginBooksModel", "need", "[I", true)
  | 10 => ("MarginBooksModel", "needTold", "Z", false)
  | 11 => ("MarginBooksModel", "at", "I", false)
  | 12 => ("MarginBooksModel", "start", "I", false)
  | 13 => ("MarginBooksModel", "sort", "I", false)
  | 14 => ("MarginBooksModel", "value", "I", false)
  | 15 => ("MarginBooksModel", "fault", "I", false)
  | 16 => ("MarginBooksModel", "now", "[I", true)
  | 17 => ("MarginBooksModel", "isKept", "[Z", true)
  | 18 => ("MarginBooksModel", "target", "I", false)
  | 19 => ("MarginBooksModel", "went", "I", false)
  | 20 => ("MarginBooksModel", "ender", "I", false)
  | 21 => ("MarginBooksModel", "had", "I", false)
  | 22 => ("MarginBooksModel", "far", "[I", true)
  | 23 => ("MarginBooksModel", "marginOf", "[I", true)
  | 24 => ("MarginBooksModel", "marginSays", "[I", true)
  | _ => ("MarginBooksModel", "margins", "I", false)
def tyX9 : Nat → FieldType := fun k => match k with
  | 0 => .long
  | 1 => .array .byte
  | 2 => .int
  | 3 => .array .int
  | 4 => .array .int
  | 5 => .array .int
  | 6 => .array .int
  | 7 => .array .int
  | 8 => .array .int
  | 9 => .array .int
  | 10 => .boolean
  | 11 => .int
  | 12 => .int
  | 13 => .int
  | 14 => .int
  | 15 => .int
  | 16 => .array .int
  | 17 => .array .boolean
  | 18 => .int
  | 19 => .int
  | 20 => .int
  | 21 => .int
  | 22 => .array .int
  | 23 => .array .int
  | 24 => .array .int
  | _ => .int
abbrev wsX90 : List Cond := u_ws RX9 TX9 26
theorem nmX9 : ∀ a, a < 26 → ∀ b, b < 26 → a ≠ b → (TX9 a).2.1 ≠ (TX9 b).2.1 := by decide +kernel
theorem tyX9_ok : ∀ k, k < 26 → parseFieldDescriptor (TX9 k).2.2.1 = some (tyX9 k) := by decide +kernel
abbrev cX9_init : ByteArray := prog_11_method_1_code
def yX9_init : MethodName := ⟨RX9, "<init>", "()V"⟩
abbrev cX9_in : ByteArray := prog_11_method_3_code
def yX9_in : MethodName := ⟨RX9, "in", "(III)Z"⟩
abbrev cX9_type : ByteArray := prog_11_method_4_code
def yX9_type : MethodName := ⟨RX9, "type", "(I)I"⟩
abbrev cX9_clear : ByteArray := prog_11_method_5_code
def yX9_clear : MethodName := ⟨RX9, "clear", "()I"⟩
abbrev cX9_here : ByteArray := prog_11_method_6_code
def yX9_here : MethodName := ⟨RX9, "here", "()I"⟩
abbrev cX9_step : ByteArray := prog_11_method_7_code
def yX9_step : MethodName := ⟨RX9, "step", "()V"⟩
abbrev cX9_due : ByteArray := prog_11_method_8_code
def yX9_due : MethodName := ⟨RX9, "due", "(Z)I"⟩
abbrev cX9_number : ByteArray := prog_11_method_9_code
def yX9_number : MethodName := ⟨RX9, "number", "(II)I"⟩
abbrev cX9_mayBe : ByteArray := prog_11_method_10_code
def yX9_mayBe : MethodName := ⟨RX9, "mayBe", "(II)Z"⟩
abbrev cX9_readRow : ByteArray := prog_11_method_11_code
def yX9_readRow : MethodName := ⟨RX9, "readRow", "(I)V"⟩
abbrev cX9_plain : ByteArray := prog_11_method_12_code
def yX9_plain : MethodName := ⟨RX9, "plain", "()V"⟩
abbrev cX9_takeDraft : ByteArray := prog_11_method_13_code
def yX9_takeDraft : MethodName := ⟨RX9, "takeDraft", "()V"⟩
abbrev cX9_house : ByteArray := prog_11_method_14_code
def yX9_house : MethodName := ⟨RX9, "house", "()I"⟩
abbrev cX9_isScribe : ByteArray := prog_11_method_15_code
def yX9_isScribe : MethodName := ⟨RX9, "isScribe", "(I)Z"⟩
abbrev cX9_isLine : ByteArray := prog_11_method_16_code
def yX9_isLine : MethodName := ⟨RX9, "isLine", "(I)Z"⟩
abbrev cX9_isOpinion : ByteArray := prog_11_method_17_code
def yX9_isOpinion : MethodName := ⟨RX9, "isOpinion", "(I)Z"⟩
abbrev cX9_books : ByteArray := prog_11_method_18_code
def yX9_books : MethodName := ⟨RX9, "books", "()I"⟩
abbrev cX9_lineOf : ByteArray := prog_11_method_19_code
def yX9_lineOf : MethodName := ⟨RX9, "lineOf", "(II)I"⟩
abbrev cX9_saysOf : ByteArray := prog_11_method_20_code
def yX9_saysOf : MethodName := ⟨RX9, "saysOf", "(II)I"⟩
abbrev cX9_copyOf : ByteArray := prog_11_method_21_code
def yX9_copyOf : MethodName := ⟨RX9, "copyOf", "(II)I"⟩
abbrev cX9_disagrees : ByteArray := prog_11_method_22_code
def yX9_disagrees : MethodName := ⟨RX9, "disagrees", "(II)I"⟩
abbrev cX9_manyOf : ByteArray := prog_11_method_23_code
def yX9_manyOf : MethodName := ⟨RX9, "manyOf", "(I)I"⟩
abbrev cX9_isConvinced : ByteArray := prog_11_method_24_code
def yX9_isConvinced : MethodName := ⟨RX9, "isConvinced", "(II)Z"⟩
abbrev cX9_comes : ByteArray := prog_11_method_25_code
def yX9_comes : MethodName := ⟨RX9, "comes", "(I)I"⟩
abbrev cX9_line : ByteArray := prog_11_method_26_code
def yX9_line : MethodName := ⟨RX9, "line", "(II)I"⟩
abbrev cX9_scribe : ByteArray := prog_11_method_27_code
def yX9_scribe : MethodName := ⟨RX9, "scribe", "(II)I"⟩
abbrev cX9_says : ByteArray := prog_11_method_28_code
def yX9_says : MethodName := ⟨RX9, "says", "(II)I"⟩
abbrev cX9_know : ByteArray := prog_11_method_29_code
def yX9_know : MethodName := ⟨RX9, "know", "()V"⟩
abbrev cX9_copies : ByteArray := prog_11_method_30_code
def yX9_copies : MethodName := ⟨RX9, "copies", "(I)I"⟩
abbrev cX9_put : ByteArray := prog_11_method_31_code
def yX9_put : MethodName := ⟨RX9, "put", "(III)I"⟩
abbrev cX9_errs : ByteArray := prog_11_method_32_code
def yX9_errs : MethodName := ⟨RX9, "errs", "(II)I"⟩
abbrev cX9_releases : ByteArray := prog_11_method_33_code
def yX9_releases : MethodName := ⟨RX9, "releases", "(II)I"⟩
abbrev cX9_aims : ByteArray := prog_11_method_34_code
def yX9_aims : MethodName := ⟨RX9, "aims", "(II)I"⟩
abbrev cX9_undo : ByteArray := prog_11_method_35_code
def yX9_undo : MethodName := ⟨RX9, "undo", "()I"⟩
abbrev cX9_mayCome : ByteArray := prog_11_method_36_code
def yX9_mayCome : MethodName := ⟨RX9, "mayCome", "(II)Z"⟩
abbrev cX9_fromOf : ByteArray := prog_11_method_37_code
def yX9_fromOf : MethodName := ⟨RX9, "fromOf", "(I)I"⟩
abbrev cX9_same : ByteArray := prog_11_method_38_code
def yX9_same : MethodName := ⟨RX9, "same", "()I"⟩
abbrev cX9_now : ByteArray := prog_11_method_39_code
def yX9_now : MethodName := ⟨RX9, "now", "(I)I"⟩
abbrev cX9_go : ByteArray := prog_11_method_40_code
def yX9_go : MethodName := ⟨RX9, "go", "(III)V"⟩
abbrev cX9_boughtIn : ByteArray := prog_11_method_41_code
def yX9_boughtIn : MethodName := ⟨RX9, "boughtIn", "()I"⟩
abbrev cX9_behind : ByteArray := prog_11_method_42_code
def yX9_behind : MethodName := ⟨RX9, "behind", "(II)I"⟩
abbrev cX9_ends : ByteArray := prog_11_method_43_code
def yX9_ends : MethodName := ⟨RX9, "ends", "(I)I"⟩
abbrev cX9_lasts : ByteArray := prog_11_method_44_code
def yX9_lasts : MethodName := ⟨RX9, "lasts", "(I)I"⟩
abbrev cX9_buy : ByteArray := prog_11_method_45_code
def yX9_buy : MethodName := ⟨RX9, "buy", "(I)I"⟩
abbrev cX9_odds : ByteArray := prog_11_method_46_code
def yX9_odds : MethodName := ⟨RX9, "odds", "(III)I"⟩
abbrev cX9_measure : ByteArray := prog_11_method_47_code
def yX9_measure : MethodName := ⟨RX9, "measure", "()V"⟩
abbrev cX9_way : ByteArray := prog_11_method_48_code
def yX9_way : MethodName := ⟨RX9, "way", "(I)I"⟩
abbrev cX9_from : ByteArray := prog_11_method_49_code
def yX9_from : MethodName := ⟨RX9, "from", "(I)I"⟩
abbrev cX9_saw : ByteArray := prog_11_method_50_code
def yX9_saw : MethodName := ⟨RX9, "saw", "(II)I"⟩
abbrev cX9_forget : ByteArray := prog_11_method_51_code
def yX9_forget : MethodName := ⟨RX9, "forget", "()I"⟩
abbrev cX9_isSo : ByteArray := prog_11_method_52_code
def yX9_isSo : MethodName := ⟨RX9, "isSo", "(II)Z"⟩
abbrev cX9_fit : ByteArray := prog_11_method_53_code
def yX9_fit : MethodName := ⟨RX9, "fit", "(I)I"⟩
abbrev cX9_mark : ByteArray := prog_11_method_54_code
def yX9_mark : MethodName := ⟨RX9, "mark", "(II)I"⟩
abbrev cX9_keep : ByteArray := prog_11_method_55_code
def yX9_keep : MethodName := ⟨RX9, "keep", "(I)I"⟩
abbrev cX9_back : ByteArray := prog_11_method_56_code
def yX9_back : MethodName := ⟨RX9, "back", "(I)I"⟩
abbrev cX9_count : ByteArray := prog_11_method_57_code
def yX9_count : MethodName := ⟨RX9, "count", "(I)I"⟩
abbrev cX9_trace : ByteArray := prog_11_method_58_code
def yX9_trace : MethodName := ⟨RX9, "trace", "()J"⟩
def RJ6 : String := "java/lang/Integer"
def TJ6 : u_T := fun k => match k with
  | _ => ("", "", "", false)
def tyJ6 : Nat → FieldType := fun k => match k with
  | _ => .int
abbrev wsJ60 : List Cond := u_ws RJ6 TJ6 0
theorem nmJ6 : ∀ a, a < 0 → ∀ b, b < 0 → a ≠ b → (TJ6 a).2.1 ≠ (TJ6 b).2.1 := by decide +kernel
theorem tyJ6_ok : ∀ k, k < 0 → parseFieldDescriptor (TJ6 k).2.2.1 = some (tyJ6 k) := by decide +kernel
abbrev cJ6_bitCount_0f7a4 : ByteArray := prog_12_method_49_code
def yJ6_bitCount_0f7a4 : MethodName := ⟨RJ6, "bitCount", "(I)I"⟩
def RJ9 : String := "java/lang/Math"
def TJ9 : u_T := fun k => match k with
  | _ => ("", "", "", false)
def tyJ9 : Nat → FieldType := fun k => match k with
  | _ => .int
abbrev wsJ90 : List Cond := u_ws RJ9 TJ9 0
theorem nmJ9 : ∀ a, a < 0 → ∀ b, b < 0 → a ≠ b → (TJ9 a).2.1 ≠ (TJ9 b).2.1 := by decide +kernel
theorem tyJ9_ok : ∀ k, k < 0 → parseFieldDescriptor (TJ9 k).2.2.1 = some (tyJ9 k) := by decide +kernel
abbrev cJ9_min_7cf53 : ByteArray := prog_13_method_69_code
def yJ9_min_7cf53 : MethodName := ⟨RJ9, "min", "(II)I"⟩
def RJ10 : String := "java/lang/System"
def TJ10 : u_T := fun k => match k with
  | _ => ("", "", "", false)
def tyJ10 : Nat → FieldType := fun k => match k with
  | _ => .int
abbrev wsJ100 : List Cond := u_ws RJ10 TJ10 0
theorem nmJ10 : ∀ a, a < 0 → ∀ b, b < 0 → a ≠ b → (TJ10 a).2.1 ≠ (TJ10 b).2.1 := by decide +kernel
theorem tyJ10_ok : ∀ k, k < 0 → parseFieldDescriptor (TJ10 k).2.2.1 = some (tyJ10 k) := by decide +kernel
def RL : String := "MarginBooksLaw"
abbrev vwCl : List vw_C := [(RX0, TX0, 8), (RX1, TX1, 3), (RX2, TX2, 3), (RX3, TX3, 6), (RX4, TX4, 8), (RX5, TX5, 5), (RX6, TX6, 2), (RX7, TX7, 6), (RX8, TX8, 14), (RX9, TX9, 26)]
abbrev cL_law : ByteArray := code
def yL_law : MethodName := ⟨RL, "law", "([I)Z"⟩
end
section
theorem dX0_init_0 : decode cX0_init 0 = .ok (.aload_n 0, 1) := by decide +kernel
theorem dX0_init_1 : decode cX0_init 1 = .ok (.invokespecial 3, 3) := by decide +kernel
theorem dX0_init_4 : decode cX0_init 4 = .ok (.aload_n 0, 1) := by decide +kernel
theorem dX0_init_5 : decode cX0_init 5 = .ok (.iconst 5, 1) := by decide +kernel
theorem dX0_init_6 : decode cX0_init 6 = .ok (.putfield 9, 3) := by decide +kernel
theorem dX0_init_9 : decode cX0_init 9 = .ok (.aload_n 0, 1) := by decide +kernel
theorem dX0_init_10 : decode cX0_init 10 = .ok (.iconst 1, 1) := by decide +kernel
theorem dX0_init_11 : decode cX0_init 11 = .ok (.putfield 15, 3) := by decide +kernel
theorem dX0_init_14 : decode cX0_init 14 = .ok (.aload_n 0, 1) := by decide +kernel
theorem dX0_init_15 : decode cX0_init 15 = .ok (.iconst 1, 1) := by decide +kernel
theorem dX0_init_16 : decode cX0_init 16 = .ok (.putfield 18, 3) := by decide +kernel
theorem dX0_init_19 : decode cX0_init 19 = .ok (.aload_n 0, 1) := by decide +kernel
theorem dX0_init_20 : decode cX0_init 20 = .ok (.bipush 6, 2) := by decide +kernel
theorem dX0_init_22 : decode cX0_init 22 = .ok (.newarray .int, 2) := by decide +kernel
theorem dX0_init_24 : decode cX0_init 24 = .ok (.putfield 21, 3) := by decide +kernel
theorem dX0_init_27 : decode cX0_init 27 = .ok (.aload_n 0, 1) := by decide +kernel
theorem dX0_init_28 : decode cX0_init 28 = .ok (.bipush 6, 2) := by decide +kernel
theorem dX0_init_30 : decode cX0_init 30 = .ok (.newarray .int, 2) := by decide +kernel
theorem dX0_init_32 : decode cX0_init 32 = .ok (.putfield 25, 3) := by decide +kernel
theorem dX0_init_35 : decode cX0_init 35 = .ok (.return_, 1) := by decide +kernel
theorem dX0_begin_0 : decode cX0_begin 0 = .ok (.aload_n 0, 1) := by decide +kernel
theorem dX0_begin_1 : decode cX0_begin 1 = .ok (.iconst 5, 1) := by decide +kernel
theorem dX0_begin_2 : decode cX0_begin 2 = .ok (.putfield 9, 3) := by decide +kernel
theorem dX0_begin_5 : decode cX0_begin 5 = .ok (.aload_n 0, 1) := by decide +kernel
theorem dX0_begin_6 : decode cX0_begin 6 = .ok (.iconst 0, 1) := by decide +kernel
theorem dX0_begin_7 : decode cX0_begin 7 = .ok (.putfield 28, 3) := by decide +kernel
theorem dX0_begin_10 : decode cX0_begin 10 = .ok (.aload_n 0, 1) := by decide +kernel
theorem dX0_begin_11 : decode cX0_begin 11 = .ok (.iconst 1, 1) := by decide +kernel
theorem dX0_begin_12 : decode cX0_begin 12 = .ok (.putfield 15, 3) := by decide +kernel
theorem dX0_begin_15 : decode cX0_begin 15 = .ok (.aload_n 0, 1) := by decide +kernel
theorem dX0_begin_16 : decode cX0_begin 16 = .ok (.iconst 0, 1) := by decide +kernel
theorem dX0_begin_17 : decode cX0_begin 17 = .ok (.putfield 31, 3) := by decide +kernel
theorem dX0_begin_20 : decode cX0_begin 20 = .ok (.aload_n 0, 1) := by decide +kernel
theorem dX0_begin_21 : decode cX0_begin 21 = .ok (.iconst 0, 1) := by decide +kernel
theorem dX0_begin_22 : decode cX0_begin 22 = .ok (.putfield 34, 3) := by decide +kernel
theorem dX0_begin_25 : decode cX0_begin 25 = .ok (.aload_n 0, 1) := by decide +kernel
theorem dX0_begin_26 : decode cX0_begin 26 = .ok (.iconst 1, 1) := by decide +kernel
theorem dX0_begin_27 : decode cX0_begin 27 = .ok (.putfield 18, 3) := by decide +kernel
theorem dX0_begin_30 : decode cX0_begin 30 = .ok (.return_, 1) := by decide +kernel
theorem dX0_addLine_0 : decode cX0_addLine 0 = .ok (.aload_n 0, 1) := by decide +kernel
theorem dX0_addLine_1 : decode cX0_addLine 1 = .ok (.getfield 28, 3) := by decide +kernel
theorem dX0_addLine_4 : decode cX0_addLine 4 = .ok (.iconst 4, 1) := by decide +kernel
theorem dX0_addLine_5 : decode cX0_addLine 5 = .ok (.if_icmp .ge 41, 3) := by decide +kernel
theorem dX0_addLine_8 : decode cX0_addLine 8 = .ok (.aload_n 0, 1) := by decide +kernel
theorem dX0_addLine_9 : decode cX0_addLine 9 = .ok (.dup, 1) := by decide +kernel
theorem dX0_addLine_10 : decode cX0_addLine 10 = .ok (.getfield 28, 3) := by decide +kernel
theorem dX0_addLine_13 : decode cX0_addLine 13 = .ok (.iconst 1, 1) := by decide +kernel
theorem dX0_addLine_14 : decode cX0_addLine 14 = .ok (.iadd, 1) := by decide +kernel
theorem dX0_addLine_15 : decode cX0_addLine 15 = .ok (.putfield 28, 3) := by decide +kernel
theorem dX0_addLine_18 : decode cX0_addLine 18 = .ok (.aload_n 0, 1) := by decide +kernel
theorem dX0_addLine_19 : decode cX0_addLine 19 = .ok (.dup, 1) := by decide +kernel
theorem dX0_addLine_20 : decode cX0_addLine 20 = .ok (.getfield 15, 3) := by decide +kernel
theorem dX0_addLine_23 : decode cX0_addLine 23 = .ok (.aload_n 0, 1) := by decide +kernel
theorem dX0_addLine_24 : decode cX0_addLine 24 = .ok (.getfield 9, 3) := by decide +kernel
theorem dX0_addLine_27 : decode cX0_addLine 27 = .ok (.imul, 1) := by decide +kernel
theorem dX0_addLine_28 : decode cX0_addLine 28 = .ok (.putfield 15, 3) := by decide +kernel
theorem dX0_addLine_31 : decode cX0_addLine 31 = .ok (.aload_n 0, 1) := by decide +kernel
theorem dX0_addLine_32 : decode cX0_addLine 32 = .ok (.aload_n 0, 1) := by decide +kernel
theorem dX0_addLine_33 : decode cX0_addLine 33 = .ok (.getfield 31, 3) := by decide +kernel
theorem dX0_addLine_36 : decode cX0_addLine 36 = .ok (.aload_n 0, 1) := by decide +kernel
theorem dX0_addLine_37 : decode cX0_addLine 37 = .ok (.getfield 9, 3) := by decide +kernel
theorem dX0_addLine_40 : decode cX0_addLine 40 = .ok (.imul, 1) := by decide +kernel
theorem dX0_addLine_41 : decode cX0_addLine 41 = .ok (.iload_n 1, 1) := by decide +kernel
theorem dX0_addLine_42 : decode cX0_addLine 42 = .ok (.iadd, 1) := by decide +kernel
theorem dX0_addLine_43 : decode cX0_addLine 43 = .ok (.putfield 31, 3) := by decide +kernel
theorem dX0_addLine_46 : decode cX0_addLine 46 = .ok (.return_, 1) := by decide +kernel
theorem dX0_addScribe_0 : decode cX0_addScribe 0 = .ok (.aload_n 0, 1) := by decide +kernel
theorem dX0_addScribe_1 : decode cX0_addScribe 1 = .ok (.getfield 34, 3) := by decide +kernel
theorem dX0_addScribe_4 : decode cX0_addScribe 4 = .ok (.bipush 6, 2) := by decide +kernel
theorem dX0_addScribe_6 : decode cX0_addScribe 6 = .ok (.if_icmp .ge 33, 3) := by decide +kernel
theorem dX0_addScribe_9 : decode cX0_addScribe 9 = .ok (.aload_n 0, 1) := by decide +kernel
theorem dX0_addScribe_10 : decode cX0_addScribe 10 = .ok (.getfield 21, 3) := by decide +kernel
theorem dX0_addScribe_13 : decode cX0_addScribe 13 = .ok (.aload_n 0, 1) := by decide +kernel
theorem dX0_addScribe_14 : decode cX0_addScribe 14 = .ok (.getfield 34, 3) := by decide +kernel
theorem dX0_addScribe_17 : decode cX0_addScribe 17 = .ok (.iload_n 1, 1) := by decide +kernel
theorem dX0_addScribe_18 : decode cX0_addScribe 18 = .ok (.iastore, 1) := by decide +kernel
theorem dX0_addScribe_19 : decode cX0_addScribe 19 = .ok (.aload_n 0, 1) := by decide +kernel
theorem dX0_addScribe_20 : decode cX0_addScribe 20 = .ok (.getfield 25, 3) := by decide +kernel
theorem dX0_addScribe_23 : decode cX0_addScribe 23 = .ok (.aload_n 0, 1) := by decide +kernel
theorem dX0_addScribe_24 : decode cX0_addScribe 24 = .ok (.getfield 34, 3) := by decide +kernel
theorem dX0_addScribe_27 : decode cX0_addScribe 27 = .ok (.iload_n 2, 1) := by decide +kernel
theorem dX0_addScribe_28 : decode cX0_addScribe 28 = .ok (.iastore, 1) := by decide +kernel
theorem dX0_addScribe_29 : decode cX0_addScribe 29 = .ok (.aload_n 0, 1) := by decide +kernel
theorem dX0_addScribe_30 : decode cX0_addScribe 30 = .ok (.dup, 1) := by decide +kernel
theorem dX0_addScribe_31 : decode cX0_addScribe 31 = .ok (.getfield 34, 3) := by decide +kernel
theorem dX0_addScribe_34 : decode cX0_addScribe 34 = .ok (.iconst 1, 1) := by decide +kernel
theorem dX0_addScribe_35 : decode cX0_addScribe 35 = .ok (.iadd, 1) := by decide +kernel
theorem dX0_addScribe_36 : decode cX0_addScribe 36 = .ok (.putfield 34, 3) := by decide +kernel
theorem dX0_addScribe_39 : decode cX0_addScribe 39 = .ok (.return_, 1) := by decide +kernel
theorem dX0_hasOpinion_0 : decode cX0_hasOpinion 0 = .ok (.iload_n 1, 1) := by decide +kernel
theorem dX0_hasOpinion_1 : decode cX0_hasOpinion 1 = .ok (.ifCond .lt 15, 3) := by decide +kernel
theorem dX0_hasOpinion_4 : decode cX0_hasOpinion 4 = .ok (.iload_n 1, 1) := by decide +kernel
theorem dX0_hasOpinion_5 : decode cX0_hasOpinion 5 = .ok (.aload_n 0, 1) := by decide +kernel
theorem dX0_hasOpinion_6 : decode cX0_hasOpinion 6 = .ok (.getfield 9, 3) := by decide +kernel
theorem dX0_hasOpinion_9 : decode cX0_hasOpinion 9 = .ok (.if_icmp .ge 7, 3) := by decide +kernel
theorem dX0_hasOpinion_12 : decode cX0_hasOpinion 12 = .ok (.iconst 1, 1) := by decide +kernel
theorem dX0_hasOpinion_13 : decode cX0_hasOpinion 13 = .ok (.goto 4, 3) := by decide +kernel
theorem dX0_hasOpinion_16 : decode cX0_hasOpinion 16 = .ok (.iconst 0, 1) := by decide +kernel
theorem dX0_hasOpinion_17 : decode cX0_hasOpinion 17 = .ok (.ireturn, 1) := by decide +kernel
theorem dX0_hasLine_0 : decode cX0_hasLine 0 = .ok (.iload_n 1, 1) := by decide +kernel
theorem dX0_hasLine_1 : decode cX0_hasLine 1 = .ok (.ifCond .lt 15, 3) := by decide +kernel
theorem dX0_hasLine_4 : decode cX0_hasLine 4 = .ok (.iload_n 1, 1) := by decide +kernel
theorem dX0_hasLine_5 : decode cX0_hasLine 5 = .ok (.aload_n 0, 1) := by decide +kernel
theorem dX0_hasLine_6 : decode cX0_hasLine 6 = .ok (.getfield 28, 3) := by decide +kernel
theorem dX0_hasLine_9 : decode cX0_hasLine 9 = .ok (.if_icmp .ge 7, 3) := by decide +kernel
theorem dX0_hasLine_12 : decode cX0_hasLine 12 = .ok (.iconst 1, 1) := by decide +kernel
theorem dX0_hasLine_13 : decode cX0_hasLine 13 = .ok (.goto 4, 3) := by decide +kernel
theorem dX0_hasLine_16 : decode cX0_hasLine 16 = .ok (.iconst 0, 1) := by decide +kernel
theorem dX0_hasLine_17 : decode cX0_hasLine 17 = .ok (.ireturn, 1) := by decide +kernel
theorem dX0_hasScribe_0 : decode cX0_hasScribe 0 = .ok (.iload_n 1, 1) := by decide +kernel
theorem dX0_hasScribe_1 : decode cX0_hasScribe 1 = .ok (.ifCond .lt 21, 3) := by decide +kernel
theorem dX0_hasScribe_4 : decode cX0_hasScribe 4 = .ok (.iload_n 1, 1) := by decide +kernel
theorem dX0_hasScribe_5 : decode cX0_hasScribe 5 = .ok (.aload_n 0, 1) := by decide +kernel
theorem dX0_hasScribe_6 : decode cX0_hasScribe 6 = .ok (.getfield 34, 3) := by decide +kernel
theorem dX0_hasScribe_9 : decode cX0_hasScribe 9 = .ok (.if_icmp .ge 13, 3) := by decide +kernel
theorem dX0_hasScribe_12 : decode cX0_hasScribe 12 = .ok (.iload_n 1, 1) := by decide +kernel
theorem dX0_hasScribe_13 : decode cX0_hasScribe 13 = .ok (.bipush 6, 2) := by decide +kernel
theorem dX0_hasScribe_15 : decode cX0_hasScribe 15 = .ok (.if_icmp .ge 7, 3) := by decide +kernel
theorem dX0_hasScribe_18 : decode cX0_hasScribe 18 = .ok (.iconst 1, 1) := by decide +kernel
theorem dX0_hasScribe_19 : decode cX0_hasScribe 19 = .ok (.goto 4, 3) := by decide +kernel
theorem dX0_hasScribe_22 : decode cX0_hasScribe 22 = .ok (.iconst 0, 1) := by decide +kernel
theorem dX0_hasScribe_23 : decode cX0_hasScribe 23 = .ok (.ireturn, 1) := by decide +kernel
theorem dX0_allScribes_0 : decode cX0_allScribes 0 = .ok (.iconst 1, 1) := by decide +kernel
theorem dX0_allScribes_1 : decode cX0_allScribes 1 = .ok (.aload_n 0, 1) := by decide +kernel
theorem dX0_allScribes_2 : decode cX0_allScribes 2 = .ok (.getfield 34, 3) := by decide +kernel
theorem dX0_allScribes_5 : decode cX0_allScribes 5 = .ok (.ishl, 1) := by decide +kernel
theorem dX0_allScribes_6 : decode cX0_allScribes 6 = .ok (.iconst 1, 1) := by decide +kernel
theorem dX0_allScribes_7 : decode cX0_allScribes 7 = .ok (.isub, 1) := by decide +kernel
theorem dX0_allScribes_8 : decode cX0_allScribes 8 = .ok (.ireturn, 1) := by decide +kernel
theorem dX0_turnOf_0 : decode cX0_turnOf 0 = .ok (.aload_n 0, 1) := by decide +kernel
theorem dX0_turnOf_1 : decode cX0_turnOf 1 = .ok (.iload_n 1, 1) := by decide +kernel
theorem dX0_turnOf_2 : decode cX0_turnOf 2 = .ok (.invokevirtual 37, 3) := by decide +kernel
theorem dX0_turnOf_5 : decode cX0_turnOf 5 = .ok (.ifCond .eq 12, 3) := by decide +kernel
theorem dX0_turnOf_8 : decode cX0_turnOf 8 = .ok (.aload_n 0, 1) := by decide +kernel
theorem dX0_turnOf_9 : decode cX0_turnOf 9 = .ok (.getfield 21, 3) := by decide +kernel
theorem dX0_turnOf_12 : decode cX0_turnOf 12 = .ok (.iload_n 1, 1) := by decide +kernel
theorem dX0_turnOf_13 : decode cX0_turnOf 13 = .ok (.iaload, 1) := by decide +kernel
theorem dX0_turnOf_14 : decode cX0_turnOf 14 = .ok (.goto 4, 3) := by decide +kernel
theorem dX0_turnOf_17 : decode cX0_turnOf 17 = .ok (.iconst 0, 1) := by decide +kernel
theorem dX0_turnOf_18 : decode cX0_turnOf 18 = .ok (.ireturn, 1) := by decide +kernel
theorem dX0_bentOf_0 : decode cX0_bentOf 0 = .ok (.aload_n 0, 1) := by decide +kernel
theorem dX0_bentOf_1 : decode cX0_bentOf 1 = .ok (.iload_n 1, 1) := by decide +kernel
theorem dX0_bentOf_2 : decode cX0_bentOf 2 = .ok (.invokevirtual 37, 3) := by decide +kernel
theorem dX0_bentOf_5 : decode cX0_bentOf 5 = .ok (.ifCond .eq 12, 3) := by decide +kernel
theorem dX0_bentOf_8 : decode cX0_bentOf 8 = .ok (.aload_n 0, 1) := by decide +kernel
theorem dX0_bentOf_9 : decode cX0_bentOf 9 = .ok (.getfield 25, 3) := by decide +kernel
theorem dX0_bentOf_12 : decode cX0_bentOf 12 = .ok (.iload_n 1, 1) := by decide +kernel
theorem dX0_bentOf_13 : decode cX0_bentOf 13 = .ok (.iaload, 1) := by decide +kernel
theorem dX0_bentOf_14 : decode cX0_bentOf 14 = .ok (.goto 4, 3) := by decide +kernel
theorem dX0_bentOf_17 : decode cX0_bentOf 17 = .ok (.iconst 0, 1) := by decide +kernel
theorem dX0_bentOf_18 : decode cX0_bentOf 18 = .ok (.ireturn, 1) := by decide +kernel
theorem dX0_saidBy_0 : decode cX0_saidBy 0 = .ok (.aload_n 0, 1) := by decide +kernel
theorem dX0_saidBy_1 : decode cX0_saidBy 1 = .ok (.iload_n 1, 1) := by decide +kernel
theorem dX0_saidBy_2 : decode cX0_saidBy 2 = .ok (.invokevirtual 41, 3) := by decide +kernel
theorem dX0_saidBy_5 : decode cX0_saidBy 5 = .ok (.aload_n 0, 1) := by decide +kernel
theorem dX0_saidBy_6 : decode cX0_saidBy 6 = .ok (.iload_n 1, 1) := by decide +kernel
theorem dX0_saidBy_7 : decode cX0_saidBy 7 = .ok (.invokevirtual 45, 3) := by decide +kernel
theorem dX0_saidBy_10 : decode cX0_saidBy 10 = .ok (.iload_n 2, 1) := by decide +kernel
theorem dX0_saidBy_11 : decode cX0_saidBy 11 = .ok (.aload_n 0, 1) := by decide +kernel
theorem dX0_saidBy_12 : decode cX0_saidBy 12 = .ok (.getfield 9, 3) := by decide +kernel
theorem dX0_saidBy_15 : decode cX0_saidBy 15 = .ok (.invokestatic 48, 3) := by decide +kernel
theorem dX0_saidBy_18 : decode cX0_saidBy 18 = .ok (.ireturn, 1) := by decide +kernel
theorem dX0_weightOf_0 : decode cX0_weightOf 0 = .ok (.iconst 1, 1) := by decide +kernel
theorem dX0_weightOf_1 : decode cX0_weightOf 1 = .ok (.istore_n 2, 1) := by decide +kernel
theorem dX0_weightOf_2 : decode cX0_weightOf 2 = .ok (.iload_n 1, 1) := by decide +kernel
theorem dX0_weightOf_3 : decode cX0_weightOf 3 = .ok (.iconst 1, 1) := by decide +kernel
theorem dX0_weightOf_4 : decode cX0_weightOf 4 = .ok (.iadd, 1) := by decide +kernel
theorem dX0_weightOf_5 : decode cX0_weightOf 5 = .ok (.istore_n 3, 1) := by decide +kernel
theorem dX0_weightOf_6 : decode cX0_weightOf 6 = .ok (.iload_n 3, 1) := by decide +kernel
theorem dX0_weightOf_7 : decode cX0_weightOf 7 = .ok (.aload_n 0, 1) := by decide +kernel
theorem dX0_weightOf_8 : decode cX0_weightOf 8 = .ok (.getfield 28, 3) := by decide +kernel
theorem dX0_weightOf_11 : decode cX0_weightOf 11 = .ok (.if_icmp .ge 16, 3) := by decide +kernel
theorem dX0_weightOf_14 : decode cX0_weightOf 14 = .ok (.iload_n 2, 1) := by decide +kernel
theorem dX0_weightOf_15 : decode cX0_weightOf 15 = .ok (.aload_n 0, 1) := by decide +kernel
theorem dX0_weightOf_16 : decode cX0_weightOf 16 = .ok (.getfield 9, 3) := by decide +kernel
theorem dX0_weightOf_19 : decode cX0_weightOf 19 = .ok (.imul, 1) := by decide +kernel
theorem dX0_weightOf_20 : decode cX0_weightOf 20 = .ok (.istore_n 2, 1) := by decide +kernel
theorem dX0_weightOf_21 : decode cX0_weightOf 21 = .ok (.iinc 3 1, 3) := by decide +kernel
theorem dX0_weightOf_24 : decode cX0_weightOf 24 = .ok (.goto (-18), 3) := by decide +kernel
theorem dX0_weightOf_27 : decode cX0_weightOf 27 = .ok (.iload_n 2, 1) := by decide +kernel
theorem dX0_weightOf_28 : decode cX0_weightOf 28 = .ok (.ireturn, 1) := by decide +kernel
theorem dX0_lineOf_0 : decode cX0_lineOf 0 = .ok (.aload_n 0, 1) := by decide +kernel
theorem dX0_lineOf_1 : decode cX0_lineOf 1 = .ok (.iload_n 2, 1) := by decide +kernel
theorem dX0_lineOf_2 : decode cX0_lineOf 2 = .ok (.invokevirtual 52, 3) := by decide +kernel
theorem dX0_lineOf_5 : decode cX0_lineOf 5 = .ok (.istore_n 3, 1) := by decide +kernel
theorem dX0_lineOf_6 : decode cX0_lineOf 6 = .ok (.iload_n 3, 1) := by decide +kernel
theorem dX0_lineOf_7 : decode cX0_lineOf 7 = .ok (.iconst 1, 1) := by decide +kernel
theorem dX0_lineOf_8 : decode cX0_lineOf 8 = .ok (.if_icmp .lt 11, 3) := by decide +kernel
theorem dX0_lineOf_11 : decode cX0_lineOf 11 = .ok (.aload_n 0, 1) := by decide +kernel
theorem dX0_lineOf_12 : decode cX0_lineOf 12 = .ok (.getfield 9, 3) := by decide +kernel
theorem dX0_lineOf_15 : decode cX0_lineOf 15 = .ok (.iconst 1, 1) := by decide +kernel
theorem dX0_lineOf_16 : decode cX0_lineOf 16 = .ok (.if_icmp .ge 7, 3) := by decide +kernel
theorem dX0_lineOf_19 : decode cX0_lineOf 19 = .ok (.iconst 0, 1) := by decide +kernel
theorem dX0_lineOf_20 : decode cX0_lineOf 20 = .ok (.goto 11, 3) := by decide +kernel
theorem dX0_lineOf_23 : decode cX0_lineOf 23 = .ok (.iload_n 1, 1) := by decide +kernel
theorem dX0_lineOf_24 : decode cX0_lineOf 24 = .ok (.iload_n 3, 1) := by decide +kernel
theorem dX0_lineOf_25 : decode cX0_lineOf 25 = .ok (.idiv, 1) := by decide +kernel
theorem dX0_lineOf_26 : decode cX0_lineOf 26 = .ok (.aload_n 0, 1) := by decide +kernel
theorem dX0_lineOf_27 : decode cX0_lineOf 27 = .ok (.getfield 9, 3) := by decide +kernel
theorem dX0_lineOf_30 : decode cX0_lineOf 30 = .ok (.irem, 1) := by decide +kernel
theorem dX0_lineOf_31 : decode cX0_lineOf 31 = .ok (.ireturn, 1) := by decide +kernel
theorem dX0_withLine_0 : decode cX0_withLine 0 = .ok (.iload_n 1, 1) := by decide +kernel
theorem dX0_withLine_1 : decode cX0_withLine 1 = .ok (.iload_n 3, 1) := by decide +kernel
theorem dX0_withLine_2 : decode cX0_withLine 2 = .ok (.aload_n 0, 1) := by decide +kernel
theorem dX0_withLine_3 : decode cX0_withLine 3 = .ok (.iload_n 1, 1) := by decide +kernel
theorem dX0_withLine_4 : decode cX0_withLine 4 = .ok (.iload_n 2, 1) := by decide +kernel
theorem dX0_withLine_5 : decode cX0_withLine 5 = .ok (.invokevirtual 55, 3) := by decide +kernel
theorem dX0_withLine_8 : decode cX0_withLine 8 = .ok (.isub, 1) := by decide +kernel
theorem dX0_withLine_9 : decode cX0_withLine 9 = .ok (.aload_n 0, 1) := by decide +kernel
theorem dX0_withLine_10 : decode cX0_withLine 10 = .ok (.iload_n 2, 1) := by decide +kernel
theorem dX0_withLine_11 : decode cX0_withLine 11 = .ok (.invokevirtual 52, 3) := by decide +kernel
theorem dX0_withLine_14 : decode cX0_withLine 14 = .ok (.imul, 1) := by decide +kernel
theorem dX0_withLine_15 : decode cX0_withLine 15 = .ok (.iadd, 1) := by decide +kernel
theorem dX0_withLine_16 : decode cX0_withLine 16 = .ok (.ireturn, 1) := by decide +kernel
theorem dX0_becomes_0 : decode cX0_becomes 0 = .ok (.iconst 0, 1) := by decide +kernel
theorem dX0_becomes_1 : decode cX0_becomes 1 = .ok (.istore_n 3, 1) := by decide +kernel
theorem dX0_becomes_2 : decode cX0_becomes 2 = .ok (.iload_n 2, 1) := by decide +kernel
theorem dX0_becomes_3 : decode cX0_becomes 3 = .ok (.istore 4, 2) := by decide +kernel
theorem dX0_becomes_5 : decode cX0_becomes 5 = .ok (.iconst 1, 1) := by decide +kernel
theorem dX0_becomes_6 : decode cX0_becomes 6 = .ok (.istore 5, 2) := by decide +kernel
theorem dX0_becomes_8 : decode cX0_becomes 8 = .ok (.aload_n 0, 1) := by decide +kernel
theorem dX0_becomes_9 : decode cX0_becomes 9 = .ok (.getfield 28, 3) := by decide +kernel
theorem dX0_becomes_12 : decode cX0_becomes 12 = .ok (.iconst 1, 1) := by decide +kernel
theorem dX0_becomes_13 : decode cX0_becomes 13 = .ok (.isub, 1) := by decide +kernel
theorem dX0_becomes_14 : decode cX0_becomes 14 = .ok (.istore 6, 2) := by decide +kernel
theorem dX0_becomes_16 : decode cX0_becomes 16 = .ok (.iload 6, 2) := by decide +kernel
theorem dX0_becomes_18 : decode cX0_becomes 18 = .ok (.ifCond .lt 52, 3) := by decide +kernel
theorem dX0_becomes_21 : decode cX0_becomes 21 = .ok (.aload_n 0, 1) := by decide +kernel
theorem dX0_becomes_22 : decode cX0_becomes 22 = .ok (.getfield 9, 3) := by decide +kernel
theorem dX0_becomes_25 : decode cX0_becomes 25 = .ok (.ifCond .le 45, 3) := by decide +kernel
theorem dX0_becomes_28 : decode cX0_becomes 28 = .ok (.iload_n 3, 1) := by decide +kernel
theorem dX0_becomes_29 : decode cX0_becomes 29 = .ok (.iload 5, 2) := by decide +kernel
theorem dX0_becomes_31 : decode cX0_becomes 31 = .ok (.aload_n 0, 1) := by decide +kernel
theorem dX0_becomes_32 : decode cX0_becomes 32 = .ok (.iload_n 1, 1) := by decide +kernel
theorem dX0_becomes_33 : decode cX0_becomes 33 = .ok (.iload 4, 2) := by decide +kernel
theorem dX0_becomes_35 : decode cX0_becomes 35 = .ok (.aload_n 0, 1) := by decide +kernel
theorem dX0_becomes_36 : decode cX0_becomes 36 = .ok (.getfield 9, 3) := by decide +kernel
theorem dX0_becomes_39 : decode cX0_becomes 39 = .ok (.irem, 1) := by decide +kernel
theorem dX0_becomes_40 : decode cX0_becomes 40 = .ok (.invokevirtual 59, 3) := by decide +kernel
theorem dX0_becomes_43 : decode cX0_becomes 43 = .ok (.imul, 1) := by decide +kernel
theorem dX0_becomes_44 : decode cX0_becomes 44 = .ok (.iadd, 1) := by decide +kernel
theorem dX0_becomes_45 : decode cX0_becomes 45 = .ok (.istore_n 3, 1) := by decide +kernel
theorem dX0_becomes_46 : decode cX0_becomes 46 = .ok (.iload 4, 2) := by decide +kernel
theorem dX0_becomes_48 : decode cX0_becomes 48 = .ok (.aload_n 0, 1) := by decide +kernel
theorem dX0_becomes_49 : decode cX0_becomes 49 = .ok (.getfield 9, 3) := by decide +kernel
theorem dX0_becomes_52 : decode cX0_becomes 52 = .ok (.idiv, 1) := by decide +kernel
theorem dX0_becomes_53 : decode cX0_becomes 53 = .ok (.istore 4, 2) := by decide +kernel
theorem dX0_becomes_55 : decode cX0_becomes 55 = .ok (.iload 5, 2) := by decide +kernel
theorem dX0_becomes_57 : decode cX0_becomes 57 = .ok (.aload_n 0, 1) := by decide +kernel
theorem dX0_becomes_58 : decode cX0_becomes 58 = .ok (.getfield 9, 3) := by decide +kernel
theorem dX0_becomes_61 : decode cX0_becomes 61 = .ok (.imul, 1) := by decide +kernel
theorem dX0_becomes_62 : decode cX0_becomes 62 = .ok (.istore 5, 2) := by decide +kernel
theorem dX0_becomes_64 : decode cX0_becomes 64 = .ok (.iinc 6 (-1), 3) := by decide +kernel
theorem dX0_becomes_67 : decode cX0_becomes 67 = .ok (.goto (-51), 3) := by decide +kernel
theorem dX0_becomes_70 : decode cX0_becomes 70 = .ok (.iload_n 3, 1) := by decide +kernel
theorem dX0_becomes_71 : decode cX0_becomes 71 = .ok (.ireturn, 1) := by decide +kernel
theorem dX0_unlikeLines_0 : decode cX0_unlikeLines 0 = .ok (.iconst 0, 1) := by decide +kernel
theorem dX0_unlikeLines_1 : decode cX0_unlikeLines 1 = .ok (.istore_n 3, 1) := by decide +kernel
theorem dX0_unlikeLines_2 : decode cX0_unlikeLines 2 = .ok (.iload_n 2, 1) := by decide +kernel
theorem dX0_unlikeLines_3 : decode cX0_unlikeLines 3 = .ok (.istore 4, 2) := by decide +kernel
theorem dX0_unlikeLines_5 : decode cX0_unlikeLines 5 = .ok (.aload_n 0, 1) := by decide +kernel
theorem dX0_unlikeLines_6 : decode cX0_unlikeLines 6 = .ok (.getfield 28, 3) := by decide +kernel
theorem dX0_unlikeLines_9 : decode cX0_unlikeLines 9 = .ok (.iconst 1, 1) := by decide +kernel
theorem dX0_unlikeLines_10 : decode cX0_unlikeLines 10 = .ok (.isub, 1) := by decide +kernel
theorem dX0_unlikeLines_11 : decode cX0_unlikeLines 11 = .ok (.istore 5, 2) := by decide +kernel
theorem dX0_unlikeLines_13 : decode cX0_unlikeLines 13 = .ok (.iload 5, 2) := by decide +kernel
theorem dX0_unlikeLines_15 : decode cX0_unlikeLines 15 = .ok (.ifCond .lt 53, 3) := by decide +kernel
theorem dX0_unlikeLines_18 : decode cX0_unlikeLines 18 = .ok (.aload_n 0, 1) := by decide +kernel
theorem dX0_unlikeLines_19 : decode cX0_unlikeLines 19 = .ok (.getfield 9, 3) := by decide +kernel
theorem dX0_unlikeLines_22 : decode cX0_unlikeLines 22 = .ok (.ifCond .le 46, 3) := by decide +kernel
theorem dX0_unlikeLines_25 : decode cX0_unlikeLines 25 = .ok (.iload 4, 2) := by decide +kernel
theorem dX0_unlikeLines_27 : decode cX0_unlikeLines 27 = .ok (.aload_n 0, 1) := by decide +kernel
theorem dX0_unlikeLines_28 : decode cX0_unlikeLines 28 = .ok (.getfield 9, 3) := by decide +kernel
theorem dX0_unlikeLines_31 : decode cX0_unlikeLines 31 = .ok (.irem, 1) := by decide +kernel
theorem dX0_unlikeLines_32 : decode cX0_unlikeLines 32 = .ok (.istore 6, 2) := by decide +kernel
theorem dX0_unlikeLines_34 : decode cX0_unlikeLines 34 = .ok (.aload_n 0, 1) := by decide +kernel
theorem dX0_unlikeLines_35 : decode cX0_unlikeLines 35 = .ok (.iload_n 1, 1) := by decide +kernel
theorem dX0_unlikeLines_36 : decode cX0_unlikeLines 36 = .ok (.iload 6, 2) := by decide +kernel
theorem dX0_unlikeLines_38 : decode cX0_unlikeLines 38 = .ok (.invokevirtual 59, 3) := by decide +kernel
theorem dX0_unlikeLines_41 : decode cX0_unlikeLines 41 = .ok (.iload 6, 2) := by decide +kernel
theorem dX0_unlikeLines_43 : decode cX0_unlikeLines 43 = .ok (.if_icmp .eq 10, 3) := by decide +kernel
theorem dX0_unlikeLines_46 : decode cX0_unlikeLines 46 = .ok (.iload_n 3, 1) := by decide +kernel
theorem dX0_unlikeLines_47 : decode cX0_unlikeLines 47 = .ok (.iconst 1, 1) := by decide +kernel
theorem dX0_unlikeLines_48 : decode cX0_unlikeLines 48 = .ok (.iload 5, 2) := by decide +kernel
theorem dX0_unlikeLines_50 : decode cX0_unlikeLines 50 = .ok (.ishl, 1) := by decide +kernel
theorem dX0_unlikeLines_51 : decode cX0_unlikeLines 51 = .ok (.ior, 1) := by decide +kernel
theorem dX0_unlikeLines_52 : decode cX0_unlikeLines 52 = .ok (.istore_n 3, 1) := by decide +kernel
theorem dX0_unlikeLines_53 : decode cX0_unlikeLines 53 = .ok (.iload 4, 2) := by decide +kernel
theorem dX0_unlikeLines_55 : decode cX0_unlikeLines 55 = .ok (.aload_n 0, 1) := by decide +kernel
theorem dX0_unlikeLines_56 : decode cX0_unlikeLines 56 = .ok (.getfield 9, 3) := by decide +kernel
theorem dX0_unlikeLines_59 : decode cX0_unlikeLines 59 = .ok (.idiv, 1) := by decide +kernel
theorem dX0_unlikeLines_60 : decode cX0_unlikeLines 60 = .ok (.istore 4, 2) := by decide +kernel
theorem dX0_unlikeLines_62 : decode cX0_unlikeLines 62 = .ok (.iinc 5 (-1), 3) := by decide +kernel
theorem dX0_unlikeLines_65 : decode cX0_unlikeLines 65 = .ok (.goto (-52), 3) := by decide +kernel
theorem dX0_unlikeLines_68 : decode cX0_unlikeLines 68 = .ok (.iload_n 3, 1) := by decide +kernel
theorem dX0_unlikeLines_69 : decode cX0_unlikeLines 69 = .ok (.ireturn, 1) := by decide +kernel
theorem dX0_isConvinced_0 : decode cX0_isConvinced 0 = .ok (.aload_n 0, 1) := by decide +kernel
theorem dX0_isConvinced_1 : decode cX0_isConvinced 1 = .ok (.iload_n 1, 1) := by decide +kernel
theorem dX0_isConvinced_2 : decode cX0_isConvinced 2 = .ok (.iload_n 2, 1) := by decide +kernel
theorem dX0_isConvinced_3 : decode cX0_isConvinced 3 = .ok (.invokevirtual 62, 3) := by decide +kernel
theorem dX0_isConvinced_6 : decode cX0_isConvinced 6 = .ok (.invokestatic 65, 3) := by decide +kernel
theorem dX0_isConvinced_9 : decode cX0_isConvinced 9 = .ok (.aload_n 0, 1) := by decide +kernel
theorem dX0_isConvinced_10 : decode cX0_isConvinced 10 = .ok (.getfield 18, 3) := by decide +kernel
theorem dX0_isConvinced_13 : decode cX0_isConvinced 13 = .ok (.if_icmp .ge 7, 3) := by decide +kernel
theorem dX0_isConvinced_16 : decode cX0_isConvinced 16 = .ok (.iconst 1, 1) := by decide +kernel
theorem dX0_isConvinced_17 : decode cX0_isConvinced 17 = .ok (.goto 4, 3) := by decide +kernel
theorem dX0_isConvinced_20 : decode cX0_isConvinced 20 = .ok (.iconst 0, 1) := by decide +kernel
theorem dX0_isConvinced_21 : decode cX0_isConvinced 21 = .ok (.ireturn, 1) := by decide +kernel
theorem dX0_comesRound_0 : decode cX0_comesRound 0 = .ok (.iload_n 2, 1) := by decide +kernel
theorem dX0_comesRound_1 : decode cX0_comesRound 1 = .ok (.istore_n 3, 1) := by decide +kernel
theorem dX0_comesRound_2 : decode cX0_comesRound 2 = .ok (.iconst 1, 1) := by decide +kernel
theorem dX0_comesRound_3 : decode cX0_comesRound 3 = .ok (.istore 4, 2) := by decide +kernel
theorem dX0_comesRound_5 : decode cX0_comesRound 5 = .ok (.iload 4, 2) := by decide +kernel
theorem dX0_comesRound_7 : decode cX0_comesRound 7 = .ok (.aload_n 0, 1) := by decide +kernel
theorem dX0_comesRound_8 : decode cX0_comesRound 8 = .ok (.getfield 15, 3) := by decide +kernel
theorem dX0_comesRound_11 : decode cX0_comesRound 11 = .ok (.if_icmp .gt 24, 3) := by decide +kernel
theorem dX0_comesRound_14 : decode cX0_comesRound 14 = .ok (.aload_n 0, 1) := by decide +kernel
theorem dX0_comesRound_15 : decode cX0_comesRound 15 = .ok (.iload_n 1, 1) := by decide +kernel
theorem dX0_comesRound_16 : decode cX0_comesRound 16 = .ok (.iload_n 3, 1) := by decide +kernel
theorem dX0_comesRound_17 : decode cX0_comesRound 17 = .ok (.invokevirtual 70, 3) := by decide +kernel
theorem dX0_comesRound_20 : decode cX0_comesRound 20 = .ok (.istore_n 3, 1) := by decide +kernel
theorem dX0_comesRound_21 : decode cX0_comesRound 21 = .ok (.iload_n 3, 1) := by decide +kernel
theorem dX0_comesRound_22 : decode cX0_comesRound 22 = .ok (.iload_n 2, 1) := by decide +kernel
theorem dX0_comesRound_23 : decode cX0_comesRound 23 = .ok (.if_icmp .ne 6, 3) := by decide +kernel
theorem dX0_comesRound_26 : decode cX0_comesRound 26 = .ok (.iload 4, 2) := by decide +kernel
theorem dX0_comesRound_28 : decode cX0_comesRound 28 = .ok (.ireturn, 1) := by decide +kernel
theorem dX0_comesRound_29 : decode cX0_comesRound 29 = .ok (.iinc 4 1, 3) := by decide +kernel
theorem dX0_comesRound_32 : decode cX0_comesRound 32 = .ok (.goto (-27), 3) := by decide +kernel
theorem dX0_comesRound_35 : decode cX0_comesRound 35 = .ok (.bipush (-9), 2) := by decide +kernel
theorem dX0_comesRound_37 : decode cX0_comesRound 37 = .ok (.ireturn, 1) := by decide +kernel
theorem dX0_said_0 : decode cX0_said 0 = .ok (.iload_n 3, 1) := by decide +kernel
theorem dX0_said_1 : decode cX0_said 1 = .ok (.iconst 1, 1) := by decide +kernel
theorem dX0_said_2 : decode cX0_said 2 = .ok (.if_icmp .ge 7, 3) := by decide +kernel
theorem dX0_said_5 : decode cX0_said 5 = .ok (.iconst 0, 1) := by decide +kernel
theorem dX0_said_6 : decode cX0_said 6 = .ok (.goto 10, 3) := by decide +kernel
theorem dX0_said_9 : decode cX0_said 9 = .ok (.iload_n 0, 1) := by decide +kernel
theorem dX0_said_10 : decode cX0_said 10 = .ok (.iload_n 2, 1) := by decide +kernel
theorem dX0_said_11 : decode cX0_said 11 = .ok (.imul, 1) := by decide +kernel
theorem dX0_said_12 : decode cX0_said 12 = .ok (.iload_n 1, 1) := by decide +kernel
theorem dX0_said_13 : decode cX0_said 13 = .ok (.iadd, 1) := by decide +kernel
theorem dX0_said_14 : decode cX0_said 14 = .ok (.iload_n 3, 1) := by decide +kernel
theorem dX0_said_15 : decode cX0_said 15 = .ok (.irem, 1) := by decide +kernel
theorem dX0_said_16 : decode cX0_said 16 = .ok (.ireturn, 1) := by decide +kernel
theorem dX1_init_0 : decode cX1_init 0 = .ok (.aload_n 0, 1) := by decide +kernel
theorem dX1_init_1 : decode cX1_init 1 = .ok (.invokespecial 3, 3) := by decide +kernel
theorem dX1_init_4 : decode cX1_init 4 = .ok (.aload_n 0, 1) := by decide +kernel
theorem dX1_init_5 : decode cX1_init 5 = .ok (.sipush 3750, 3) := by decide +kernel
theorem dX1_init_8 : decode cX1_init 8 = .ok (.newarray .int, 2) := by decide +kernel
theorem dX1_init_10 : decode cX1_init 10 = .ok (.putfield 9, 3) := by decide +kernel
theorem dX1_init_13 : decode cX1_init 13 = .ok (.aload_n 0, 1) := by decide +kernel
theorem dX1_init_14 : decode cX1_init 14 = .ok (.iconst 1, 1) := by decide +kernel
theorem dX1_init_15 : decode cX1_init 15 = .ok (.putfield 15, 3) := by decide +kernel
theorem dX1_init_18 : decode cX1_init 18 = .ok (.return_, 1) := by decide +kernel
theorem dX1_learn_0 : decode cX1_learn 0 = .ok (.aload_n 0, 1) := by decide +kernel
theorem dX1_learn_1 : decode cX1_learn 1 = .ok (.aload_n 1, 1) := by decide +kernel
theorem dX1_learn_2 : decode cX1_learn 2 = .ok (.getfield 19, 3) := by decide +kernel
theorem dX1_learn_5 : decode cX1_learn 5 = .ok (.bipush 6, 2) := by decide +kernel
theorem dX1_learn_7 : decode cX1_learn 7 = .ok (.invokestatic 24, 3) := by decide +kernel
theorem dX1_learn_10 : decode cX1_learn 10 = .ok (.putfield 30, 3) := by decide +kernel
theorem dX1_learn_13 : decode cX1_learn 13 = .ok (.aload_n 0, 1) := by decide +kernel
theorem dX1_learn_14 : decode cX1_learn 14 = .ok (.aload_n 1, 1) := by decide +kernel
theorem dX1_learn_15 : decode cX1_learn 15 = .ok (.getfield 31, 3) := by decide +kernel
theorem dX1_learn_18 : decode cX1_learn 18 = .ok (.sipush 625, 3) := by decide +kernel
theorem dX1_learn_21 : decode cX1_learn 21 = .ok (.invokestatic 24, 3) := by decide +kernel
theorem dX1_learn_24 : decode cX1_learn 24 = .ok (.putfield 15, 3) := by decide +kernel
theorem dX1_learn_27 : decode cX1_learn 27 = .ok (.iconst 0, 1) := by decide +kernel
theorem dX1_learn_28 : decode cX1_learn 28 = .ok (.istore_n 2, 1) := by decide +kernel
theorem dX1_learn_29 : decode cX1_learn 29 = .ok (.iload_n 2, 1) := by decide +kernel
theorem dX1_learn_30 : decode cX1_learn 30 = .ok (.aload_n 0, 1) := by decide +kernel
theorem dX1_learn_31 : decode cX1_learn 31 = .ok (.getfield 30, 3) := by decide +kernel
theorem dX1_learn_34 : decode cX1_learn 34 = .ok (.if_icmp .ge 56, 3) := by decide +kernel
theorem dX1_learn_37 : decode cX1_learn 37 = .ok (.iconst 0, 1) := by decide +kernel
theorem dX1_learn_38 : decode cX1_learn 38 = .ok (.istore_n 3, 1) := by decide +kernel
theorem dX1_learn_39 : decode cX1_learn 39 = .ok (.iload_n 3, 1) := by decide +kernel
theorem dX1_learn_40 : decode cX1_learn 40 = .ok (.aload_n 0, 1) := by decide +kernel
theorem dX1_learn_41 : decode cX1_learn 41 = .ok (.getfield 15, 3) := by decide +kernel
theorem dX1_learn_44 : decode cX1_learn 44 = .ok (.if_icmp .ge 40, 3) := by decide +kernel
theorem dX1_learn_47 : decode cX1_learn 47 = .ok (.aload_n 0, 1) := by decide +kernel
theorem dX1_learn_48 : decode cX1_learn 48 = .ok (.getfield 9, 3) := by decide +kernel
theorem dX1_learn_51 : decode cX1_learn 51 = .ok (.iload_n 2, 1) := by decide +kernel
theorem dX1_learn_52 : decode cX1_learn 52 = .ok (.sipush 625, 3) := by decide +kernel
theorem dX1_learn_55 : decode cX1_learn 55 = .ok (.imul, 1) := by decide +kernel
theorem dX1_learn_56 : decode cX1_learn 56 = .ok (.iload_n 3, 1) := by decide +kernel
theorem dX1_learn_57 : decode cX1_learn 57 = .ok (.iadd, 1) := by decide +kernel
theorem dX1_learn_58 : decode cX1_learn 58 = .ok (.aload_n 1, 1) := by decide +kernel
theorem dX1_learn_59 : decode cX1_learn 59 = .ok (.iload_n 2, 1) := by decide +kernel
theorem dX1_learn_60 : decode cX1_learn 60 = .ok (.iload_n 3, 1) := by decide +kernel
theorem dX1_learn_61 : decode cX1_learn 61 = .ok (.invokevirtual 32, 3) := by decide +kernel
theorem dX1_learn_64 : decode cX1_learn 64 = .ok (.ifCond .eq 7, 3) := by decide +kernel
theorem dX1_learn_67 : decode cX1_learn 67 = .ok (.iconst (-1), 1) := by decide +kernel
theorem dX1_learn_68 : decode cX1_learn 68 = .ok (.goto 9, 3) := by decide +kernel
theorem dX1_learn_71 : decode cX1_learn 71 = .ok (.aload_n 1, 1) := by decide +kernel
theorem dX1_learn_72 : decode cX1_learn 72 = .ok (.iload_n 2, 1) := by decide +kernel
theorem dX1_learn_73 : decode cX1_learn 73 = .ok (.iload_n 3, 1) := by decide +kernel
theorem dX1_learn_74 : decode cX1_learn 74 = .ok (.invokevirtual 36, 3) := by decide +kernel
theorem dX1_learn_77 : decode cX1_learn 77 = .ok (.iastore, 1) := by decide +kernel
theorem dX1_learn_78 : decode cX1_learn 78 = .ok (.iinc 3 1, 3) := by decide +kernel
theorem dX1_learn_81 : decode cX1_learn 81 = .ok (.goto (-42), 3) := by decide +kernel
theorem dX1_learn_84 : decode cX1_learn 84 = .ok (.iinc 2 1, 3) := by decide +kernel
theorem dX1_learn_87 : decode cX1_learn 87 = .ok (.goto (-58), 3) := by decide +kernel
theorem dX1_learn_90 : decode cX1_learn 90 = .ok (.return_, 1) := by decide +kernel
theorem dX1_copyBy_0 : decode cX1_copyBy 0 = .ok (.iload_n 1, 1) := by decide +kernel
theorem dX1_copyBy_1 : decode cX1_copyBy 1 = .ok (.ifCond .lt 38, 3) := by decide +kernel
theorem dX1_copyBy_4 : decode cX1_copyBy 4 = .ok (.iload_n 1, 1) := by decide +kernel
theorem dX1_copyBy_5 : decode cX1_copyBy 5 = .ok (.aload_n 0, 1) := by decide +kernel
theorem dX1_copyBy_6 : decode cX1_copyBy 6 = .ok (.getfield 30, 3) := by decide +kernel
theorem dX1_copyBy_9 : decode cX1_copyBy 9 = .ok (.if_icmp .ge 30, 3) := by decide +kernel
theorem dX1_copyBy_12 : decode cX1_copyBy 12 = .ok (.iload_n 2, 1) := by decide +kernel
theorem dX1_copyBy_13 : decode cX1_copyBy 13 = .ok (.ifCond .lt 26, 3) := by decide +kernel
theorem dX1_copyBy_16 : decode cX1_copyBy 16 = .ok (.iload_n 2, 1) := by decide +kernel
theorem dX1_copyBy_17 : decode cX1_copyBy 17 = .ok (.aload_n 0, 1) := by decide +kernel
theorem dX1_copyBy_18 : decode cX1_copyBy 18 = .ok (.getfield 15, 3) := by decide +kernel
theorem dX1_copyBy_21 : decode cX1_copyBy 21 = .ok (.if_icmp .ge 18, 3) := by decide +kernel
theorem dX1_copyBy_24 : decode cX1_copyBy 24 = .ok (.aload_n 0, 1) := by decide +kernel
theorem dX1_copyBy_25 : decode cX1_copyBy 25 = .ok (.getfield 9, 3) := by decide +kernel
theorem dX1_copyBy_28 : decode cX1_copyBy 28 = .ok (.iload_n 1, 1) := by decide +kernel
theorem dX1_copyBy_29 : decode cX1_copyBy 29 = .ok (.sipush 625, 3) := by decide +kernel
theorem dX1_copyBy_32 : decode cX1_copyBy 32 = .ok (.imul, 1) := by decide +kernel
theorem dX1_copyBy_33 : decode cX1_copyBy 33 = .ok (.iload_n 2, 1) := by decide +kernel
theorem dX1_copyBy_34 : decode cX1_copyBy 34 = .ok (.iadd, 1) := by decide +kernel
theorem dX1_copyBy_35 : decode cX1_copyBy 35 = .ok (.iaload, 1) := by decide +kernel
theorem dX1_copyBy_36 : decode cX1_copyBy 36 = .ok (.goto 4, 3) := by decide +kernel
theorem dX1_copyBy_39 : decode cX1_copyBy 39 = .ok (.iconst (-1), 1) := by decide +kernel
theorem dX1_copyBy_40 : decode cX1_copyBy 40 = .ok (.ireturn, 1) := by decide +kernel
theorem dX2_init_0 : decode cX2_init 0 = .ok (.aload_n 0, 1) := by decide +kernel
theorem dX2_init_1 : decode cX2_init 1 = .ok (.invokespecial 3, 3) := by decide +kernel
theorem dX2_init_4 : decode cX2_init 4 = .ok (.aload_n 0, 1) := by decide +kernel
theorem dX2_init_5 : decode cX2_init 5 = .ok (.bipush 6, 2) := by decide +kernel
theorem dX2_init_7 : decode cX2_init 7 = .ok (.newarray .int, 2) := by decide +kernel
theorem dX2_init_9 : decode cX2_init 9 = .ok (.putfield 11, 3) := by decide +kernel
theorem dX2_init_12 : decode cX2_init 12 = .ok (.aload_n 0, 1) := by decide +kernel
theorem dX2_init_13 : decode cX2_init 13 = .ok (.bipush 6, 2) := by decide +kernel
theorem dX2_init_15 : decode cX2_init 15 = .ok (.newarray .int, 2) := by decide +kernel
theorem dX2_init_17 : decode cX2_init 17 = .ok (.putfield 15, 3) := by decide +kernel
theorem dX2_init_20 : decode cX2_init 20 = .ok (.return_, 1) := by decide +kernel
theorem dX2_add_0 : decode cX2_add 0 = .ok (.aload_n 0, 1) := by decide +kernel
theorem dX2_add_1 : decode cX2_add 1 = .ok (.getfield 18, 3) := by decide +kernel
theorem dX2_add_4 : decode cX2_add 4 = .ok (.ifCond .lt 12, 3) := by decide +kernel
theorem dX2_add_7 : decode cX2_add 7 = .ok (.aload_n 0, 1) := by decide +kernel
theorem dX2_add_8 : decode cX2_add 8 = .ok (.getfield 18, 3) := by decide +kernel
theorem dX2_add_11 : decode cX2_add 11 = .ok (.bipush 6, 2) := by decide +kernel
theorem dX2_add_13 : decode cX2_add 13 = .ok (.if_icmp .lt 5, 3) := by decide +kernel
theorem dX2_add_16 : decode cX2_add 16 = .ok (.iconst 0, 1) := by decide +kernel
theorem dX2_add_17 : decode cX2_add 17 = .ok (.ireturn, 1) := by decide +kernel
theorem dX2_add_18 : decode cX2_add 18 = .ok (.aload_n 0, 1) := by decide +kernel
theorem dX2_add_19 : decode cX2_add 19 = .ok (.getfield 11, 3) := by decide +kernel
theorem dX2_add_22 : decode cX2_add 22 = .ok (.aload_n 0, 1) := by decide +kernel
theorem dX2_add_23 : decode cX2_add 23 = .ok (.getfield 18, 3) := by decide +kernel
theorem dX2_add_26 : decode cX2_add 26 = .ok (.iload_n 1, 1) := by decide +kernel
theorem dX2_add_27 : decode cX2_add 27 = .ok (.iastore, 1) := by decide +kernel
theorem dX2_add_28 : decode cX2_add 28 = .ok (.aload_n 0, 1) := by decide +kernel
theorem dX2_add_29 : decode cX2_add 29 = .ok (.getfield 15, 3) := by decide +kernel
theorem dX2_add_32 : decode cX2_add 32 = .ok (.aload_n 0, 1) := by decide +kernel
theorem dX2_add_33 : decode cX2_add 33 = .ok (.getfield 18, 3) := by decide +kernel
theorem dX2_add_36 : decode cX2_add 36 = .ok (.iload_n 2, 1) := by decide +kernel
theorem dX2_add_37 : decode cX2_add 37 = .ok (.iastore, 1) := by decide +kernel
theorem dX2_add_38 : decode cX2_add 38 = .ok (.aload_n 0, 1) := by decide +kernel
theorem dX2_add_39 : decode cX2_add 39 = .ok (.dup, 1) := by decide +kernel
theorem dX2_add_40 : decode cX2_add 40 = .ok (.getfield 18, 3) := by decide +kernel
theorem dX2_add_43 : decode cX2_add 43 = .ok (.iconst 1, 1) := by decide +kernel
theorem dX2_add_44 : decode cX2_add 44 = .ok (.iadd, 1) := by decide +kernel
theorem dX2_add_45 : decode cX2_add 45 = .ok (.putfield 18, 3) := by decide +kernel
theorem dX2_add_48 : decode cX2_add 48 = .ok (.iconst 1, 1) := by decide +kernel
theorem dX2_add_49 : decode cX2_add 49 = .ok (.ireturn, 1) := by decide +kernel
theorem dX2_empty_0 : decode cX2_empty 0 = .ok (.aload_n 0, 1) := by decide +kernel
theorem dX2_empty_1 : decode cX2_empty 1 = .ok (.getfield 18, 3) := by decide +kernel
theorem dX2_empty_4 : decode cX2_empty 4 = .ok (.istore_n 1, 1) := by decide +kernel
theorem dX2_empty_5 : decode cX2_empty 5 = .ok (.aload_n 0, 1) := by decide +kernel
theorem dX2_empty_6 : decode cX2_empty 6 = .ok (.iconst 0, 1) := by decide +kernel
theorem dX2_empty_7 : decode cX2_empty 7 = .ok (.putfield 18, 3) := by decide +kernel
theorem dX2_empty_10 : decode cX2_empty 10 = .ok (.iload_n 1, 1) := by decide +kernel
theorem dX2_empty_11 : decode cX2_empty 11 = .ok (.ireturn, 1) := by decide +kernel
theorem dX2_fits_0 : decode cX2_fits 0 = .ok (.iconst 0, 1) := by decide +kernel
theorem dX2_fits_1 : decode cX2_fits 1 = .ok (.istore 4, 2) := by decide +kernel
theorem dX2_fits_3 : decode cX2_fits 3 = .ok (.iload 4, 2) := by decide +kernel
theorem dX2_fits_5 : decode cX2_fits 5 = .ok (.aload_n 0, 1) := by decide +kernel
theorem dX2_fits_6 : decode cX2_fits 6 = .ok (.getfield 18, 3) := by decide +kernel
theorem dX2_fits_9 : decode cX2_fits 9 = .ok (.if_icmp .ge 41, 3) := by decide +kernel
theorem dX2_fits_12 : decode cX2_fits 12 = .ok (.iload 4, 2) := by decide +kernel
theorem dX2_fits_14 : decode cX2_fits 14 = .ok (.bipush 6, 2) := by decide +kernel
theorem dX2_fits_16 : decode cX2_fits 16 = .ok (.if_icmp .ge 34, 3) := by decide +kernel
theorem dX2_fits_19 : decode cX2_fits 19 = .ok (.iload_n 1, 1) := by decide +kernel
theorem dX2_fits_20 : decode cX2_fits 20 = .ok (.iload_n 2, 1) := by decide +kernel
theorem dX2_fits_21 : decode cX2_fits 21 = .ok (.aload_n 0, 1) := by decide +kernel
theorem dX2_fits_22 : decode cX2_fits 22 = .ok (.getfield 11, 3) := by decide +kernel
theorem dX2_fits_25 : decode cX2_fits 25 = .ok (.iload 4, 2) := by decide +kernel
theorem dX2_fits_27 : decode cX2_fits 27 = .ok (.iaload, 1) := by decide +kernel
theorem dX2_fits_28 : decode cX2_fits 28 = .ok (.iload_n 3, 1) := by decide +kernel
theorem dX2_fits_29 : decode cX2_fits 29 = .ok (.invokestatic 22, 3) := by decide +kernel
theorem dX2_fits_32 : decode cX2_fits 32 = .ok (.aload_n 0, 1) := by decide +kernel
theorem dX2_fits_33 : decode cX2_fits 33 = .ok (.getfield 15, 3) := by decide +kernel
theorem dX2_fits_36 : decode cX2_fits 36 = .ok (.iload 4, 2) := by decide +kernel
theorem dX2_fits_38 : decode cX2_fits 38 = .ok (.iaload, 1) := by decide +kernel
theorem dX2_fits_39 : decode cX2_fits 39 = .ok (.if_icmp .eq 5, 3) := by decide +kernel
theorem dX2_fits_42 : decode cX2_fits 42 = .ok (.iconst 0, 1) := by decide +kernel
theorem dX2_fits_43 : decode cX2_fits 43 = .ok (.ireturn, 1) := by decide +kernel
theorem dX2_fits_44 : decode cX2_fits 44 = .ok (.iinc 4 1, 3) := by decide +kernel
theorem dX2_fits_47 : decode cX2_fits 47 = .ok (.goto (-44), 3) := by decide +kernel
theorem dX2_fits_50 : decode cX2_fits 50 = .ok (.iconst 1, 1) := by decide +kernel
theorem dX2_fits_51 : decode cX2_fits 51 = .ok (.ireturn, 1) := by decide +kernel
theorem dX2_countFits_0 : decode cX2_countFits 0 = .ok (.iconst 0, 1) := by decide +kernel
theorem dX2_countFits_1 : decode cX2_countFits 1 = .ok (.istore_n 2, 1) := by decide +kernel
theorem dX2_countFits_2 : decode cX2_countFits 2 = .ok (.iconst 0, 1) := by decide +kernel
theorem dX2_countFits_3 : decode cX2_countFits 3 = .ok (.istore_n 3, 1) := by decide +kernel
theorem dX2_countFits_4 : decode cX2_countFits 4 = .ok (.iload_n 3, 1) := by decide +kernel
theorem dX2_countFits_5 : decode cX2_countFits 5 = .ok (.iload_n 1, 1) := by decide +kernel
theorem dX2_countFits_6 : decode cX2_countFits 6 = .ok (.if_icmp .ge 38, 3) := by decide +kernel
theorem dX2_countFits_9 : decode cX2_countFits 9 = .ok (.iconst 0, 1) := by decide +kernel
theorem dX2_countFits_10 : decode cX2_countFits 10 = .ok (.istore 4, 2) := by decide +kernel
theorem dX2_countFits_12 : decode cX2_countFits 12 = .ok (.iload 4, 2) := by decide +kernel
theorem dX2_countFits_14 : decode cX2_countFits 14 = .ok (.iload_n 1, 1) := by decide +kernel
theorem dX2_countFits_15 : decode cX2_countFits 15 = .ok (.if_icmp .ge 23, 3) := by decide +kernel
theorem dX2_countFits_18 : decode cX2_countFits 18 = .ok (.aload_n 0, 1) := by decide +kernel
theorem dX2_countFits_19 : decode cX2_countFits 19 = .ok (.iload_n 3, 1) := by decide +kernel
theorem dX2_countFits_20 : decode cX2_countFits 20 = .ok (.iload 4, 2) := by decide +kernel
theorem dX2_countFits_22 : decode cX2_countFits 22 = .ok (.iload_n 1, 1) := by decide +kernel
theorem dX2_countFits_23 : decode cX2_countFits 23 = .ok (.invokevirtual 27, 3) := by decide +kernel
theorem dX2_countFits_26 : decode cX2_countFits 26 = .ok (.ifCond .eq 6, 3) := by decide +kernel
theorem dX2_countFits_29 : decode cX2_countFits 29 = .ok (.iinc 2 1, 3) := by decide +kernel
theorem dX2_countFits_32 : decode cX2_countFits 32 = .ok (.iinc 4 1, 3) := by decide +kernel
theorem dX2_countFits_35 : decode cX2_countFits 35 = .ok (.goto (-23), 3) := by decide +kernel
theorem dX2_countFits_38 : decode cX2_countFits 38 = .ok (.iinc 3 1, 3) := by decide +kernel
theorem dX2_countFits_41 : decode cX2_countFits 41 = .ok (.goto (-37), 3) := by decide +kernel
theorem dX2_countFits_44 : decode cX2_countFits 44 = .ok (.iload_n 2, 1) := by decide +kernel
theorem dX2_countFits_45 : decode cX2_countFits 45 = .ok (.ireturn, 1) := by decide +kernel
theorem dX2_firstFit_0 : decode cX2_firstFit 0 = .ok (.iconst 0, 1) := by decide +kernel
theorem dX2_firstFit_1 : decode cX2_firstFit 1 = .ok (.istore_n 2, 1) := by decide +kernel
theorem dX2_firstFit_2 : decode cX2_firstFit 2 = .ok (.iload_n 2, 1) := by decide +kernel
theorem dX2_firstFit_3 : decode cX2_firstFit 3 = .ok (.iload_n 1, 1) := by decide +kernel
theorem dX2_firstFit_4 : decode cX2_firstFit 4 = .ok (.if_icmp .ge 39, 3) := by decide +kernel
theorem dX2_firstFit_7 : decode cX2_firstFit 7 = .ok (.iconst 0, 1) := by decide +kernel
theorem dX2_firstFit_8 : decode cX2_firstFit 8 = .ok (.istore_n 3, 1) := by decide +kernel
theorem dX2_firstFit_9 : decode cX2_firstFit 9 = .ok (.iload_n 3, 1) := by decide +kernel
theorem dX2_firstFit_10 : decode cX2_firstFit 10 = .ok (.iload_n 1, 1) := by decide +kernel
theorem dX2_firstFit_11 : decode cX2_firstFit 11 = .ok (.if_icmp .ge 26, 3) := by decide +kernel
theorem dX2_firstFit_14 : decode cX2_firstFit 14 = .ok (.aload_n 0, 1) := by decide +kernel
theorem dX2_firstFit_15 : decode cX2_firstFit 15 = .ok (.iload_n 2, 1) := by decide +kernel
theorem dX2_firstFit_16 : decode cX2_firstFit 16 = .ok (.iload_n 3, 1) := by decide +kernel
theorem dX2_firstFit_17 : decode cX2_firstFit 17 = .ok (.iload_n 1, 1) := by decide +kernel
theorem dX2_firstFit_18 : decode cX2_firstFit 18 = .ok (.invokevirtual 27, 3) := by decide +kernel
theorem dX2_firstFit_21 : decode cX2_firstFit 21 = .ok (.ifCond .eq 10, 3) := by decide +kernel
theorem dX2_firstFit_24 : decode cX2_firstFit 24 = .ok (.bipush 10, 2) := by decide +kernel
theorem dX2_firstFit_26 : decode cX2_firstFit 26 = .ok (.iload_n 2, 1) := by decide +kernel
theorem dX2_firstFit_27 : decode cX2_firstFit 27 = .ok (.imul, 1) := by decide +kernel
theorem dX2_firstFit_28 : decode cX2_firstFit 28 = .ok (.iload_n 3, 1) := by decide +kernel
theorem dX2_firstFit_29 : decode cX2_firstFit 29 = .ok (.iadd, 1) := by decide +kernel
theorem dX2_firstFit_30 : decode cX2_firstFit 30 = .ok (.ireturn, 1) := by decide +kernel
theorem dX2_firstFit_31 : decode cX2_firstFit 31 = .ok (.iinc 3 1, 3) := by decide +kernel
theorem dX2_firstFit_34 : decode cX2_firstFit 34 = .ok (.goto (-25), 3) := by decide +kernel
theorem dX2_firstFit_37 : decode cX2_firstFit 37 = .ok (.iinc 2 1, 3) := by decide +kernel
theorem dX2_firstFit_40 : decode cX2_firstFit 40 = .ok (.goto (-38), 3) := by decide +kernel
theorem dX2_firstFit_43 : decode cX2_firstFit 43 = .ok (.bipush (-9), 2) := by decide +kernel
theorem dX2_firstFit_45 : decode cX2_firstFit 45 = .ok (.ireturn, 1) := by decide +kernel
theorem dX2_mostTelling_0 : decode cX2_mostTelling 0 = .ok (.bipush (-9), 2) := by decide +kernel
theorem dX2_mostTelling_2 : decode cX2_mostTelling 2 = .ok (.istore_n 2, 1) := by decide +kernel
theorem dX2_mostTelling_3 : decode cX2_mostTelling 3 = .ok (.iconst 0, 1) := by decide +kernel
theorem dX2_mostTelling_4 : decode cX2_mostTelling 4 = .ok (.istore_n 3, 1) := by decide +kernel
theorem dX2_mostTelling_5 : decode cX2_mostTelling 5 = .ok (.iconst 0, 1) := by decide +kernel
theorem dX2_mostTelling_6 : decode cX2_mostTelling 6 = .ok (.istore 4, 2) := by decide +kernel
theorem dX2_mostTelling_8 : decode cX2_mostTelling 8 = .ok (.iload 4, 2) := by decide +kernel
theorem dX2_mostTelling_10 : decode cX2_mostTelling 10 = .ok (.iload_n 1, 1) := by decide +kernel
theorem dX2_mostTelling_11 : decode cX2_mostTelling 11 = .ok (.if_icmp .ge 33, 3) := by decide +kernel
theorem dX2_mostTelling_14 : decode cX2_mostTelling 14 = .ok (.aload_n 0, 1) := by decide +kernel
theorem dX2_mostTelling_15 : decode cX2_mostTelling 15 = .ok (.iload 4, 2) := by decide +kernel
theorem dX2_mostTelling_17 : decode cX2_mostTelling 17 = .ok (.iload_n 1, 1) := by decide +kernel
theorem dX2_mostTelling_18 : decode cX2_mostTelling 18 = .ok (.invokevirtual 31, 3) := by decide +kernel
theorem dX2_mostTelling_21 : decode cX2_mostTelling 21 = .ok (.invokestatic 35, 3) := by decide +kernel
theorem dX2_mostTelling_24 : decode cX2_mostTelling 24 = .ok (.istore 5, 2) := by decide +kernel
theorem dX2_mostTelling_26 : decode cX2_mostTelling 26 = .ok (.iload 5, 2) := by decide +kernel
theorem dX2_mostTelling_28 : decode cX2_mostTelling 28 = .ok (.iload_n 3, 1) := by decide +kernel
theorem dX2_mostTelling_29 : decode cX2_mostTelling 29 = .ok (.if_icmp .le 9, 3) := by decide +kernel
theorem dX2_mostTelling_32 : decode cX2_mostTelling 32 = .ok (.iload 5, 2) := by decide +kernel
theorem dX2_mostTelling_34 : decode cX2_mostTelling 34 = .ok (.istore_n 3, 1) := by decide +kernel
theorem dX2_mostTelling_35 : decode cX2_mostTelling 35 = .ok (.iload 4, 2) := by decide +kernel
theorem dX2_mostTelling_37 : decode cX2_mostTelling 37 = .ok (.istore_n 2, 1) := by decide +kernel
theorem dX2_mostTelling_38 : decode cX2_mostTelling 38 = .ok (.iinc 4 1, 3) := by decide +kernel
theorem dX2_mostTelling_41 : decode cX2_mostTelling 41 = .ok (.goto (-33), 3) := by decide +kernel
theorem dX2_mostTelling_44 : decode cX2_mostTelling 44 = .ok (.iload_n 2, 1) := by decide +kernel
theorem dX2_mostTelling_45 : decode cX2_mostTelling 45 = .ok (.ireturn, 1) := by decide +kernel
theorem dX2_answersTo_0 : decode cX2_answersTo 0 = .ok (.iconst 0, 1) := by decide +kernel
theorem dX2_answersTo_1 : decode cX2_answersTo 1 = .ok (.istore_n 3, 1) := by decide +kernel
theorem dX2_answersTo_2 : decode cX2_answersTo 2 = .ok (.iconst 0, 1) := by decide +kernel
theorem dX2_answersTo_3 : decode cX2_answersTo 3 = .ok (.istore 4, 2) := by decide +kernel
theorem dX2_answersTo_5 : decode cX2_answersTo 5 = .ok (.iload 4, 2) := by decide +kernel
theorem dX2_answersTo_7 : decode cX2_answersTo 7 = .ok (.iload_n 2, 1) := by decide +kernel
theorem dX2_answersTo_8 : decode cX2_answersTo 8 = .ok (.if_icmp .ge 50, 3) := by decide +kernel
theorem dX2_answersTo_11 : decode cX2_answersTo 11 = .ok (.iconst 0, 1) := by decide +kernel
theorem dX2_answersTo_12 : decode cX2_answersTo 12 = .ok (.istore 5, 2) := by decide +kernel
theorem dX2_answersTo_14 : decode cX2_answersTo 14 = .ok (.iload 5, 2) := by decide +kernel
theorem dX2_answersTo_16 : decode cX2_answersTo 16 = .ok (.iload_n 2, 1) := by decide +kernel
theorem dX2_answersTo_17 : decode cX2_answersTo 17 = .ok (.if_icmp .ge 35, 3) := by decide +kernel
theorem dX2_answersTo_20 : decode cX2_answersTo 20 = .ok (.aload_n 0, 1) := by decide +kernel
theorem dX2_answersTo_21 : decode cX2_answersTo 21 = .ok (.iload 4, 2) := by decide +kernel
theorem dX2_answersTo_23 : decode cX2_answersTo 23 = .ok (.iload 5, 2) := by decide +kernel
theorem dX2_answersTo_25 : decode cX2_answersTo 25 = .ok (.iload_n 2, 1) := by decide +kernel
theorem dX2_answersTo_26 : decode cX2_answersTo 26 = .ok (.invokevirtual 27, 3) := by decide +kernel
theorem dX2_answersTo_29 : decode cX2_answersTo 29 = .ok (.ifCond .eq 17, 3) := by decide +kernel
theorem dX2_answersTo_32 : decode cX2_answersTo 32 = .ok (.iload_n 3, 1) := by decide +kernel
theorem dX2_answersTo_33 : decode cX2_answersTo 33 = .ok (.iconst 1, 1) := by decide +kernel
theorem dX2_answersTo_34 : decode cX2_answersTo 34 = .ok (.iload 4, 2) := by decide +kernel
theorem dX2_answersTo_36 : decode cX2_answersTo 36 = .ok (.iload 5, 2) := by decide +kernel
theorem dX2_answersTo_38 : decode cX2_answersTo 38 = .ok (.iload_n 1, 1) := by decide +kernel
theorem dX2_answersTo_39 : decode cX2_answersTo 39 = .ok (.iload_n 2, 1) := by decide +kernel
theorem dX2_answersTo_40 : decode cX2_answersTo 40 = .ok (.invokestatic 22, 3) := by decide +kernel
theorem dX2_answersTo_43 : decode cX2_answersTo 43 = .ok (.ishl, 1) := by decide +kernel
theorem dX2_answersTo_44 : decode cX2_answersTo 44 = .ok (.ior, 1) := by decide +kernel
theorem dX2_answersTo_45 : decode cX2_answersTo 45 = .ok (.istore_n 3, 1) := by decide +kernel
theorem dX2_answersTo_46 : decode cX2_answersTo 46 = .ok (.iinc 5 1, 3) := by decide +kernel
theorem dX2_answersTo_49 : decode cX2_answersTo 49 = .ok (.goto (-35), 3) := by decide +kernel
theorem dX2_answersTo_52 : decode cX2_answersTo 52 = .ok (.iinc 4 1, 3) := by decide +kernel
theorem dX2_answersTo_55 : decode cX2_answersTo 55 = .ok (.goto (-50), 3) := by decide +kernel
theorem dX2_answersTo_58 : decode cX2_answersTo 58 = .ok (.iload_n 3, 1) := by decide +kernel
theorem dX2_answersTo_59 : decode cX2_answersTo 59 = .ok (.ireturn, 1) := by decide +kernel
theorem dX2_fittingScribes_0 : decode cX2_fittingScribes 0 = .ok (.iconst 0, 1) := by decide +kernel
theorem dX2_fittingScribes_1 : decode cX2_fittingScribes 1 = .ok (.istore_n 2, 1) := by decide +kernel
theorem dX2_fittingScribes_2 : decode cX2_fittingScribes 2 = .ok (.iconst 0, 1) := by decide +kernel
theorem dX2_fittingScribes_3 : decode cX2_fittingScribes 3 = .ok (.istore_n 3, 1) := by decide +kernel
theorem dX2_fittingScribes_4 : decode cX2_fittingScribes 4 = .ok (.iload_n 3, 1) := by decide +kernel
theorem dX2_fittingScribes_5 : decode cX2_fittingScribes 5 = .ok (.aload_n 1, 1) := by decide +kernel
theorem dX2_fittingScribes_6 : decode cX2_fittingScribes 6 = .ok (.getfield 41, 3) := by decide +kernel
theorem dX2_fittingScribes_9 : decode cX2_fittingScribes 9 = .ok (.if_icmp .ge 36, 3) := by decide +kernel
theorem dX2_fittingScribes_12 : decode cX2_fittingScribes 12 = .ok (.aload_n 0, 1) := by decide +kernel
theorem dX2_fittingScribes_13 : decode cX2_fittingScribes 13 = .ok (.aload_n 1, 1) := by decide +kernel
theorem dX2_fittingScribes_14 : decode cX2_fittingScribes 14 = .ok (.iload_n 3, 1) := by decide +kernel
theorem dX2_fittingScribes_15 : decode cX2_fittingScribes 15 = .ok (.invokevirtual 44, 3) := by decide +kernel
theorem dX2_fittingScribes_18 : decode cX2_fittingScribes 18 = .ok (.aload_n 1, 1) := by decide +kernel
theorem dX2_fittingScribes_19 : decode cX2_fittingScribes 19 = .ok (.iload_n 3, 1) := by decide +kernel
theorem dX2_fittingScribes_20 : decode cX2_fittingScribes 20 = .ok (.invokevirtual 47, 3) := by decide +kernel
theorem dX2_fittingScribes_23 : decode cX2_fittingScribes 23 = .ok (.aload_n 1, 1) := by decide +kernel
theorem dX2_fittingScribes_24 : decode cX2_fittingScribes 24 = .ok (.getfield 50, 3) := by decide +kernel
theorem dX2_fittingScribes_27 : decode cX2_fittingScribes 27 = .ok (.invokevirtual 27, 3) := by decide +kernel
theorem dX2_fittingScribes_30 : decode cX2_fittingScribes 30 = .ok (.ifCond .eq 9, 3) := by decide +kernel
theorem dX2_fittingScribes_33 : decode cX2_fittingScribes 33 = .ok (.iload_n 2, 1) := by decide +kernel
theorem dX2_fittingScribes_34 : decode cX2_fittingScribes 34 = .ok (.iconst 1, 1) := by decide +kernel
theorem dX2_fittingScribes_35 : decode cX2_fittingScribes 35 = .ok (.iload_n 3, 1) := by decide +kernel
theorem dX2_fittingScribes_36 : decode cX2_fittingScribes 36 = .ok (.ishl, 1) := by decide +kernel
theorem dX2_fittingScribes_37 : decode cX2_fittingScribes 37 = .ok (.ior, 1) := by decide +kernel
theorem dX2_fittingScribes_38 : decode cX2_fittingScribes 38 = .ok (.istore_n 2, 1) := by decide +kernel
theorem dX2_fittingScribes_39 : decode cX2_fittingScribes 39 = .ok (.iinc 3 1, 3) := by decide +kernel
theorem dX2_fittingScribes_42 : decode cX2_fittingScribes 42 = .ok (.goto (-38), 3) := by decide +kernel
theorem dX2_fittingScribes_45 : decode cX2_fittingScribes 45 = .ok (.iload_n 2, 1) := by decide +kernel
theorem dX2_fittingScribes_46 : decode cX2_fittingScribes 46 = .ok (.ireturn, 1) := by decide +kernel
theorem dX3_init_0 : decode cX3_init 0 = .ok (.aload_n 0, 1) := by decide +kernel
theorem dX3_init_1 : decode cX3_init 1 = .ok (.invokespecial 1, 3) := by decide +kernel
theorem dX3_init_4 : decode cX3_init 4 = .ok (.return_, 1) := by decide +kernel
theorem dX3_isKind_0 : decode cX3_isKind 0 = .ok (.iload_n 0, 1) := by decide +kernel
theorem dX3_isKind_1 : decode cX3_isKind 1 = .ok (.ifCond .lt 13, 3) := by decide +kernel
theorem dX3_isKind_4 : decode cX3_isKind 4 = .ok (.iload_n 0, 1) := by decide +kernel
theorem dX3_isKind_5 : decode cX3_isKind 5 = .ok (.bipush 6, 2) := by decide +kernel
theorem dX3_isKind_7 : decode cX3_isKind 7 = .ok (.if_icmp .ge 7, 3) := by decide +kernel
theorem dX3_isKind_10 : decode cX3_isKind 10 = .ok (.iconst 1, 1) := by decide +kernel
theorem dX3_isKind_11 : decode cX3_isKind 11 = .ok (.goto 4, 3) := by decide +kernel
theorem dX3_isKind_14 : decode cX3_isKind 14 = .ok (.iconst 0, 1) := by decide +kernel
theorem dX3_isKind_15 : decode cX3_isKind 15 = .ok (.ireturn, 1) := by decide +kernel
theorem dX3_ask_0 : decode cX3_ask 0 = .ok (.iload_n 1, 1) := by decide +kernel
theorem dX3_ask_1 : decode cX3_ask 1 = .ok (.invokestatic 9, 3) := by decide +kernel
theorem dX3_ask_4 : decode cX3_ask 4 = .ok (.ifCond .eq 9, 3) := by decide +kernel
theorem dX3_ask_7 : decode cX3_ask 7 = .ok (.iload_n 2, 1) := by decide +kernel
theorem dX3_ask_8 : decode cX3_ask 8 = .ok (.bipush 6, 2) := by decide +kernel
theorem dX3_ask_10 : decode cX3_ask 10 = .ok (.if_icmp .lt 5, 3) := by decide +kernel
theorem dX3_ask_13 : decode cX3_ask 13 = .ok (.iconst 0, 1) := by decide +kernel
theorem dX3_ask_14 : decode cX3_ask 14 = .ok (.ireturn, 1) := by decide +kernel
theorem dX3_ask_15 : decode cX3_ask 15 = .ok (.aload_n 0, 1) := by decide +kernel
theorem dX3_ask_16 : decode cX3_ask 16 = .ok (.dup, 1) := by decide +kernel
theorem dX3_ask_17 : decode cX3_ask 17 = .ok (.getfield 13, 3) := by decide +kernel
theorem dX3_ask_20 : decode cX3_ask 20 = .ok (.getstatic 17, 3) := by decide +kernel
theorem dX3_ask_23 : decode cX3_ask 23 = .ok (.iload_n 1, 1) := by decide +kernel
theorem dX3_ask_24 : decode cX3_ask 24 = .ok (.iaload, 1) := by decide +kernel
theorem dX3_ask_25 : decode cX3_ask 25 = .ok (.i2l, 1) := by decide +kernel
theorem dX3_ask_26 : decode cX3_ask 26 = .ok (.ladd, 1) := by decide +kernel
theorem dX3_ask_27 : decode cX3_ask 27 = .ok (.putfield 13, 3) := by decide +kernel
theorem dX3_ask_30 : decode cX3_ask 30 = .ok (.aload_n 0, 1) := by decide +kernel
theorem dX3_ask_31 : decode cX3_ask 31 = .ok (.getstatic 21, 3) := by decide +kernel
theorem dX3_ask_34 : decode cX3_ask 34 = .ok (.iload_n 1, 1) := by decide +kernel
theorem dX3_ask_35 : decode cX3_ask 35 = .ok (.iaload, 1) := by decide +kernel
theorem dX3_ask_36 : decode cX3_ask 36 = .ok (.iload_n 2, 1) := by decide +kernel
theorem dX3_ask_37 : decode cX3_ask 37 = .ok (.iconst 1, 1) := by decide +kernel
theorem dX3_ask_38 : decode cX3_ask 38 = .ok (.iadd, 1) := by decide +kernel
theorem dX3_ask_39 : decode cX3_ask 39 = .ok (.invokevirtual 24, 3) := by decide +kernel
theorem dX3_ask_42 : decode cX3_ask 42 = .ok (.istore_n 3, 1) := by decide +kernel
theorem dX3_ask_43 : decode cX3_ask 43 = .ok (.iload_n 1, 1) := by decide +kernel
theorem dX3_ask_44 : decode cX3_ask 44 = .ok (.tableswitch 66 0 4 #[36, 41, 48, 55, 59], 36) := by decide +kernel
theorem dX3_ask_80 : decode cX3_ask 80 = .ok (.aload_n 0, 1) := by decide +kernel
theorem dX3_ask_81 : decode cX3_ask 81 = .ok (.getfield 28, 3) := by decide +kernel
theorem dX3_ask_84 : decode cX3_ask 84 = .ok (.ireturn, 1) := by decide +kernel
theorem dX3_ask_85 : decode cX3_ask 85 = .ok (.iload_n 3, 1) := by decide +kernel
theorem dX3_ask_86 : decode cX3_ask 86 = .ok (.aload_n 0, 1) := by decide +kernel
theorem dX3_ask_87 : decode cX3_ask 87 = .ok (.getfield 32, 3) := by decide +kernel
theorem dX3_ask_90 : decode cX3_ask 90 = .ok (.iadd, 1) := by decide +kernel
theorem dX3_ask_91 : decode cX3_ask 91 = .ok (.ireturn, 1) := by decide +kernel
theorem dX3_ask_92 : decode cX3_ask 92 = .ok (.iload_n 3, 1) := by decide +kernel
theorem dX3_ask_93 : decode cX3_ask 93 = .ok (.aload_n 0, 1) := by decide +kernel
theorem dX3_ask_94 : decode cX3_ask 94 = .ok (.getfield 35, 3) := by decide +kernel
theorem dX3_ask_97 : decode cX3_ask 97 = .ok (.isub, 1) := by decide +kernel
theorem dX3_ask_98 : decode cX3_ask 98 = .ok (.ireturn, 1) := by decide +kernel
theorem dX3_ask_99 : decode cX3_ask 99 = .ok (.iload_n 3, 1) := by decide +kernel
theorem dX3_ask_100 : decode cX3_ask 100 = .ok (.iconst 2, 1) := by decide +kernel
theorem dX3_ask_101 : decode cX3_ask 101 = .ok (.imul, 1) := by decide +kernel
theorem dX3_ask_102 : decode cX3_ask 102 = .ok (.ireturn, 1) := by decide +kernel
theorem dX3_ask_103 : decode cX3_ask 103 = .ok (.iload_n 3, 1) := by decide +kernel
theorem dX3_ask_104 : decode cX3_ask 104 = .ok (.aload_n 0, 1) := by decide +kernel
theorem dX3_ask_105 : decode cX3_ask 105 = .ok (.getfield 38, 3) := by decide +kernel
theorem dX3_ask_108 : decode cX3_ask 108 = .ok (.iadd, 1) := by decide +kernel
theorem dX3_ask_109 : decode cX3_ask 109 = .ok (.ireturn, 1) := by decide +kernel
theorem dX3_ask_110 : decode cX3_ask 110 = .ok (.iload_n 3, 1) := by decide +kernel
theorem dX3_ask_111 : decode cX3_ask 111 = .ok (.aload_n 0, 1) := by decide +kernel
theorem dX3_ask_112 : decode cX3_ask 112 = .ok (.getfield 41, 3) := by decide +kernel
theorem dX3_ask_115 : decode cX3_ask 115 = .ok (.iadd, 1) := by decide +kernel
theorem dX3_ask_116 : decode cX3_ask 116 = .ok (.ireturn, 1) := by decide +kernel
theorem dX4_init_0 : decode cX4_init 0 = .ok (.aload_n 0, 1) := by decide +kernel
theorem dX4_init_1 : decode cX4_init 1 = .ok (.invokespecial 3, 3) := by decide +kernel
theorem dX4_init_4 : decode cX4_init 4 = .ok (.aload_n 0, 1) := by decide +kernel
theorem dX4_init_5 : decode cX4_init 5 = .ok (.bipush 120, 2) := by decide +kernel
theorem dX4_init_7 : decode cX4_init 7 = .ok (.newarray .int, 2) := by decide +kernel
theorem dX4_init_9 : decode cX4_init 9 = .ok (.putfield 11, 3) := by decide +kernel
theorem dX4_init_12 : decode cX4_init 12 = .ok (.return_, 1) := by decide +kernel
theorem dX4_add_0 : decode cX4_add 0 = .ok (.aload_n 0, 1) := by decide +kernel
theorem dX4_add_1 : decode cX4_add 1 = .ok (.getfield 15, 3) := by decide +kernel
theorem dX4_add_4 : decode cX4_add 4 = .ok (.ifCond .lt 12, 3) := by decide +kernel
theorem dX4_add_7 : decode cX4_add 7 = .ok (.aload_n 0, 1) := by decide +kernel
theorem dX4_add_8 : decode cX4_add 8 = .ok (.getfield 15, 3) := by decide +kernel
theorem dX4_add_11 : decode cX4_add 11 = .ok (.bipush 120, 2) := by decide +kernel
theorem dX4_add_13 : decode cX4_add 13 = .ok (.if_icmp .lt 5, 3) := by decide +kernel
theorem dX4_add_16 : decode cX4_add 16 = .ok (.iconst 0, 1) := by decide +kernel
theorem dX4_add_17 : decode cX4_add 17 = .ok (.ireturn, 1) := by decide +kernel
theorem dX4_add_18 : decode cX4_add 18 = .ok (.aload_n 0, 1) := by decide +kernel
theorem dX4_add_19 : decode cX4_add 19 = .ok (.getfield 11, 3) := by decide +kernel
theorem dX4_add_22 : decode cX4_add 22 = .ok (.aload_n 0, 1) := by decide +kernel
theorem dX4_add_23 : decode cX4_add 23 = .ok (.getfield 15, 3) := by decide +kernel
theorem dX4_add_26 : decode cX4_add 26 = .ok (.iload_n 1, 1) := by decide +kernel
theorem dX4_add_27 : decode cX4_add 27 = .ok (.iastore, 1) := by decide +kernel
theorem dX4_add_28 : decode cX4_add 28 = .ok (.aload_n 0, 1) := by decide +kernel
theorem dX4_add_29 : decode cX4_add 29 = .ok (.dup, 1) := by decide +kernel
theorem dX4_add_30 : decode cX4_add 30 = .ok (.getfield 15, 3) := by decide +kernel
theorem dX4_add_33 : decode cX4_add 33 = .ok (.iconst 1, 1) := by decide +kernel
theorem dX4_add_34 : decode cX4_add 34 = .ok (.iadd, 1) := by decide +kernel
theorem dX4_add_35 : decode cX4_add 35 = .ok (.putfield 15, 3) := by decide +kernel
theorem dX4_add_38 : decode cX4_add 38 = .ok (.iconst 1, 1) := by decide +kernel
theorem dX4_add_39 : decode cX4_add 39 = .ok (.ireturn, 1) := by decide +kernel
theorem dX4_empty_0 : decode cX4_empty 0 = .ok (.aload_n 0, 1) := by decide +kernel
theorem dX4_empty_1 : decode cX4_empty 1 = .ok (.getfield 15, 3) := by decide +kernel
theorem dX4_empty_4 : decode cX4_empty 4 = .ok (.istore_n 1, 1) := by decide +kernel
theorem dX4_empty_5 : decode cX4_empty 5 = .ok (.aload_n 0, 1) := by decide +kernel
theorem dX4_empty_6 : decode cX4_empty 6 = .ok (.iconst 0, 1) := by decide +kernel
theorem dX4_empty_7 : decode cX4_empty 7 = .ok (.putfield 15, 3) := by decide +kernel
theorem dX4_empty_10 : decode cX4_empty 10 = .ok (.iload_n 1, 1) := by decide +kernel
theorem dX4_empty_11 : decode cX4_empty 11 = .ok (.ireturn, 1) := by decide +kernel
theorem dX4_read_0 : decode cX4_read 0 = .ok (.aload_n 1, 1) := by decide +kernel
theorem dX4_read_1 : decode cX4_read 1 = .ok (.invokevirtual 19, 3) := by decide +kernel
theorem dX4_read_4 : decode cX4_read 4 = .ok (.aload_n 0, 1) := by decide +kernel
theorem dX4_read_5 : decode cX4_read 5 = .ok (.iconst 0, 1) := by decide +kernel
theorem dX4_read_6 : decode cX4_read 6 = .ok (.putfield 24, 3) := by decide +kernel
theorem dX4_read_9 : decode cX4_read 9 = .ok (.aload_n 0, 1) := by decide +kernel
theorem dX4_read_10 : decode cX4_read 10 = .ok (.iconst 0, 1) := by decide +kernel
theorem dX4_read_11 : decode cX4_read 11 = .ok (.putfield 27, 3) := by decide +kernel
theorem dX4_read_14 : decode cX4_read 14 = .ok (.aload_n 0, 1) := by decide +kernel
theorem dX4_read_15 : decode cX4_read 15 = .ok (.iconst 0, 1) := by decide +kernel
theorem dX4_read_16 : decode cX4_read 16 = .ok (.putfield 31, 3) := by decide +kernel
theorem dX4_read_19 : decode cX4_read 19 = .ok (.iconst 0, 1) := by decide +kernel
theorem dX4_read_20 : decode cX4_read 20 = .ok (.istore_n 2, 1) := by decide +kernel
theorem dX4_read_21 : decode cX4_read 21 = .ok (.iload_n 2, 1) := by decide +kernel
theorem dX4_read_22 : decode cX4_read 22 = .ok (.bipush 120, 2) := by decide +kernel
theorem dX4_read_24 : decode cX4_read 24 = .ok (.if_icmp .gt 186, 3) := by decide +kernel
theorem dX4_read_27 : decode cX4_read 27 = .ok (.aload_n 0, 1) := by decide +kernel
theorem dX4_read_28 : decode cX4_read 28 = .ok (.invokevirtual 34, 3) := by decide +kernel
theorem dX4_read_31 : decode cX4_read 31 = .ok (.aload_n 0, 1) := by decide +kernel
theorem dX4_read_32 : decode cX4_read 32 = .ok (.getfield 37, 3) := by decide +kernel
theorem dX4_read_35 : decode cX4_read 35 = .ok (.ifCond .ne 5, 3) := by decide +kernel
theorem dX4_read_38 : decode cX4_read 38 = .ok (.iload_n 2, 1) := by decide +kernel
theorem dX4_read_39 : decode cX4_read 39 = .ok (.ireturn, 1) := by decide +kernel
theorem dX4_read_40 : decode cX4_read 40 = .ok (.aload_n 0, 1) := by decide +kernel
theorem dX4_read_41 : decode cX4_read 41 = .ok (.getfield 37, 3) := by decide +kernel
theorem dX4_read_44 : decode cX4_read 44 = .ok (.iconst 1, 1) := by decide +kernel
theorem dX4_read_45 : decode cX4_read 45 = .ok (.if_icmp .ne 10, 3) := by decide +kernel
theorem dX4_read_48 : decode cX4_read 48 = .ok (.aload_n 0, 1) := by decide +kernel
theorem dX4_read_49 : decode cX4_read 49 = .ok (.getfield 40, 3) := by decide +kernel
theorem dX4_read_52 : decode cX4_read 52 = .ok (.goto 4, 3) := by decide +kernel
theorem dX4_read_55 : decode cX4_read 55 = .ok (.iconst 0, 1) := by decide +kernel
theorem dX4_read_56 : decode cX4_read 56 = .ok (.lookupswitch 139 #[(98, 65), (110, 115), (111, 44), (115, 89)], 44) := by decide +kernel
theorem dX4_read_100 : decode cX4_read 100 = .ok (.iload_n 2, 1) := by decide +kernel
theorem dX4_read_101 : decode cX4_read 101 = .ok (.ifCond .ne 15, 3) := by decide +kernel
theorem dX4_read_104 : decode cX4_read 104 = .ok (.aload_n 0, 1) := by decide +kernel
theorem dX4_read_105 : decode cX4_read 105 = .ok (.aload_n 1, 1) := by decide +kernel
theorem dX4_read_106 : decode cX4_read 106 = .ok (.invokevirtual 43, 3) := by decide +kernel
theorem dX4_read_109 : decode cX4_read 109 = .ok (.ifCond .eq 7, 3) := by decide +kernel
theorem dX4_read_112 : decode cX4_read 112 = .ok (.iconst 1, 1) := by decide +kernel
theorem dX4_read_113 : decode cX4_read 113 = .ok (.goto 4, 3) := by decide +kernel
theorem dX4_read_116 : decode cX4_read 116 = .ok (.iconst 0, 1) := by decide +kernel
theorem dX4_read_117 : decode cX4_read 117 = .ok (.istore_n 3, 1) := by decide +kernel
theorem dX4_read_118 : decode cX4_read 118 = .ok (.goto 79, 3) := by decide +kernel
theorem dX4_read_121 : decode cX4_read 121 = .ok (.aload_n 0, 1) := by decide +kernel
theorem dX4_read_122 : decode cX4_read 122 = .ok (.getfield 27, 3) := by decide +kernel
theorem dX4_read_125 : decode cX4_read 125 = .ok (.ifCond .ne 15, 3) := by decide +kernel
theorem dX4_read_128 : decode cX4_read 128 = .ok (.aload_n 0, 1) := by decide +kernel
theorem dX4_read_129 : decode cX4_read 129 = .ok (.aload_n 1, 1) := by decide +kernel
theorem dX4_read_130 : decode cX4_read 130 = .ok (.invokevirtual 47, 3) := by decide +kernel
theorem dX4_read_133 : decode cX4_read 133 = .ok (.ifCond .eq 7, 3) := by decide +kernel
theorem dX4_read_136 : decode cX4_read 136 = .ok (.iconst 1, 1) := by decide +kernel
theorem dX4_read_137 : decode cX4_read 137 = .ok (.goto 4, 3) := by decide +kernel
theorem dX4_read_140 : decode cX4_read 140 = .ok (.iconst 0, 1) := by decide +kernel
theorem dX4_read_141 : decode cX4_read 141 = .ok (.istore_n 3, 1) := by decide +kernel
theorem dX4_read_142 : decode cX4_read 142 = .ok (.goto 55, 3) := by decide +kernel
theorem dX4_read_145 : decode cX4_read 145 = .ok (.aload_n 1, 1) := by decide +kernel
theorem dX4_read_146 : decode cX4_read 146 = .ok (.getfield 50, 3) := by decide +kernel
theorem dX4_read_149 : decode cX4_read 149 = .ok (.bipush 6, 2) := by decide +kernel
theorem dX4_read_151 : decode cX4_read 151 = .ok (.if_icmp .ge 15, 3) := by decide +kernel
theorem dX4_read_154 : decode cX4_read 154 = .ok (.aload_n 0, 1) := by decide +kernel
theorem dX4_read_155 : decode cX4_read 155 = .ok (.aload_n 1, 1) := by decide +kernel
theorem dX4_read_156 : decode cX4_read 156 = .ok (.invokevirtual 53, 3) := by decide +kernel
theorem dX4_read_159 : decode cX4_read 159 = .ok (.ifCond .eq 7, 3) := by decide +kernel
theorem dX4_read_162 : decode cX4_read 162 = .ok (.iconst 1, 1) := by decide +kernel
theorem dX4_read_163 : decode cX4_read 163 = .ok (.goto 4, 3) := by decide +kernel
theorem dX4_read_166 : decode cX4_read 166 = .ok (.iconst 0, 1) := by decide +kernel
theorem dX4_read_167 : decode cX4_read 167 = .ok (.istore_n 3, 1) := by decide +kernel
theorem dX4_read_168 : decode cX4_read 168 = .ok (.goto 29, 3) := by decide +kernel
theorem dX4_read_171 : decode cX4_read 171 = .ok (.aload_n 0, 1) := by decide +kernel
theorem dX4_read_172 : decode cX4_read 172 = .ok (.getfield 31, 3) := by decide +kernel
theorem dX4_read_175 : decode cX4_read 175 = .ok (.ifCond .ne 15, 3) := by decide +kernel
theorem dX4_read_178 : decode cX4_read 178 = .ok (.aload_n 0, 1) := by decide +kernel
theorem dX4_read_179 : decode cX4_read 179 = .ok (.aload_n 1, 1) := by decide +kernel
theorem dX4_read_180 : decode cX4_read 180 = .ok (.invokevirtual 56, 3) := by decide +kernel
theorem dX4_read_183 : decode cX4_read 183 = .ok (.ifCond .eq 7, 3) := by decide +kernel
theorem dX4_read_186 : decode cX4_read 186 = .ok (.iconst 1, 1) := by decide +kernel
theorem dX4_read_187 : decode cX4_read 187 = .ok (.goto 4, 3) := by decide +kernel
theorem dX4_read_190 : decode cX4_read 190 = .ok (.iconst 0, 1) := by decide +kernel
theorem dX4_read_191 : decode cX4_read 191 = .ok (.istore_n 3, 1) := by decide +kernel
theorem dX4_read_192 : decode cX4_read 192 = .ok (.goto 5, 3) := by decide +kernel
theorem dX4_read_195 : decode cX4_read 195 = .ok (.iconst 0, 1) := by decide +kernel
theorem dX4_read_196 : decode cX4_read 196 = .ok (.istore_n 3, 1) := by decide +kernel
theorem dX4_read_197 : decode cX4_read 197 = .ok (.iload_n 3, 1) := by decide +kernel
theorem dX4_read_198 : decode cX4_read 198 = .ok (.ifCond .ne 6, 3) := by decide +kernel
theorem dX4_read_201 : decode cX4_read 201 = .ok (.goto 9, 3) := by decide +kernel
theorem dX4_read_204 : decode cX4_read 204 = .ok (.iinc 2 1, 3) := by decide +kernel
theorem dX4_read_207 : decode cX4_read 207 = .ok (.goto (-186), 3) := by decide +kernel
theorem dX4_read_210 : decode cX4_read 210 = .ok (.bipush (-10), 2) := by decide +kernel
theorem dX4_read_212 : decode cX4_read 212 = .ok (.aload_n 0, 1) := by decide +kernel
theorem dX4_read_213 : decode cX4_read 213 = .ok (.getfield 59, 3) := by decide +kernel
theorem dX4_read_216 : decode cX4_read 216 = .ok (.isub, 1) := by decide +kernel
theorem dX4_read_217 : decode cX4_read 217 = .ok (.ireturn, 1) := by decide +kernel
theorem dX4_readOpinions_0 : decode cX4_readOpinions 0 = .ok (.aload_n 0, 1) := by decide +kernel
theorem dX4_readOpinions_1 : decode cX4_readOpinions 1 = .ok (.iconst 2, 1) := by decide +kernel
theorem dX4_readOpinions_2 : decode cX4_readOpinions 2 = .ok (.iconst 5, 1) := by decide +kernel
theorem dX4_readOpinions_3 : decode cX4_readOpinions 3 = .ok (.invokevirtual 62, 3) := by decide +kernel
theorem dX4_readOpinions_6 : decode cX4_readOpinions 6 = .ok (.ifCond .ne 5, 3) := by decide +kernel
theorem dX4_readOpinions_9 : decode cX4_readOpinions 9 = .ok (.iconst 0, 1) := by decide +kernel
theorem dX4_readOpinions_10 : decode cX4_readOpinions 10 = .ok (.ireturn, 1) := by decide +kernel
theorem dX4_readOpinions_11 : decode cX4_readOpinions 11 = .ok (.aload_n 1, 1) := by decide +kernel
theorem dX4_readOpinions_12 : decode cX4_readOpinions 12 = .ok (.aload_n 0, 1) := by decide +kernel
theorem dX4_readOpinions_13 : decode cX4_readOpinions 13 = .ok (.getfield 40, 3) := by decide +kernel
theorem dX4_readOpinions_16 : decode cX4_readOpinions 16 = .ok (.putfield 66, 3) := by decide +kernel
theorem dX4_readOpinions_19 : decode cX4_readOpinions 19 = .ok (.aload_n 0, 1) := by decide +kernel
theorem dX4_readOpinions_20 : decode cX4_readOpinions 20 = .ok (.invokevirtual 69, 3) := by decide +kernel
theorem dX4_readOpinions_23 : decode cX4_readOpinions 23 = .ok (.ireturn, 1) := by decide +kernel
theorem dX4_readBook_0 : decode cX4_readBook 0 = .ok (.aload_n 0, 1) := by decide +kernel
theorem dX4_readBook_1 : decode cX4_readBook 1 = .ok (.iconst 1, 1) := by decide +kernel
theorem dX4_readBook_2 : decode cX4_readBook 2 = .ok (.putfield 27, 3) := by decide +kernel
theorem dX4_readBook_5 : decode cX4_readBook 5 = .ok (.iconst 0, 1) := by decide +kernel
theorem dX4_readBook_6 : decode cX4_readBook 6 = .ok (.istore_n 2, 1) := by decide +kernel
theorem dX4_readBook_7 : decode cX4_readBook 7 = .ok (.iload_n 2, 1) := by decide +kernel
theorem dX4_readBook_8 : decode cX4_readBook 8 = .ok (.iconst 4, 1) := by decide +kernel
theorem dX4_readBook_9 : decode cX4_readBook 9 = .ok (.if_icmp .ge 56, 3) := by decide +kernel
theorem dX4_readBook_12 : decode cX4_readBook 12 = .ok (.aload_n 0, 1) := by decide +kernel
theorem dX4_readBook_13 : decode cX4_readBook 13 = .ok (.invokevirtual 34, 3) := by decide +kernel
theorem dX4_readBook_16 : decode cX4_readBook 16 = .ok (.iload_n 2, 1) := by decide +kernel
theorem dX4_readBook_17 : decode cX4_readBook 17 = .ok (.ifCond .le 13, 3) := by decide +kernel
theorem dX4_readBook_20 : decode cX4_readBook 20 = .ok (.aload_n 0, 1) := by decide +kernel
theorem dX4_readBook_21 : decode cX4_readBook 21 = .ok (.getfield 37, 3) := by decide +kernel
theorem dX4_readBook_24 : decode cX4_readBook 24 = .ok (.iconst 3, 1) := by decide +kernel
theorem dX4_readBook_25 : decode cX4_readBook 25 = .ok (.if_icmp .ne 5, 3) := by decide +kernel
theorem dX4_readBook_28 : decode cX4_readBook 28 = .ok (.iconst 1, 1) := by decide +kernel
theorem dX4_readBook_29 : decode cX4_readBook 29 = .ok (.ireturn, 1) := by decide +kernel
theorem dX4_readBook_30 : decode cX4_readBook 30 = .ok (.aload_n 0, 1) := by decide +kernel
theorem dX4_readBook_31 : decode cX4_readBook 31 = .ok (.getfield 37, 3) := by decide +kernel
theorem dX4_readBook_34 : decode cX4_readBook 34 = .ok (.iconst 2, 1) := by decide +kernel
theorem dX4_readBook_35 : decode cX4_readBook 35 = .ok (.if_icmp .ne 14, 3) := by decide +kernel
theorem dX4_readBook_38 : decode cX4_readBook 38 = .ok (.aload_n 1, 1) := by decide +kernel
theorem dX4_readBook_39 : decode cX4_readBook 39 = .ok (.aload_n 0, 1) := by decide +kernel
theorem dX4_readBook_40 : decode cX4_readBook 40 = .ok (.getfield 40, 3) := by decide +kernel
theorem dX4_readBook_43 : decode cX4_readBook 43 = .ok (.invokevirtual 73, 3) := by decide +kernel
theorem dX4_readBook_46 : decode cX4_readBook 46 = .ok (.ifCond .ne 5, 3) := by decide +kernel
theorem dX4_readBook_49 : decode cX4_readBook 49 = .ok (.iconst 0, 1) := by decide +kernel
theorem dX4_readBook_50 : decode cX4_readBook 50 = .ok (.ireturn, 1) := by decide +kernel
theorem dX4_readBook_51 : decode cX4_readBook 51 = .ok (.aload_n 1, 1) := by decide +kernel
theorem dX4_readBook_52 : decode cX4_readBook 52 = .ok (.aload_n 0, 1) := by decide +kernel
theorem dX4_readBook_53 : decode cX4_readBook 53 = .ok (.getfield 40, 3) := by decide +kernel
theorem dX4_readBook_56 : decode cX4_readBook 56 = .ok (.invokevirtual 77, 3) := by decide +kernel
theorem dX4_readBook_59 : decode cX4_readBook 59 = .ok (.iinc 2 1, 3) := by decide +kernel
theorem dX4_readBook_62 : decode cX4_readBook 62 = .ok (.goto (-55), 3) := by decide +kernel
theorem dX4_readBook_65 : decode cX4_readBook 65 = .ok (.aload_n 0, 1) := by decide +kernel
theorem dX4_readBook_66 : decode cX4_readBook 66 = .ok (.invokevirtual 69, 3) := by decide +kernel
theorem dX4_readBook_69 : decode cX4_readBook 69 = .ok (.ireturn, 1) := by decide +kernel
theorem dX4_readScribe_0 : decode cX4_readScribe 0 = .ok (.aload_n 0, 1) := by decide +kernel
theorem dX4_readScribe_1 : decode cX4_readScribe 1 = .ok (.iconst 0, 1) := by decide +kernel
theorem dX4_readScribe_2 : decode cX4_readScribe 2 = .ok (.bipush 6, 2) := by decide +kernel
theorem dX4_readScribe_4 : decode cX4_readScribe 4 = .ok (.invokevirtual 62, 3) := by decide +kernel
theorem dX4_readScribe_7 : decode cX4_readScribe 7 = .ok (.ifCond .ne 5, 3) := by decide +kernel
theorem dX4_readScribe_10 : decode cX4_readScribe 10 = .ok (.iconst 0, 1) := by decide +kernel
theorem dX4_readScribe_11 : decode cX4_readScribe 11 = .ok (.ireturn, 1) := by decide +kernel
theorem dX4_readScribe_12 : decode cX4_readScribe 12 = .ok (.aload_n 0, 1) := by decide +kernel
theorem dX4_readScribe_13 : decode cX4_readScribe 13 = .ok (.getfield 40, 3) := by decide +kernel
theorem dX4_readScribe_16 : decode cX4_readScribe 16 = .ok (.istore_n 2, 1) := by decide +kernel
theorem dX4_readScribe_17 : decode cX4_readScribe 17 = .ok (.aload_n 0, 1) := by decide +kernel
theorem dX4_readScribe_18 : decode cX4_readScribe 18 = .ok (.iconst 0, 1) := by decide +kernel
theorem dX4_readScribe_19 : decode cX4_readScribe 19 = .ok (.bipush 6, 2) := by decide +kernel
theorem dX4_readScribe_21 : decode cX4_readScribe 21 = .ok (.invokevirtual 62, 3) := by decide +kernel
theorem dX4_readScribe_24 : decode cX4_readScribe 24 = .ok (.ifCond .ne 5, 3) := by decide +kernel
theorem dX4_readScribe_27 : decode cX4_readScribe 27 = .ok (.iconst 0, 1) := by decide +kernel
theorem dX4_readScribe_28 : decode cX4_readScribe 28 = .ok (.ireturn, 1) := by decide +kernel
theorem dX4_readScribe_29 : decode cX4_readScribe 29 = .ok (.aload_n 1, 1) := by decide +kernel
theorem dX4_readScribe_30 : decode cX4_readScribe 30 = .ok (.iload_n 2, 1) := by decide +kernel
theorem dX4_readScribe_31 : decode cX4_readScribe 31 = .ok (.aload_n 0, 1) := by decide +kernel
theorem dX4_readScribe_32 : decode cX4_readScribe 32 = .ok (.getfield 40, 3) := by decide +kernel
theorem dX4_readScribe_35 : decode cX4_readScribe 35 = .ok (.invokevirtual 81, 3) := by decide +kernel
theorem dX4_readScribe_38 : decode cX4_readScribe 38 = .ok (.aload_n 0, 1) := by decide +kernel
theorem dX4_readScribe_39 : decode cX4_readScribe 39 = .ok (.invokevirtual 69, 3) := by decide +kernel
theorem dX4_readScribe_42 : decode cX4_readScribe 42 = .ok (.ireturn, 1) := by decide +kernel
theorem dX4_readNeed_0 : decode cX4_readNeed 0 = .ok (.aload_n 0, 1) := by decide +kernel
theorem dX4_readNeed_1 : decode cX4_readNeed 1 = .ok (.iconst 1, 1) := by decide +kernel
theorem dX4_readNeed_2 : decode cX4_readNeed 2 = .ok (.putfield 31, 3) := by decide +kernel
theorem dX4_readNeed_5 : decode cX4_readNeed 5 = .ok (.aload_n 0, 1) := by decide +kernel
theorem dX4_readNeed_6 : decode cX4_readNeed 6 = .ok (.iconst 1, 1) := by decide +kernel
theorem dX4_readNeed_7 : decode cX4_readNeed 7 = .ok (.iconst 4, 1) := by decide +kernel
theorem dX4_readNeed_8 : decode cX4_readNeed 8 = .ok (.invokevirtual 62, 3) := by decide +kernel
theorem dX4_readNeed_11 : decode cX4_readNeed 11 = .ok (.ifCond .ne 5, 3) := by decide +kernel
theorem dX4_readNeed_14 : decode cX4_readNeed 14 = .ok (.iconst 0, 1) := by decide +kernel
theorem dX4_readNeed_15 : decode cX4_readNeed 15 = .ok (.ireturn, 1) := by decide +kernel
theorem dX4_readNeed_16 : decode cX4_readNeed 16 = .ok (.aload_n 1, 1) := by decide +kernel
theorem dX4_readNeed_17 : decode cX4_readNeed 17 = .ok (.aload_n 0, 1) := by decide +kernel
theorem dX4_readNeed_18 : decode cX4_readNeed 18 = .ok (.getfield 40, 3) := by decide +kernel
theorem dX4_readNeed_21 : decode cX4_readNeed 21 = .ok (.putfield 85, 3) := by decide +kernel
theorem dX4_readNeed_24 : decode cX4_readNeed 24 = .ok (.aload_n 0, 1) := by decide +kernel
theorem dX4_readNeed_25 : decode cX4_readNeed 25 = .ok (.invokevirtual 69, 3) := by decide +kernel
theorem dX4_readNeed_28 : decode cX4_readNeed 28 = .ok (.ireturn, 1) := by decide +kernel
theorem dX4_readNumber_0 : decode cX4_readNumber 0 = .ok (.aload_n 0, 1) := by decide +kernel
theorem dX4_readNumber_1 : decode cX4_readNumber 1 = .ok (.invokevirtual 34, 3) := by decide +kernel
theorem dX4_readNumber_4 : decode cX4_readNumber 4 = .ok (.aload_n 0, 1) := by decide +kernel
theorem dX4_readNumber_5 : decode cX4_readNumber 5 = .ok (.getfield 37, 3) := by decide +kernel
theorem dX4_readNumber_8 : decode cX4_readNumber 8 = .ok (.iconst 2, 1) := by decide +kernel
theorem dX4_readNumber_9 : decode cX4_readNumber 9 = .ok (.if_icmp .ne 23, 3) := by decide +kernel
theorem dX4_readNumber_12 : decode cX4_readNumber 12 = .ok (.aload_n 0, 1) := by decide +kernel
theorem dX4_readNumber_13 : decode cX4_readNumber 13 = .ok (.getfield 40, 3) := by decide +kernel
theorem dX4_readNumber_16 : decode cX4_readNumber 16 = .ok (.iload_n 1, 1) := by decide +kernel
theorem dX4_readNumber_17 : decode cX4_readNumber 17 = .ok (.if_icmp .lt 15, 3) := by decide +kernel
theorem dX4_readNumber_20 : decode cX4_readNumber 20 = .ok (.aload_n 0, 1) := by decide +kernel
theorem dX4_readNumber_21 : decode cX4_readNumber 21 = .ok (.getfield 40, 3) := by decide +kernel
theorem dX4_readNumber_24 : decode cX4_readNumber 24 = .ok (.iload_n 2, 1) := by decide +kernel
theorem dX4_readNumber_25 : decode cX4_readNumber 25 = .ok (.if_icmp .gt 7, 3) := by decide +kernel
theorem dX4_readNumber_28 : decode cX4_readNumber 28 = .ok (.iconst 1, 1) := by decide +kernel
theorem dX4_readNumber_29 : decode cX4_readNumber 29 = .ok (.goto 4, 3) := by decide +kernel
theorem dX4_readNumber_32 : decode cX4_readNumber 32 = .ok (.iconst 0, 1) := by decide +kernel
theorem dX4_readNumber_33 : decode cX4_readNumber 33 = .ok (.ireturn, 1) := by decide +kernel
theorem dX4_readStop_0 : decode cX4_readStop 0 = .ok (.aload_n 0, 1) := by decide +kernel
theorem dX4_readStop_1 : decode cX4_readStop 1 = .ok (.invokevirtual 34, 3) := by decide +kernel
theorem dX4_readStop_4 : decode cX4_readStop 4 = .ok (.aload_n 0, 1) := by decide +kernel
theorem dX4_readStop_5 : decode cX4_readStop 5 = .ok (.getfield 37, 3) := by decide +kernel
theorem dX4_readStop_8 : decode cX4_readStop 8 = .ok (.iconst 3, 1) := by decide +kernel
theorem dX4_readStop_9 : decode cX4_readStop 9 = .ok (.if_icmp .ne 7, 3) := by decide +kernel
theorem dX4_readStop_12 : decode cX4_readStop 12 = .ok (.iconst 1, 1) := by decide +kernel
theorem dX4_readStop_13 : decode cX4_readStop 13 = .ok (.goto 4, 3) := by decide +kernel
theorem dX4_readStop_16 : decode cX4_readStop 16 = .ok (.iconst 0, 1) := by decide +kernel
theorem dX4_readStop_17 : decode cX4_readStop 17 = .ok (.ireturn, 1) := by decide +kernel
theorem dX4_readToken_0 : decode cX4_readToken 0 = .ok (.aload_n 0, 1) := by decide +kernel
theorem dX4_readToken_1 : decode cX4_readToken 1 = .ok (.getfield 24, 3) := by decide +kernel
theorem dX4_readToken_4 : decode cX4_readToken 4 = .ok (.aload_n 0, 1) := by decide +kernel
theorem dX4_readToken_5 : decode cX4_readToken 5 = .ok (.getfield 15, 3) := by decide +kernel
theorem dX4_readToken_8 : decode cX4_readToken 8 = .ok (.if_icmp .ge 29, 3) := by decide +kernel
theorem dX4_readToken_11 : decode cX4_readToken 11 = .ok (.aload_n 0, 1) := by decide +kernel
theorem dX4_readToken_12 : decode cX4_readToken 12 = .ok (.aload_n 0, 1) := by decide +kernel
theorem dX4_readToken_13 : decode cX4_readToken 13 = .ok (.getfield 24, 3) := by decide +kernel
theorem dX4_readToken_16 : decode cX4_readToken 16 = .ok (.invokevirtual 88, 3) := by decide +kernel
theorem dX4_readToken_19 : decode cX4_readToken 19 = .ok (.bipush 32, 2) := by decide +kernel
theorem dX4_readToken_21 : decode cX4_readToken 21 = .ok (.if_icmp .ne 16, 3) := by decide +kernel
theorem dX4_readToken_24 : decode cX4_readToken 24 = .ok (.aload_n 0, 1) := by decide +kernel
theorem dX4_readToken_25 : decode cX4_readToken 25 = .ok (.dup, 1) := by decide +kernel
theorem dX4_readToken_26 : decode cX4_readToken 26 = .ok (.getfield 24, 3) := by decide +kernel
theorem dX4_readToken_29 : decode cX4_readToken 29 = .ok (.iconst 1, 1) := by decide +kernel
theorem dX4_readToken_30 : decode cX4_readToken 30 = .ok (.iadd, 1) := by decide +kernel
theorem dX4_readToken_31 : decode cX4_readToken 31 = .ok (.putfield 24, 3) := by decide +kernel
theorem dX4_readToken_34 : decode cX4_readToken 34 = .ok (.goto (-34), 3) := by decide +kernel
theorem dX4_readToken_37 : decode cX4_readToken 37 = .ok (.aload_n 0, 1) := by decide +kernel
theorem dX4_readToken_38 : decode cX4_readToken 38 = .ok (.aload_n 0, 1) := by decide +kernel
theorem dX4_readToken_39 : decode cX4_readToken 39 = .ok (.getfield 24, 3) := by decide +kernel
theorem dX4_readToken_42 : decode cX4_readToken 42 = .ok (.putfield 59, 3) := by decide +kernel
theorem dX4_readToken_45 : decode cX4_readToken 45 = .ok (.aload_n 0, 1) := by decide +kernel
theorem dX4_readToken_46 : decode cX4_readToken 46 = .ok (.aload_n 0, 1) := by decide +kernel
theorem dX4_readToken_47 : decode cX4_readToken 47 = .ok (.getfield 24, 3) := by decide +kernel
theorem dX4_readToken_50 : decode cX4_readToken 50 = .ok (.invokevirtual 88, 3) := by decide +kernel
theorem dX4_readToken_53 : decode cX4_readToken 53 = .ok (.istore_n 1, 1) := by decide +kernel
theorem dX4_readToken_54 : decode cX4_readToken 54 = .ok (.iload_n 1, 1) := by decide +kernel
theorem dX4_readToken_55 : decode cX4_readToken 55 = .ok (.invokestatic 92, 3) := by decide +kernel
theorem dX4_readToken_58 : decode cX4_readToken 58 = .ok (.ifCond .eq 10, 3) := by decide +kernel
theorem dX4_readToken_61 : decode cX4_readToken 61 = .ok (.aload_n 0, 1) := by decide +kernel
theorem dX4_readToken_62 : decode cX4_readToken 62 = .ok (.invokevirtual 95, 3) := by decide +kernel
theorem dX4_readToken_65 : decode cX4_readToken 65 = .ok (.goto 54, 3) := by decide +kernel
theorem dX4_readToken_68 : decode cX4_readToken 68 = .ok (.iload_n 1, 1) := by decide +kernel
theorem dX4_readToken_69 : decode cX4_readToken 69 = .ok (.invokestatic 98, 3) := by decide +kernel
theorem dX4_readToken_72 : decode cX4_readToken 72 = .ok (.ifCond .eq 10, 3) := by decide +kernel
theorem dX4_readToken_75 : decode cX4_readToken 75 = .ok (.aload_n 0, 1) := by decide +kernel
theorem dX4_readToken_76 : decode cX4_readToken 76 = .ok (.invokevirtual 101, 3) := by decide +kernel
theorem dX4_readToken_79 : decode cX4_readToken 79 = .ok (.goto 40, 3) := by decide +kernel
end
section
theorem dX4_readToken_82 : decode cX4_readToken 82 = .ok (.iload_n 1, 1) := by decide +kernel
theorem dX4_readToken_83 : decode cX4_readToken 83 = .ok (.bipush 59, 2) := by decide +kernel
theorem dX4_readToken_85 : decode cX4_readToken 85 = .ok (.if_icmp .ne 21, 3) := by decide +kernel
theorem dX4_readToken_88 : decode cX4_readToken 88 = .ok (.aload_n 0, 1) := by decide +kernel
theorem dX4_readToken_89 : decode cX4_readToken 89 = .ok (.dup, 1) := by decide +kernel
theorem dX4_readToken_90 : decode cX4_readToken 90 = .ok (.getfield 24, 3) := by decide +kernel
theorem dX4_readToken_93 : decode cX4_readToken 93 = .ok (.iconst 1, 1) := by decide +kernel
theorem dX4_readToken_94 : decode cX4_readToken 94 = .ok (.iadd, 1) := by decide +kernel
theorem dX4_readToken_95 : decode cX4_readToken 95 = .ok (.putfield 24, 3) := by decide +kernel
theorem dX4_readToken_98 : decode cX4_readToken 98 = .ok (.aload_n 0, 1) := by decide +kernel
theorem dX4_readToken_99 : decode cX4_readToken 99 = .ok (.iconst 3, 1) := by decide +kernel
theorem dX4_readToken_100 : decode cX4_readToken 100 = .ok (.putfield 37, 3) := by decide +kernel
theorem dX4_readToken_103 : decode cX4_readToken 103 = .ok (.goto 16, 3) := by decide +kernel
theorem dX4_readToken_106 : decode cX4_readToken 106 = .ok (.aload_n 0, 1) := by decide +kernel
theorem dX4_readToken_107 : decode cX4_readToken 107 = .ok (.iload_n 1, 1) := by decide +kernel
theorem dX4_readToken_108 : decode cX4_readToken 108 = .ok (.ifCond .ge 7, 3) := by decide +kernel
theorem dX4_readToken_111 : decode cX4_readToken 111 = .ok (.iconst 0, 1) := by decide +kernel
theorem dX4_readToken_112 : decode cX4_readToken 112 = .ok (.goto 4, 3) := by decide +kernel
theorem dX4_readToken_115 : decode cX4_readToken 115 = .ok (.iconst 4, 1) := by decide +kernel
theorem dX4_readToken_116 : decode cX4_readToken 116 = .ok (.putfield 37, 3) := by decide +kernel
theorem dX4_readToken_119 : decode cX4_readToken 119 = .ok (.return_, 1) := by decide +kernel
theorem dX4_readLetters_0 : decode cX4_readLetters 0 = .ok (.aload_n 0, 1) := by decide +kernel
theorem dX4_readLetters_1 : decode cX4_readLetters 1 = .ok (.getfield 24, 3) := by decide +kernel
theorem dX4_readLetters_4 : decode cX4_readLetters 4 = .ok (.aload_n 0, 1) := by decide +kernel
theorem dX4_readLetters_5 : decode cX4_readLetters 5 = .ok (.getfield 15, 3) := by decide +kernel
theorem dX4_readLetters_8 : decode cX4_readLetters 8 = .ok (.if_icmp .ge 30, 3) := by decide +kernel
theorem dX4_readLetters_11 : decode cX4_readLetters 11 = .ok (.aload_n 0, 1) := by decide +kernel
theorem dX4_readLetters_12 : decode cX4_readLetters 12 = .ok (.aload_n 0, 1) := by decide +kernel
theorem dX4_readLetters_13 : decode cX4_readLetters 13 = .ok (.getfield 24, 3) := by decide +kernel
theorem dX4_readLetters_16 : decode cX4_readLetters 16 = .ok (.invokevirtual 88, 3) := by decide +kernel
theorem dX4_readLetters_19 : decode cX4_readLetters 19 = .ok (.invokestatic 92, 3) := by decide +kernel
theorem dX4_readLetters_22 : decode cX4_readLetters 22 = .ok (.ifCond .eq 16, 3) := by decide +kernel
theorem dX4_readLetters_25 : decode cX4_readLetters 25 = .ok (.aload_n 0, 1) := by decide +kernel
theorem dX4_readLetters_26 : decode cX4_readLetters 26 = .ok (.dup, 1) := by decide +kernel
theorem dX4_readLetters_27 : decode cX4_readLetters 27 = .ok (.getfield 24, 3) := by decide +kernel
theorem dX4_readLetters_30 : decode cX4_readLetters 30 = .ok (.iconst 1, 1) := by decide +kernel
theorem dX4_readLetters_31 : decode cX4_readLetters 31 = .ok (.iadd, 1) := by decide +kernel
theorem dX4_readLetters_32 : decode cX4_readLetters 32 = .ok (.putfield 24, 3) := by decide +kernel
theorem dX4_readLetters_35 : decode cX4_readLetters 35 = .ok (.goto (-35), 3) := by decide +kernel
theorem dX4_readLetters_38 : decode cX4_readLetters 38 = .ok (.aload_n 0, 1) := by decide +kernel
theorem dX4_readLetters_39 : decode cX4_readLetters 39 = .ok (.iconst 1, 1) := by decide +kernel
theorem dX4_readLetters_40 : decode cX4_readLetters 40 = .ok (.putfield 37, 3) := by decide +kernel
theorem dX4_readLetters_43 : decode cX4_readLetters 43 = .ok (.aload_n 0, 1) := by decide +kernel
theorem dX4_readLetters_44 : decode cX4_readLetters 44 = .ok (.aload_n 0, 1) := by decide +kernel
theorem dX4_readLetters_45 : decode cX4_readLetters 45 = .ok (.getfield 24, 3) := by decide +kernel
theorem dX4_readLetters_48 : decode cX4_readLetters 48 = .ok (.aload_n 0, 1) := by decide +kernel
theorem dX4_readLetters_49 : decode cX4_readLetters 49 = .ok (.getfield 59, 3) := by decide +kernel
theorem dX4_readLetters_52 : decode cX4_readLetters 52 = .ok (.isub, 1) := by decide +kernel
theorem dX4_readLetters_53 : decode cX4_readLetters 53 = .ok (.iconst 1, 1) := by decide +kernel
theorem dX4_readLetters_54 : decode cX4_readLetters 54 = .ok (.if_icmp .ne 14, 3) := by decide +kernel
theorem dX4_readLetters_57 : decode cX4_readLetters 57 = .ok (.aload_n 0, 1) := by decide +kernel
theorem dX4_readLetters_58 : decode cX4_readLetters 58 = .ok (.aload_n 0, 1) := by decide +kernel
theorem dX4_readLetters_59 : decode cX4_readLetters 59 = .ok (.getfield 59, 3) := by decide +kernel
theorem dX4_readLetters_62 : decode cX4_readLetters 62 = .ok (.invokevirtual 88, 3) := by decide +kernel
theorem dX4_readLetters_65 : decode cX4_readLetters 65 = .ok (.goto 4, 3) := by decide +kernel
theorem dX4_readLetters_68 : decode cX4_readLetters 68 = .ok (.iconst 0, 1) := by decide +kernel
theorem dX4_readLetters_69 : decode cX4_readLetters 69 = .ok (.putfield 40, 3) := by decide +kernel
theorem dX4_readLetters_72 : decode cX4_readLetters 72 = .ok (.return_, 1) := by decide +kernel
theorem dX4_readFigures_0 : decode cX4_readFigures 0 = .ok (.aload_n 0, 1) := by decide +kernel
theorem dX4_readFigures_1 : decode cX4_readFigures 1 = .ok (.iconst 0, 1) := by decide +kernel
theorem dX4_readFigures_2 : decode cX4_readFigures 2 = .ok (.putfield 40, 3) := by decide +kernel
theorem dX4_readFigures_5 : decode cX4_readFigures 5 = .ok (.aload_n 0, 1) := by decide +kernel
theorem dX4_readFigures_6 : decode cX4_readFigures 6 = .ok (.getfield 24, 3) := by decide +kernel
theorem dX4_readFigures_9 : decode cX4_readFigures 9 = .ok (.aload_n 0, 1) := by decide +kernel
theorem dX4_readFigures_10 : decode cX4_readFigures 10 = .ok (.getfield 15, 3) := by decide +kernel
theorem dX4_readFigures_13 : decode cX4_readFigures 13 = .ok (.if_icmp .ge 58, 3) := by decide +kernel
theorem dX4_readFigures_16 : decode cX4_readFigures 16 = .ok (.aload_n 0, 1) := by decide +kernel
theorem dX4_readFigures_17 : decode cX4_readFigures 17 = .ok (.aload_n 0, 1) := by decide +kernel
theorem dX4_readFigures_18 : decode cX4_readFigures 18 = .ok (.getfield 24, 3) := by decide +kernel
theorem dX4_readFigures_21 : decode cX4_readFigures 21 = .ok (.invokevirtual 88, 3) := by decide +kernel
theorem dX4_readFigures_24 : decode cX4_readFigures 24 = .ok (.invokestatic 98, 3) := by decide +kernel
theorem dX4_readFigures_27 : decode cX4_readFigures 27 = .ok (.ifCond .eq 44, 3) := by decide +kernel
theorem dX4_readFigures_30 : decode cX4_readFigures 30 = .ok (.aload_n 0, 1) := by decide +kernel
theorem dX4_readFigures_31 : decode cX4_readFigures 31 = .ok (.aload_n 0, 1) := by decide +kernel
theorem dX4_readFigures_32 : decode cX4_readFigures 32 = .ok (.getfield 40, 3) := by decide +kernel
theorem dX4_readFigures_35 : decode cX4_readFigures 35 = .ok (.bipush 10, 2) := by decide +kernel
theorem dX4_readFigures_37 : decode cX4_readFigures 37 = .ok (.imul, 1) := by decide +kernel
theorem dX4_readFigures_38 : decode cX4_readFigures 38 = .ok (.aload_n 0, 1) := by decide +kernel
theorem dX4_readFigures_39 : decode cX4_readFigures 39 = .ok (.aload_n 0, 1) := by decide +kernel
theorem dX4_readFigures_40 : decode cX4_readFigures 40 = .ok (.getfield 24, 3) := by decide +kernel
theorem dX4_readFigures_43 : decode cX4_readFigures 43 = .ok (.invokevirtual 88, 3) := by decide +kernel
theorem dX4_readFigures_46 : decode cX4_readFigures 46 = .ok (.iadd, 1) := by decide +kernel
theorem dX4_readFigures_47 : decode cX4_readFigures 47 = .ok (.bipush 48, 2) := by decide +kernel
theorem dX4_readFigures_49 : decode cX4_readFigures 49 = .ok (.isub, 1) := by decide +kernel
theorem dX4_readFigures_50 : decode cX4_readFigures 50 = .ok (.bipush 100, 2) := by decide +kernel
theorem dX4_readFigures_52 : decode cX4_readFigures 52 = .ok (.invokestatic 104, 3) := by decide +kernel
theorem dX4_readFigures_55 : decode cX4_readFigures 55 = .ok (.putfield 40, 3) := by decide +kernel
theorem dX4_readFigures_58 : decode cX4_readFigures 58 = .ok (.aload_n 0, 1) := by decide +kernel
theorem dX4_readFigures_59 : decode cX4_readFigures 59 = .ok (.dup, 1) := by decide +kernel
theorem dX4_readFigures_60 : decode cX4_readFigures 60 = .ok (.getfield 24, 3) := by decide +kernel
theorem dX4_readFigures_63 : decode cX4_readFigures 63 = .ok (.iconst 1, 1) := by decide +kernel
theorem dX4_readFigures_64 : decode cX4_readFigures 64 = .ok (.iadd, 1) := by decide +kernel
theorem dX4_readFigures_65 : decode cX4_readFigures 65 = .ok (.putfield 24, 3) := by decide +kernel
theorem dX4_readFigures_68 : decode cX4_readFigures 68 = .ok (.goto (-63), 3) := by decide +kernel
theorem dX4_readFigures_71 : decode cX4_readFigures 71 = .ok (.aload_n 0, 1) := by decide +kernel
theorem dX4_readFigures_72 : decode cX4_readFigures 72 = .ok (.getfield 24, 3) := by decide +kernel
theorem dX4_readFigures_75 : decode cX4_readFigures 75 = .ok (.aload_n 0, 1) := by decide +kernel
theorem dX4_readFigures_76 : decode cX4_readFigures 76 = .ok (.getfield 59, 3) := by decide +kernel
theorem dX4_readFigures_79 : decode cX4_readFigures 79 = .ok (.isub, 1) := by decide +kernel
theorem dX4_readFigures_80 : decode cX4_readFigures 80 = .ok (.iconst 1, 1) := by decide +kernel
theorem dX4_readFigures_81 : decode cX4_readFigures 81 = .ok (.if_icmp .le 20, 3) := by decide +kernel
theorem dX4_readFigures_84 : decode cX4_readFigures 84 = .ok (.aload_n 0, 1) := by decide +kernel
theorem dX4_readFigures_85 : decode cX4_readFigures 85 = .ok (.aload_n 0, 1) := by decide +kernel
theorem dX4_readFigures_86 : decode cX4_readFigures 86 = .ok (.getfield 59, 3) := by decide +kernel
theorem dX4_readFigures_89 : decode cX4_readFigures 89 = .ok (.invokevirtual 88, 3) := by decide +kernel
theorem dX4_readFigures_92 : decode cX4_readFigures 92 = .ok (.bipush 48, 2) := by decide +kernel
theorem dX4_readFigures_94 : decode cX4_readFigures 94 = .ok (.if_icmp .ne 7, 3) := by decide +kernel
theorem dX4_readFigures_97 : decode cX4_readFigures 97 = .ok (.iconst 1, 1) := by decide +kernel
theorem dX4_readFigures_98 : decode cX4_readFigures 98 = .ok (.goto 4, 3) := by decide +kernel
theorem dX4_readFigures_101 : decode cX4_readFigures 101 = .ok (.iconst 0, 1) := by decide +kernel
theorem dX4_readFigures_102 : decode cX4_readFigures 102 = .ok (.istore_n 1, 1) := by decide +kernel
theorem dX4_readFigures_103 : decode cX4_readFigures 103 = .ok (.aload_n 0, 1) := by decide +kernel
theorem dX4_readFigures_104 : decode cX4_readFigures 104 = .ok (.iload_n 1, 1) := by decide +kernel
theorem dX4_readFigures_105 : decode cX4_readFigures 105 = .ok (.ifCond .ne 12, 3) := by decide +kernel
theorem dX4_readFigures_108 : decode cX4_readFigures 108 = .ok (.aload_n 0, 1) := by decide +kernel
theorem dX4_readFigures_109 : decode cX4_readFigures 109 = .ok (.getfield 40, 3) := by decide +kernel
theorem dX4_readFigures_112 : decode cX4_readFigures 112 = .ok (.bipush 99, 2) := by decide +kernel
theorem dX4_readFigures_114 : decode cX4_readFigures 114 = .ok (.if_icmp .le 7, 3) := by decide +kernel
theorem dX4_readFigures_117 : decode cX4_readFigures 117 = .ok (.iconst 4, 1) := by decide +kernel
theorem dX4_readFigures_118 : decode cX4_readFigures 118 = .ok (.goto 4, 3) := by decide +kernel
theorem dX4_readFigures_121 : decode cX4_readFigures 121 = .ok (.iconst 2, 1) := by decide +kernel
theorem dX4_readFigures_122 : decode cX4_readFigures 122 = .ok (.putfield 37, 3) := by decide +kernel
theorem dX4_readFigures_125 : decode cX4_readFigures 125 = .ok (.return_, 1) := by decide +kernel
theorem dX4_byteAt_0 : decode cX4_byteAt 0 = .ok (.iload_n 1, 1) := by decide +kernel
theorem dX4_byteAt_1 : decode cX4_byteAt 1 = .ok (.ifCond .lt 26, 3) := by decide +kernel
theorem dX4_byteAt_4 : decode cX4_byteAt 4 = .ok (.iload_n 1, 1) := by decide +kernel
theorem dX4_byteAt_5 : decode cX4_byteAt 5 = .ok (.aload_n 0, 1) := by decide +kernel
theorem dX4_byteAt_6 : decode cX4_byteAt 6 = .ok (.getfield 15, 3) := by decide +kernel
theorem dX4_byteAt_9 : decode cX4_byteAt 9 = .ok (.if_icmp .ge 18, 3) := by decide +kernel
theorem dX4_byteAt_12 : decode cX4_byteAt 12 = .ok (.iload_n 1, 1) := by decide +kernel
theorem dX4_byteAt_13 : decode cX4_byteAt 13 = .ok (.bipush 120, 2) := by decide +kernel
theorem dX4_byteAt_15 : decode cX4_byteAt 15 = .ok (.if_icmp .ge 12, 3) := by decide +kernel
theorem dX4_byteAt_18 : decode cX4_byteAt 18 = .ok (.aload_n 0, 1) := by decide +kernel
theorem dX4_byteAt_19 : decode cX4_byteAt 19 = .ok (.getfield 11, 3) := by decide +kernel
theorem dX4_byteAt_22 : decode cX4_byteAt 22 = .ok (.iload_n 1, 1) := by decide +kernel
theorem dX4_byteAt_23 : decode cX4_byteAt 23 = .ok (.iaload, 1) := by decide +kernel
theorem dX4_byteAt_24 : decode cX4_byteAt 24 = .ok (.goto 4, 3) := by decide +kernel
theorem dX4_byteAt_27 : decode cX4_byteAt 27 = .ok (.iconst (-1), 1) := by decide +kernel
theorem dX4_byteAt_28 : decode cX4_byteAt 28 = .ok (.ireturn, 1) := by decide +kernel
theorem dX4_isLetter_0 : decode cX4_isLetter 0 = .ok (.iload_n 0, 1) := by decide +kernel
theorem dX4_isLetter_1 : decode cX4_isLetter 1 = .ok (.bipush 97, 2) := by decide +kernel
theorem dX4_isLetter_3 : decode cX4_isLetter 3 = .ok (.if_icmp .lt 13, 3) := by decide +kernel
theorem dX4_isLetter_6 : decode cX4_isLetter 6 = .ok (.iload_n 0, 1) := by decide +kernel
theorem dX4_isLetter_7 : decode cX4_isLetter 7 = .ok (.bipush 122, 2) := by decide +kernel
theorem dX4_isLetter_9 : decode cX4_isLetter 9 = .ok (.if_icmp .gt 7, 3) := by decide +kernel
theorem dX4_isLetter_12 : decode cX4_isLetter 12 = .ok (.iconst 1, 1) := by decide +kernel
theorem dX4_isLetter_13 : decode cX4_isLetter 13 = .ok (.goto 4, 3) := by decide +kernel
theorem dX4_isLetter_16 : decode cX4_isLetter 16 = .ok (.iconst 0, 1) := by decide +kernel
theorem dX4_isLetter_17 : decode cX4_isLetter 17 = .ok (.ireturn, 1) := by decide +kernel
theorem dX4_isFigure_0 : decode cX4_isFigure 0 = .ok (.iload_n 0, 1) := by decide +kernel
theorem dX4_isFigure_1 : decode cX4_isFigure 1 = .ok (.bipush 48, 2) := by decide +kernel
theorem dX4_isFigure_3 : decode cX4_isFigure 3 = .ok (.if_icmp .lt 13, 3) := by decide +kernel
theorem dX4_isFigure_6 : decode cX4_isFigure 6 = .ok (.iload_n 0, 1) := by decide +kernel
theorem dX4_isFigure_7 : decode cX4_isFigure 7 = .ok (.bipush 57, 2) := by decide +kernel
theorem dX4_isFigure_9 : decode cX4_isFigure 9 = .ok (.if_icmp .gt 7, 3) := by decide +kernel
theorem dX4_isFigure_12 : decode cX4_isFigure 12 = .ok (.iconst 1, 1) := by decide +kernel
theorem dX4_isFigure_13 : decode cX4_isFigure 13 = .ok (.goto 4, 3) := by decide +kernel
theorem dX4_isFigure_16 : decode cX4_isFigure 16 = .ok (.iconst 0, 1) := by decide +kernel
theorem dX4_isFigure_17 : decode cX4_isFigure 17 = .ok (.ireturn, 1) := by decide +kernel
theorem dX5_init_0 : decode cX5_init 0 = .ok (.aload_n 0, 1) := by decide +kernel
theorem dX5_init_1 : decode cX5_init 1 = .ok (.invokespecial 3, 3) := by decide +kernel
theorem dX5_init_4 : decode cX5_init 4 = .ok (.aload_n 0, 1) := by decide +kernel
theorem dX5_init_5 : decode cX5_init 5 = .ok (.aload_n 1, 1) := by decide +kernel
theorem dX5_init_6 : decode cX5_init 6 = .ok (.putfield 9, 3) := by decide +kernel
theorem dX5_init_9 : decode cX5_init 9 = .ok (.return_, 1) := by decide +kernel
theorem dX5_run_0 : decode cX5_run 0 = .ok (.aload_n 0, 1) := by decide +kernel
theorem dX5_run_1 : decode cX5_run 1 = .ok (.iload_n 1, 1) := by decide +kernel
theorem dX5_run_2 : decode cX5_run 2 = .ok (.putfield 15, 3) := by decide +kernel
theorem dX5_run_5 : decode cX5_run 5 = .ok (.aload_n 0, 1) := by decide +kernel
theorem dX5_run_6 : decode cX5_run 6 = .ok (.iconst 0, 1) := by decide +kernel
theorem dX5_run_7 : decode cX5_run 7 = .ok (.putfield 19, 3) := by decide +kernel
theorem dX5_run_10 : decode cX5_run 10 = .ok (.aload_n 0, 1) := by decide +kernel
theorem dX5_run_11 : decode cX5_run 11 = .ok (.bipush (-9), 2) := by decide +kernel
theorem dX5_run_13 : decode cX5_run 13 = .ok (.putfield 22, 3) := by decide +kernel
theorem dX5_run_16 : decode cX5_run 16 = .ok (.aload_n 0, 1) := by decide +kernel
theorem dX5_run_17 : decode cX5_run 17 = .ok (.iconst 0, 1) := by decide +kernel
theorem dX5_run_18 : decode cX5_run 18 = .ok (.putfield 25, 3) := by decide +kernel
theorem dX5_run_21 : decode cX5_run 21 = .ok (.iload_n 2, 1) := by decide +kernel
theorem dX5_run_22 : decode cX5_run 22 = .ok (.iconst 0, 1) := by decide +kernel
theorem dX5_run_23 : decode cX5_run 23 = .ok (.invokestatic 29, 3) := by decide +kernel
theorem dX5_run_26 : decode cX5_run 26 = .ok (.istore 4, 2) := by decide +kernel
theorem dX5_run_28 : decode cX5_run 28 = .ok (.iconst 0, 1) := by decide +kernel
theorem dX5_run_29 : decode cX5_run 29 = .ok (.istore 5, 2) := by decide +kernel
theorem dX5_run_31 : decode cX5_run 31 = .ok (.iload 5, 2) := by decide +kernel
theorem dX5_run_33 : decode cX5_run 33 = .ok (.iload_n 3, 1) := by decide +kernel
theorem dX5_run_34 : decode cX5_run 34 = .ok (.if_icmp .ge 70, 3) := by decide +kernel
theorem dX5_run_37 : decode cX5_run 37 = .ok (.iload 4, 2) := by decide +kernel
theorem dX5_run_39 : decode cX5_run 39 = .ok (.bipush (-9), 2) := by decide +kernel
theorem dX5_run_41 : decode cX5_run 41 = .ok (.if_icmp .eq 63, 3) := by decide +kernel
theorem dX5_run_44 : decode cX5_run 44 = .ok (.aload_n 0, 1) := by decide +kernel
theorem dX5_run_45 : decode cX5_run 45 = .ok (.getfield 9, 3) := by decide +kernel
theorem dX5_run_48 : decode cX5_run 48 = .ok (.iload 4, 2) := by decide +kernel
theorem dX5_run_50 : decode cX5_run 50 = .ok (.aload_n 0, 1) := by decide +kernel
theorem dX5_run_51 : decode cX5_run 51 = .ok (.getfield 15, 3) := by decide +kernel
theorem dX5_run_54 : decode cX5_run 54 = .ok (.invokevirtual 33, 3) := by decide +kernel
theorem dX5_run_57 : decode cX5_run 57 = .ok (.istore 6, 2) := by decide +kernel
theorem dX5_run_59 : decode cX5_run 59 = .ok (.iload 6, 2) := by decide +kernel
theorem dX5_run_61 : decode cX5_run 61 = .ok (.iconst (-1), 1) := by decide +kernel
theorem dX5_run_62 : decode cX5_run 62 = .ok (.if_icmp .ne 10, 3) := by decide +kernel
theorem dX5_run_65 : decode cX5_run 65 = .ok (.aload_n 0, 1) := by decide +kernel
theorem dX5_run_66 : decode cX5_run 66 = .ok (.iload 4, 2) := by decide +kernel
theorem dX5_run_68 : decode cX5_run 68 = .ok (.putfield 22, 3) := by decide +kernel
theorem dX5_run_71 : decode cX5_run 71 = .ok (.return_, 1) := by decide +kernel
theorem dX5_run_72 : decode cX5_run 72 = .ok (.aload_n 0, 1) := by decide +kernel
theorem dX5_run_73 : decode cX5_run 73 = .ok (.iload 6, 2) := by decide +kernel
theorem dX5_run_75 : decode cX5_run 75 = .ok (.putfield 15, 3) := by decide +kernel
theorem dX5_run_78 : decode cX5_run 78 = .ok (.aload_n 0, 1) := by decide +kernel
theorem dX5_run_79 : decode cX5_run 79 = .ok (.dup, 1) := by decide +kernel
theorem dX5_run_80 : decode cX5_run 80 = .ok (.getfield 19, 3) := by decide +kernel
theorem dX5_run_83 : decode cX5_run 83 = .ok (.iconst 1, 1) := by decide +kernel
theorem dX5_run_84 : decode cX5_run 84 = .ok (.iadd, 1) := by decide +kernel
theorem dX5_run_85 : decode cX5_run 85 = .ok (.putfield 19, 3) := by decide +kernel
theorem dX5_run_88 : decode cX5_run 88 = .ok (.iload_n 2, 1) := by decide +kernel
theorem dX5_run_89 : decode cX5_run 89 = .ok (.iload 4, 2) := by decide +kernel
theorem dX5_run_91 : decode cX5_run 91 = .ok (.iconst 1, 1) := by decide +kernel
theorem dX5_run_92 : decode cX5_run 92 = .ok (.iadd, 1) := by decide +kernel
theorem dX5_run_93 : decode cX5_run 93 = .ok (.invokestatic 29, 3) := by decide +kernel
theorem dX5_run_96 : decode cX5_run 96 = .ok (.istore 4, 2) := by decide +kernel
theorem dX5_run_98 : decode cX5_run 98 = .ok (.iinc 5 1, 3) := by decide +kernel
theorem dX5_run_101 : decode cX5_run 101 = .ok (.goto (-70), 3) := by decide +kernel
theorem dX5_run_104 : decode cX5_run 104 = .ok (.aload_n 0, 1) := by decide +kernel
theorem dX5_run_105 : decode cX5_run 105 = .ok (.iload 4, 2) := by decide +kernel
theorem dX5_run_107 : decode cX5_run 107 = .ok (.bipush (-9), 2) := by decide +kernel
theorem dX5_run_109 : decode cX5_run 109 = .ok (.if_icmp .eq 7, 3) := by decide +kernel
theorem dX5_run_112 : decode cX5_run 112 = .ok (.iconst 1, 1) := by decide +kernel
theorem dX5_run_113 : decode cX5_run 113 = .ok (.goto 4, 3) := by decide +kernel
theorem dX5_run_116 : decode cX5_run 116 = .ok (.iconst 0, 1) := by decide +kernel
theorem dX5_run_117 : decode cX5_run 117 = .ok (.putfield 25, 3) := by decide +kernel
theorem dX5_run_120 : decode cX5_run 120 = .ok (.return_, 1) := by decide +kernel
theorem dX5_runToEnd_0 : decode cX5_runToEnd 0 = .ok (.aload_n 0, 1) := by decide +kernel
theorem dX5_runToEnd_1 : decode cX5_runToEnd 1 = .ok (.iload_n 1, 1) := by decide +kernel
theorem dX5_runToEnd_2 : decode cX5_runToEnd 2 = .ok (.iload_n 2, 1) := by decide +kernel
theorem dX5_runToEnd_3 : decode cX5_runToEnd 3 = .ok (.aload_n 0, 1) := by decide +kernel
theorem dX5_runToEnd_4 : decode cX5_runToEnd 4 = .ok (.getfield 9, 3) := by decide +kernel
theorem dX5_runToEnd_7 : decode cX5_runToEnd 7 = .ok (.getfield 38, 3) := by decide +kernel
theorem dX5_runToEnd_10 : decode cX5_runToEnd 10 = .ok (.aload_n 0, 1) := by decide +kernel
theorem dX5_runToEnd_11 : decode cX5_runToEnd 11 = .ok (.getfield 9, 3) := by decide +kernel
theorem dX5_runToEnd_14 : decode cX5_runToEnd 14 = .ok (.getfield 41, 3) := by decide +kernel
theorem dX5_runToEnd_17 : decode cX5_runToEnd 17 = .ok (.imul, 1) := by decide +kernel
theorem dX5_runToEnd_18 : decode cX5_runToEnd 18 = .ok (.invokevirtual 44, 3) := by decide +kernel
theorem dX5_runToEnd_21 : decode cX5_runToEnd 21 = .ok (.return_, 1) := by decide +kernel
theorem dX5_reaches_0 : decode cX5_reaches 0 = .ok (.aload_n 0, 1) := by decide +kernel
theorem dX5_reaches_1 : decode cX5_reaches 1 = .ok (.iload_n 1, 1) := by decide +kernel
theorem dX5_reaches_2 : decode cX5_reaches 2 = .ok (.iload_n 2, 1) := by decide +kernel
theorem dX5_reaches_3 : decode cX5_reaches 3 = .ok (.iload_n 3, 1) := by decide +kernel
theorem dX5_reaches_4 : decode cX5_reaches 4 = .ok (.invokevirtual 44, 3) := by decide +kernel
theorem dX5_reaches_7 : decode cX5_reaches 7 = .ok (.aload_n 0, 1) := by decide +kernel
theorem dX5_reaches_8 : decode cX5_reaches 8 = .ok (.getfield 19, 3) := by decide +kernel
theorem dX5_reaches_11 : decode cX5_reaches 11 = .ok (.iload_n 3, 1) := by decide +kernel
theorem dX5_reaches_12 : decode cX5_reaches 12 = .ok (.if_icmp .lt 7, 3) := by decide +kernel
theorem dX5_reaches_15 : decode cX5_reaches 15 = .ok (.iconst 1, 1) := by decide +kernel
theorem dX5_reaches_16 : decode cX5_reaches 16 = .ok (.goto 4, 3) := by decide +kernel
theorem dX5_reaches_19 : decode cX5_reaches 19 = .ok (.iconst 0, 1) := by decide +kernel
theorem dX5_reaches_20 : decode cX5_reaches 20 = .ok (.ireturn, 1) := by decide +kernel
theorem dX5_longestBook_0 : decode cX5_longestBook 0 = .ok (.bipush (-9), 2) := by decide +kernel
theorem dX5_longestBook_2 : decode cX5_longestBook 2 = .ok (.istore_n 2, 1) := by decide +kernel
theorem dX5_longestBook_3 : decode cX5_longestBook 3 = .ok (.iconst (-1), 1) := by decide +kernel
theorem dX5_longestBook_4 : decode cX5_longestBook 4 = .ok (.istore_n 3, 1) := by decide +kernel
theorem dX5_longestBook_5 : decode cX5_longestBook 5 = .ok (.iconst 0, 1) := by decide +kernel
theorem dX5_longestBook_6 : decode cX5_longestBook 6 = .ok (.istore 4, 2) := by decide +kernel
theorem dX5_longestBook_8 : decode cX5_longestBook 8 = .ok (.iload 4, 2) := by decide +kernel
theorem dX5_longestBook_10 : decode cX5_longestBook 10 = .ok (.aload_n 0, 1) := by decide +kernel
theorem dX5_longestBook_11 : decode cX5_longestBook 11 = .ok (.getfield 9, 3) := by decide +kernel
theorem dX5_longestBook_14 : decode cX5_longestBook 14 = .ok (.getfield 38, 3) := by decide +kernel
theorem dX5_longestBook_17 : decode cX5_longestBook 17 = .ok (.if_icmp .ge 42, 3) := by decide +kernel
theorem dX5_longestBook_20 : decode cX5_longestBook 20 = .ok (.aload_n 0, 1) := by decide +kernel
theorem dX5_longestBook_21 : decode cX5_longestBook 21 = .ok (.iload 4, 2) := by decide +kernel
theorem dX5_longestBook_23 : decode cX5_longestBook 23 = .ok (.iload_n 1, 1) := by decide +kernel
theorem dX5_longestBook_24 : decode cX5_longestBook 24 = .ok (.invokevirtual 48, 3) := by decide +kernel
theorem dX5_longestBook_27 : decode cX5_longestBook 27 = .ok (.aload_n 0, 1) := by decide +kernel
theorem dX5_longestBook_28 : decode cX5_longestBook 28 = .ok (.getfield 25, 3) := by decide +kernel
theorem dX5_longestBook_31 : decode cX5_longestBook 31 = .ok (.ifCond .eq 6, 3) := by decide +kernel
theorem dX5_longestBook_34 : decode cX5_longestBook 34 = .ok (.bipush (-9), 2) := by decide +kernel
theorem dX5_longestBook_36 : decode cX5_longestBook 36 = .ok (.ireturn, 1) := by decide +kernel
theorem dX5_longestBook_37 : decode cX5_longestBook 37 = .ok (.aload_n 0, 1) := by decide +kernel
theorem dX5_longestBook_38 : decode cX5_longestBook 38 = .ok (.getfield 19, 3) := by decide +kernel
theorem dX5_longestBook_41 : decode cX5_longestBook 41 = .ok (.iload_n 3, 1) := by decide +kernel
theorem dX5_longestBook_42 : decode cX5_longestBook 42 = .ok (.if_icmp .le 11, 3) := by decide +kernel
theorem dX5_longestBook_45 : decode cX5_longestBook 45 = .ok (.aload_n 0, 1) := by decide +kernel
theorem dX5_longestBook_46 : decode cX5_longestBook 46 = .ok (.getfield 19, 3) := by decide +kernel
theorem dX5_longestBook_49 : decode cX5_longestBook 49 = .ok (.istore_n 3, 1) := by decide +kernel
theorem dX5_longestBook_50 : decode cX5_longestBook 50 = .ok (.iload 4, 2) := by decide +kernel
theorem dX5_longestBook_52 : decode cX5_longestBook 52 = .ok (.istore_n 2, 1) := by decide +kernel
theorem dX5_longestBook_53 : decode cX5_longestBook 53 = .ok (.iinc 4 1, 3) := by decide +kernel
theorem dX5_longestBook_56 : decode cX5_longestBook 56 = .ok (.goto (-48), 3) := by decide +kernel
theorem dX5_longestBook_59 : decode cX5_longestBook 59 = .ok (.iload_n 2, 1) := by decide +kernel
theorem dX5_longestBook_60 : decode cX5_longestBook 60 = .ok (.ireturn, 1) := by decide +kernel
theorem dX5_fewestToBuy_0 : decode cX5_fewestToBuy 0 = .ok (.iconst 0, 1) := by decide +kernel
theorem dX5_fewestToBuy_1 : decode cX5_fewestToBuy 1 = .ok (.istore 5, 2) := by decide +kernel
theorem dX5_fewestToBuy_3 : decode cX5_fewestToBuy 3 = .ok (.iload 5, 2) := by decide +kernel
theorem dX5_fewestToBuy_5 : decode cX5_fewestToBuy 5 = .ok (.bipush 6, 2) := by decide +kernel
theorem dX5_fewestToBuy_7 : decode cX5_fewestToBuy 7 = .ok (.if_icmp .gt 61, 3) := by decide +kernel
theorem dX5_fewestToBuy_10 : decode cX5_fewestToBuy 10 = .ok (.iconst 0, 1) := by decide +kernel
theorem dX5_fewestToBuy_11 : decode cX5_fewestToBuy 11 = .ok (.istore 6, 2) := by decide +kernel
theorem dX5_fewestToBuy_13 : decode cX5_fewestToBuy 13 = .ok (.iload 6, 2) := by decide +kernel
theorem dX5_fewestToBuy_15 : decode cX5_fewestToBuy 15 = .ok (.bipush 64, 2) := by decide +kernel
theorem dX5_fewestToBuy_17 : decode cX5_fewestToBuy 17 = .ok (.if_icmp .ge 45, 3) := by decide +kernel
theorem dX5_fewestToBuy_20 : decode cX5_fewestToBuy 20 = .ok (.iload 6, 2) := by decide +kernel
theorem dX5_fewestToBuy_22 : decode cX5_fewestToBuy 22 = .ok (.invokestatic 52, 3) := by decide +kernel
theorem dX5_fewestToBuy_25 : decode cX5_fewestToBuy 25 = .ok (.iload 5, 2) := by decide +kernel
theorem dX5_fewestToBuy_27 : decode cX5_fewestToBuy 27 = .ok (.if_icmp .ne 29, 3) := by decide +kernel
theorem dX5_fewestToBuy_30 : decode cX5_fewestToBuy 30 = .ok (.iload 6, 2) := by decide +kernel
theorem dX5_fewestToBuy_32 : decode cX5_fewestToBuy 32 = .ok (.iload_n 3, 1) := by decide +kernel
theorem dX5_fewestToBuy_33 : decode cX5_fewestToBuy 33 = .ok (.iconst (-1), 1) := by decide +kernel
theorem dX5_fewestToBuy_34 : decode cX5_fewestToBuy 34 = .ok (.ixor, 1) := by decide +kernel
theorem dX5_fewestToBuy_35 : decode cX5_fewestToBuy 35 = .ok (.iand, 1) := by decide +kernel
theorem dX5_fewestToBuy_36 : decode cX5_fewestToBuy 36 = .ok (.ifCond .ne 20, 3) := by decide +kernel
theorem dX5_fewestToBuy_39 : decode cX5_fewestToBuy 39 = .ok (.aload_n 0, 1) := by decide +kernel
theorem dX5_fewestToBuy_40 : decode cX5_fewestToBuy 40 = .ok (.iload_n 1, 1) := by decide +kernel
theorem dX5_fewestToBuy_41 : decode cX5_fewestToBuy 41 = .ok (.iload_n 2, 1) := by decide +kernel
theorem dX5_fewestToBuy_42 : decode cX5_fewestToBuy 42 = .ok (.iload 6, 2) := by decide +kernel
theorem dX5_fewestToBuy_44 : decode cX5_fewestToBuy 44 = .ok (.ior, 1) := by decide +kernel
theorem dX5_fewestToBuy_45 : decode cX5_fewestToBuy 45 = .ok (.iload 4, 2) := by decide +kernel
theorem dX5_fewestToBuy_47 : decode cX5_fewestToBuy 47 = .ok (.invokevirtual 58, 3) := by decide +kernel
theorem dX5_fewestToBuy_50 : decode cX5_fewestToBuy 50 = .ok (.ifCond .eq 6, 3) := by decide +kernel
theorem dX5_fewestToBuy_53 : decode cX5_fewestToBuy 53 = .ok (.iload 6, 2) := by decide +kernel
theorem dX5_fewestToBuy_55 : decode cX5_fewestToBuy 55 = .ok (.ireturn, 1) := by decide +kernel
theorem dX5_fewestToBuy_56 : decode cX5_fewestToBuy 56 = .ok (.iinc 6 1, 3) := by decide +kernel
theorem dX5_fewestToBuy_59 : decode cX5_fewestToBuy 59 = .ok (.goto (-46), 3) := by decide +kernel
theorem dX5_fewestToBuy_62 : decode cX5_fewestToBuy 62 = .ok (.iinc 5 1, 3) := by decide +kernel
theorem dX5_fewestToBuy_65 : decode cX5_fewestToBuy 65 = .ok (.goto (-62), 3) := by decide +kernel
theorem dX5_fewestToBuy_68 : decode cX5_fewestToBuy 68 = .ok (.bipush (-9), 2) := by decide +kernel
theorem dX5_fewestToBuy_70 : decode cX5_fewestToBuy 70 = .ok (.ireturn, 1) := by decide +kernel
theorem dX5_boughtFrom_0 : decode cX5_boughtFrom 0 = .ok (.iconst 0, 1) := by decide +kernel
theorem dX5_boughtFrom_1 : decode cX5_boughtFrom 1 = .ok (.istore_n 2, 1) := by decide +kernel
theorem dX5_boughtFrom_2 : decode cX5_boughtFrom 2 = .ok (.iload_n 2, 1) := by decide +kernel
theorem dX5_boughtFrom_3 : decode cX5_boughtFrom 3 = .ok (.bipush 6, 2) := by decide +kernel
theorem dX5_boughtFrom_5 : decode cX5_boughtFrom 5 = .ok (.if_icmp .ge 27, 3) := by decide +kernel
theorem dX5_boughtFrom_8 : decode cX5_boughtFrom 8 = .ok (.iload_n 1, 1) := by decide +kernel
theorem dX5_boughtFrom_9 : decode cX5_boughtFrom 9 = .ok (.iload_n 2, 1) := by decide +kernel
theorem dX5_boughtFrom_10 : decode cX5_boughtFrom 10 = .ok (.iadd, 1) := by decide +kernel
theorem dX5_boughtFrom_11 : decode cX5_boughtFrom 11 = .ok (.bipush 6, 2) := by decide +kernel
theorem dX5_boughtFrom_13 : decode cX5_boughtFrom 13 = .ok (.irem, 1) := by decide +kernel
theorem dX5_boughtFrom_14 : decode cX5_boughtFrom 14 = .ok (.istore_n 3, 1) := by decide +kernel
theorem dX5_boughtFrom_15 : decode cX5_boughtFrom 15 = .ok (.iload_n 0, 1) := by decide +kernel
theorem dX5_boughtFrom_16 : decode cX5_boughtFrom 16 = .ok (.iload_n 3, 1) := by decide +kernel
theorem dX5_boughtFrom_17 : decode cX5_boughtFrom 17 = .ok (.ishr, 1) := by decide +kernel
theorem dX5_boughtFrom_18 : decode cX5_boughtFrom 18 = .ok (.iconst 1, 1) := by decide +kernel
theorem dX5_boughtFrom_19 : decode cX5_boughtFrom 19 = .ok (.iand, 1) := by decide +kernel
theorem dX5_boughtFrom_20 : decode cX5_boughtFrom 20 = .ok (.iconst 1, 1) := by decide +kernel
theorem dX5_boughtFrom_21 : decode cX5_boughtFrom 21 = .ok (.if_icmp .ne 5, 3) := by decide +kernel
theorem dX5_boughtFrom_24 : decode cX5_boughtFrom 24 = .ok (.iload_n 3, 1) := by decide +kernel
theorem dX5_boughtFrom_25 : decode cX5_boughtFrom 25 = .ok (.ireturn, 1) := by decide +kernel
theorem dX5_boughtFrom_26 : decode cX5_boughtFrom 26 = .ok (.iinc 2 1, 3) := by decide +kernel
theorem dX5_boughtFrom_29 : decode cX5_boughtFrom 29 = .ok (.goto (-27), 3) := by decide +kernel
theorem dX5_boughtFrom_32 : decode cX5_boughtFrom 32 = .ok (.bipush (-9), 2) := by decide +kernel
theorem dX5_boughtFrom_34 : decode cX5_boughtFrom 34 = .ok (.ireturn, 1) := by decide +kernel
theorem dX6_init_0 : decode cX6_init 0 = .ok (.aload_n 0, 1) := by decide +kernel
theorem dX6_init_1 : decode cX6_init 1 = .ok (.invokespecial 5, 3) := by decide +kernel
theorem dX6_init_4 : decode cX6_init 4 = .ok (.aload_n 0, 1) := by decide +kernel
theorem dX6_init_5 : decode cX6_init 5 = .ok (.bipush 11, 2) := by decide +kernel
theorem dX6_init_7 : decode cX6_init 7 = .ok (.bipush 9, 2) := by decide +kernel
theorem dX6_init_9 : decode cX6_init 9 = .ok (.multianewarray 11 2, 4) := by decide +kernel
theorem dX6_init_13 : decode cX6_init 13 = .ok (.putfield 13, 3) := by decide +kernel
theorem dX6_init_16 : decode cX6_init 16 = .ok (.return_, 1) := by decide +kernel
theorem dX6_begin_0 : decode cX6_begin 0 = .ok (.aload_n 0, 1) := by decide +kernel
theorem dX6_begin_1 : decode cX6_begin 1 = .ok (.iconst 0, 1) := by decide +kernel
theorem dX6_begin_2 : decode cX6_begin 2 = .ok (.putfield 16, 3) := by decide +kernel
theorem dX6_begin_5 : decode cX6_begin 5 = .ok (.iconst 0, 1) := by decide +kernel
theorem dX6_begin_6 : decode cX6_begin 6 = .ok (.istore_n 2, 1) := by decide +kernel
theorem dX6_begin_7 : decode cX6_begin 7 = .ok (.iload_n 2, 1) := by decide +kernel
theorem dX6_begin_8 : decode cX6_begin 8 = .ok (.bipush 9, 2) := by decide +kernel
theorem dX6_begin_10 : decode cX6_begin 10 = .ok (.if_icmp .ge 15, 3) := by decide +kernel
theorem dX6_begin_13 : decode cX6_begin 13 = .ok (.aload_n 0, 1) := by decide +kernel
theorem dX6_begin_14 : decode cX6_begin 14 = .ok (.iload_n 2, 1) := by decide +kernel
theorem dX6_begin_15 : decode cX6_begin 15 = .ok (.iconst 0, 1) := by decide +kernel
theorem dX6_begin_16 : decode cX6_begin 16 = .ok (.invokevirtual 20, 3) := by decide +kernel
theorem dX6_begin_19 : decode cX6_begin 19 = .ok (.iinc 2 1, 3) := by decide +kernel
theorem dX6_begin_22 : decode cX6_begin 22 = .ok (.goto (-15), 3) := by decide +kernel
theorem dX6_begin_25 : decode cX6_begin 25 = .ok (.aload_n 0, 1) := by decide +kernel
theorem dX6_begin_26 : decode cX6_begin 26 = .ok (.iconst 0, 1) := by decide +kernel
theorem dX6_begin_27 : decode cX6_begin 27 = .ok (.iload_n 1, 1) := by decide +kernel
theorem dX6_begin_28 : decode cX6_begin 28 = .ok (.invokevirtual 20, 3) := by decide +kernel
theorem dX6_begin_31 : decode cX6_begin 31 = .ok (.return_, 1) := by decide +kernel
theorem dX6_at_0 : decode cX6_at 0 = .ok (.aload_n 0, 1) := by decide +kernel
theorem dX6_at_1 : decode cX6_at 1 = .ok (.getfield 16, 3) := by decide +kernel
theorem dX6_at_4 : decode cX6_at 4 = .ok (.ifCond .lt 36, 3) := by decide +kernel
theorem dX6_at_7 : decode cX6_at 7 = .ok (.aload_n 0, 1) := by decide +kernel
theorem dX6_at_8 : decode cX6_at 8 = .ok (.getfield 16, 3) := by decide +kernel
theorem dX6_at_11 : decode cX6_at 11 = .ok (.bipush 10, 2) := by decide +kernel
theorem dX6_at_13 : decode cX6_at 13 = .ok (.if_icmp .gt 27, 3) := by decide +kernel
theorem dX6_at_16 : decode cX6_at 16 = .ok (.iload_n 1, 1) := by decide +kernel
theorem dX6_at_17 : decode cX6_at 17 = .ok (.ifCond .lt 23, 3) := by decide +kernel
theorem dX6_at_20 : decode cX6_at 20 = .ok (.iload_n 1, 1) := by decide +kernel
theorem dX6_at_21 : decode cX6_at 21 = .ok (.bipush 9, 2) := by decide +kernel
theorem dX6_at_23 : decode cX6_at 23 = .ok (.if_icmp .ge 17, 3) := by decide +kernel
theorem dX6_at_26 : decode cX6_at 26 = .ok (.aload_n 0, 1) := by decide +kernel
theorem dX6_at_27 : decode cX6_at 27 = .ok (.getfield 13, 3) := by decide +kernel
theorem dX6_at_30 : decode cX6_at 30 = .ok (.aload_n 0, 1) := by decide +kernel
theorem dX6_at_31 : decode cX6_at 31 = .ok (.getfield 16, 3) := by decide +kernel
theorem dX6_at_34 : decode cX6_at 34 = .ok (.aaload, 1) := by decide +kernel
theorem dX6_at_35 : decode cX6_at 35 = .ok (.iload_n 1, 1) := by decide +kernel
theorem dX6_at_36 : decode cX6_at 36 = .ok (.iaload, 1) := by decide +kernel
theorem dX6_at_37 : decode cX6_at 37 = .ok (.goto 4, 3) := by decide +kernel
theorem dX6_at_40 : decode cX6_at 40 = .ok (.iconst 0, 1) := by decide +kernel
theorem dX6_at_41 : decode cX6_at 41 = .ok (.ireturn, 1) := by decide +kernel
theorem dX6_put_0 : decode cX6_put 0 = .ok (.aload_n 0, 1) := by decide +kernel
theorem dX6_put_1 : decode cX6_put 1 = .ok (.getfield 16, 3) := by decide +kernel
theorem dX6_put_4 : decode cX6_put 4 = .ok (.ifCond .lt 34, 3) := by decide +kernel
theorem dX6_put_7 : decode cX6_put 7 = .ok (.aload_n 0, 1) := by decide +kernel
theorem dX6_put_8 : decode cX6_put 8 = .ok (.getfield 16, 3) := by decide +kernel
theorem dX6_put_11 : decode cX6_put 11 = .ok (.bipush 10, 2) := by decide +kernel
theorem dX6_put_13 : decode cX6_put 13 = .ok (.if_icmp .gt 25, 3) := by decide +kernel
theorem dX6_put_16 : decode cX6_put 16 = .ok (.iload_n 1, 1) := by decide +kernel
theorem dX6_put_17 : decode cX6_put 17 = .ok (.ifCond .lt 21, 3) := by decide +kernel
theorem dX6_put_20 : decode cX6_put 20 = .ok (.iload_n 1, 1) := by decide +kernel
theorem dX6_put_21 : decode cX6_put 21 = .ok (.bipush 9, 2) := by decide +kernel
theorem dX6_put_23 : decode cX6_put 23 = .ok (.if_icmp .ge 15, 3) := by decide +kernel
theorem dX6_put_26 : decode cX6_put 26 = .ok (.aload_n 0, 1) := by decide +kernel
theorem dX6_put_27 : decode cX6_put 27 = .ok (.getfield 13, 3) := by decide +kernel
theorem dX6_put_30 : decode cX6_put 30 = .ok (.aload_n 0, 1) := by decide +kernel
theorem dX6_put_31 : decode cX6_put 31 = .ok (.getfield 16, 3) := by decide +kernel
theorem dX6_put_34 : decode cX6_put 34 = .ok (.aaload, 1) := by decide +kernel
theorem dX6_put_35 : decode cX6_put 35 = .ok (.iload_n 1, 1) := by decide +kernel
theorem dX6_put_36 : decode cX6_put 36 = .ok (.iload_n 2, 1) := by decide +kernel
theorem dX6_put_37 : decode cX6_put 37 = .ok (.iastore, 1) := by decide +kernel
theorem dX6_put_38 : decode cX6_put 38 = .ok (.return_, 1) := by decide +kernel
theorem dX6_book_0 : decode cX6_book 0 = .ok (.aload_n 0, 1) := by decide +kernel
theorem dX6_book_1 : decode cX6_book 1 = .ok (.iconst 0, 1) := by decide +kernel
theorem dX6_book_2 : decode cX6_book 2 = .ok (.invokevirtual 24, 3) := by decide +kernel
theorem dX6_book_5 : decode cX6_book 5 = .ok (.ireturn, 1) := by decide +kernel
theorem dX6_copiesNow_0 : decode cX6_copiesNow 0 = .ok (.aload_n 0, 1) := by decide +kernel
theorem dX6_copiesNow_1 : decode cX6_copiesNow 1 = .ok (.iconst 1, 1) := by decide +kernel
theorem dX6_copiesNow_2 : decode cX6_copiesNow 2 = .ok (.invokevirtual 24, 3) := by decide +kernel
theorem dX6_copiesNow_5 : decode cX6_copiesNow 5 = .ok (.ireturn, 1) := by decide +kernel
theorem dX6_released_0 : decode cX6_released 0 = .ok (.aload_n 0, 1) := by decide +kernel
theorem dX6_released_1 : decode cX6_released 1 = .ok (.iconst 2, 1) := by decide +kernel
theorem dX6_released_2 : decode cX6_released 2 = .ok (.invokevirtual 24, 3) := by decide +kernel
theorem dX6_released_5 : decode cX6_released 5 = .ok (.ireturn, 1) := by decide +kernel
theorem dX6_isReleased_0 : decode cX6_isReleased 0 = .ok (.aload_n 0, 1) := by decide +kernel
theorem dX6_isReleased_1 : decode cX6_isReleased 1 = .ok (.invokevirtual 28, 3) := by decide +kernel
theorem dX6_isReleased_4 : decode cX6_isReleased 4 = .ok (.iload_n 1, 1) := by decide +kernel
theorem dX6_isReleased_5 : decode cX6_isReleased 5 = .ok (.ishr, 1) := by decide +kernel
theorem dX6_isReleased_6 : decode cX6_isReleased 6 = .ok (.iconst 1, 1) := by decide +kernel
theorem dX6_isReleased_7 : decode cX6_isReleased 7 = .ok (.iand, 1) := by decide +kernel
theorem dX6_isReleased_8 : decode cX6_isReleased 8 = .ok (.iconst 1, 1) := by decide +kernel
theorem dX6_isReleased_9 : decode cX6_isReleased 9 = .ok (.if_icmp .ne 7, 3) := by decide +kernel
theorem dX6_isReleased_12 : decode cX6_isReleased 12 = .ok (.iconst 1, 1) := by decide +kernel
theorem dX6_isReleased_13 : decode cX6_isReleased 13 = .ok (.goto 4, 3) := by decide +kernel
theorem dX6_isReleased_16 : decode cX6_isReleased 16 = .ok (.iconst 0, 1) := by decide +kernel
theorem dX6_isReleased_17 : decode cX6_isReleased 17 = .ok (.ireturn, 1) := by decide +kernel
theorem dX6_timesOf_0 : decode cX6_timesOf 0 = .ok (.aload_n 0, 1) := by decide +kernel
theorem dX6_timesOf_1 : decode cX6_timesOf 1 = .ok (.iconst 3, 1) := by decide +kernel
theorem dX6_timesOf_2 : decode cX6_timesOf 2 = .ok (.iload_n 1, 1) := by decide +kernel
theorem dX6_timesOf_3 : decode cX6_timesOf 3 = .ok (.iadd, 1) := by decide +kernel
theorem dX6_timesOf_4 : decode cX6_timesOf 4 = .ok (.invokevirtual 24, 3) := by decide +kernel
theorem dX6_timesOf_7 : decode cX6_timesOf 7 = .ok (.ireturn, 1) := by decide +kernel
theorem dX6_setBook_0 : decode cX6_setBook 0 = .ok (.aload_n 0, 1) := by decide +kernel
theorem dX6_setBook_1 : decode cX6_setBook 1 = .ok (.iconst 0, 1) := by decide +kernel
theorem dX6_setBook_2 : decode cX6_setBook 2 = .ok (.iload_n 1, 1) := by decide +kernel
theorem dX6_setBook_3 : decode cX6_setBook 3 = .ok (.invokevirtual 20, 3) := by decide +kernel
theorem dX6_setBook_6 : decode cX6_setBook 6 = .ok (.return_, 1) := by decide +kernel
theorem dX6_copied_0 : decode cX6_copied 0 = .ok (.aload_n 0, 1) := by decide +kernel
theorem dX6_copied_1 : decode cX6_copied 1 = .ok (.iconst 0, 1) := by decide +kernel
theorem dX6_copied_2 : decode cX6_copied 2 = .ok (.iload_n 2, 1) := by decide +kernel
theorem dX6_copied_3 : decode cX6_copied 3 = .ok (.invokevirtual 20, 3) := by decide +kernel
theorem dX6_copied_6 : decode cX6_copied 6 = .ok (.aload_n 0, 1) := by decide +kernel
theorem dX6_copied_7 : decode cX6_copied 7 = .ok (.iconst 1, 1) := by decide +kernel
theorem dX6_copied_8 : decode cX6_copied 8 = .ok (.aload_n 0, 1) := by decide +kernel
theorem dX6_copied_9 : decode cX6_copied 9 = .ok (.invokevirtual 32, 3) := by decide +kernel
theorem dX6_copied_12 : decode cX6_copied 12 = .ok (.iconst 1, 1) := by decide +kernel
theorem dX6_copied_13 : decode cX6_copied 13 = .ok (.iadd, 1) := by decide +kernel
theorem dX6_copied_14 : decode cX6_copied 14 = .ok (.invokevirtual 20, 3) := by decide +kernel
theorem dX6_copied_17 : decode cX6_copied 17 = .ok (.aload_n 0, 1) := by decide +kernel
theorem dX6_copied_18 : decode cX6_copied 18 = .ok (.iconst 3, 1) := by decide +kernel
theorem dX6_copied_19 : decode cX6_copied 19 = .ok (.iload_n 1, 1) := by decide +kernel
theorem dX6_copied_20 : decode cX6_copied 20 = .ok (.iadd, 1) := by decide +kernel
theorem dX6_copied_21 : decode cX6_copied 21 = .ok (.aload_n 0, 1) := by decide +kernel
theorem dX6_copied_22 : decode cX6_copied 22 = .ok (.iload_n 1, 1) := by decide +kernel
theorem dX6_copied_23 : decode cX6_copied 23 = .ok (.invokevirtual 35, 3) := by decide +kernel
theorem dX6_copied_26 : decode cX6_copied 26 = .ok (.iconst 1, 1) := by decide +kernel
theorem dX6_copied_27 : decode cX6_copied 27 = .ok (.iadd, 1) := by decide +kernel
theorem dX6_copied_28 : decode cX6_copied 28 = .ok (.invokevirtual 20, 3) := by decide +kernel
theorem dX6_copied_31 : decode cX6_copied 31 = .ok (.return_, 1) := by decide +kernel
theorem dX6_turnReleased_0 : decode cX6_turnReleased 0 = .ok (.aload_n 0, 1) := by decide +kernel
theorem dX6_turnReleased_1 : decode cX6_turnReleased 1 = .ok (.iconst 2, 1) := by decide +kernel
theorem dX6_turnReleased_2 : decode cX6_turnReleased 2 = .ok (.aload_n 0, 1) := by decide +kernel
theorem dX6_turnReleased_3 : decode cX6_turnReleased 3 = .ok (.invokevirtual 28, 3) := by decide +kernel
theorem dX6_turnReleased_6 : decode cX6_turnReleased 6 = .ok (.iconst 1, 1) := by decide +kernel
theorem dX6_turnReleased_7 : decode cX6_turnReleased 7 = .ok (.iload_n 1, 1) := by decide +kernel
theorem dX6_turnReleased_8 : decode cX6_turnReleased 8 = .ok (.ishl, 1) := by decide +kernel
theorem dX6_turnReleased_9 : decode cX6_turnReleased 9 = .ok (.ixor, 1) := by decide +kernel
theorem dX6_turnReleased_10 : decode cX6_turnReleased 10 = .ok (.invokevirtual 20, 3) := by decide +kernel
theorem dX6_turnReleased_13 : decode cX6_turnReleased 13 = .ok (.return_, 1) := by decide +kernel
theorem dX6_remember_0 : decode cX6_remember 0 = .ok (.aload_n 0, 1) := by decide +kernel
theorem dX6_remember_1 : decode cX6_remember 1 = .ok (.getfield 16, 3) := by decide +kernel
theorem dX6_remember_4 : decode cX6_remember 4 = .ok (.bipush 10, 2) := by decide +kernel
theorem dX6_remember_6 : decode cX6_remember 6 = .ok (.if_icmp .ge 32, 3) := by decide +kernel
theorem dX6_remember_9 : decode cX6_remember 9 = .ok (.aload_n 0, 1) := by decide +kernel
theorem dX6_remember_10 : decode cX6_remember 10 = .ok (.dup, 1) := by decide +kernel
theorem dX6_remember_11 : decode cX6_remember 11 = .ok (.getfield 16, 3) := by decide +kernel
theorem dX6_remember_14 : decode cX6_remember 14 = .ok (.iconst 1, 1) := by decide +kernel
theorem dX6_remember_15 : decode cX6_remember 15 = .ok (.iadd, 1) := by decide +kernel
theorem dX6_remember_16 : decode cX6_remember 16 = .ok (.putfield 16, 3) := by decide +kernel
theorem dX6_remember_19 : decode cX6_remember 19 = .ok (.aload_n 0, 1) := by decide +kernel
theorem dX6_remember_20 : decode cX6_remember 20 = .ok (.aload_n 0, 1) := by decide +kernel
theorem dX6_remember_21 : decode cX6_remember 21 = .ok (.getfield 16, 3) := by decide +kernel
theorem dX6_remember_24 : decode cX6_remember 24 = .ok (.iconst 1, 1) := by decide +kernel
theorem dX6_remember_25 : decode cX6_remember 25 = .ok (.isub, 1) := by decide +kernel
theorem dX6_remember_26 : decode cX6_remember 26 = .ok (.aload_n 0, 1) := by decide +kernel
theorem dX6_remember_27 : decode cX6_remember 27 = .ok (.getfield 13, 3) := by decide +kernel
theorem dX6_remember_30 : decode cX6_remember 30 = .ok (.aload_n 0, 1) := by decide +kernel
theorem dX6_remember_31 : decode cX6_remember 31 = .ok (.getfield 16, 3) := by decide +kernel
theorem dX6_remember_34 : decode cX6_remember 34 = .ok (.invokevirtual 38, 3) := by decide +kernel
theorem dX6_remember_37 : decode cX6_remember 37 = .ok (.return_, 1) := by decide +kernel
theorem dX6_remember_38 : decode cX6_remember 38 = .ok (.iconst 0, 1) := by decide +kernel
theorem dX6_remember_39 : decode cX6_remember 39 = .ok (.istore_n 1, 1) := by decide +kernel
theorem dX6_remember_40 : decode cX6_remember 40 = .ok (.iload_n 1, 1) := by decide +kernel
theorem dX6_remember_41 : decode cX6_remember 41 = .ok (.bipush 10, 2) := by decide +kernel
theorem dX6_remember_43 : decode cX6_remember 43 = .ok (.if_icmp .ge 21, 3) := by decide +kernel
theorem dX6_remember_46 : decode cX6_remember 46 = .ok (.aload_n 0, 1) := by decide +kernel
theorem dX6_remember_47 : decode cX6_remember 47 = .ok (.iload_n 1, 1) := by decide +kernel
theorem dX6_remember_48 : decode cX6_remember 48 = .ok (.iconst 1, 1) := by decide +kernel
theorem dX6_remember_49 : decode cX6_remember 49 = .ok (.iadd, 1) := by decide +kernel
theorem dX6_remember_50 : decode cX6_remember 50 = .ok (.aload_n 0, 1) := by decide +kernel
theorem dX6_remember_51 : decode cX6_remember 51 = .ok (.getfield 13, 3) := by decide +kernel
theorem dX6_remember_54 : decode cX6_remember 54 = .ok (.iload_n 1, 1) := by decide +kernel
theorem dX6_remember_55 : decode cX6_remember 55 = .ok (.invokevirtual 38, 3) := by decide +kernel
theorem dX6_remember_58 : decode cX6_remember 58 = .ok (.iinc 1 1, 3) := by decide +kernel
theorem dX6_remember_61 : decode cX6_remember 61 = .ok (.goto (-21), 3) := by decide +kernel
theorem dX6_remember_64 : decode cX6_remember 64 = .ok (.return_, 1) := by decide +kernel
theorem dX6_takeBack_0 : decode cX6_takeBack 0 = .ok (.aload_n 0, 1) := by decide +kernel
theorem dX6_takeBack_1 : decode cX6_takeBack 1 = .ok (.getfield 16, 3) := by decide +kernel
theorem dX6_takeBack_4 : decode cX6_takeBack 4 = .ok (.iconst 1, 1) := by decide +kernel
theorem dX6_takeBack_5 : decode cX6_takeBack 5 = .ok (.if_icmp .ge 5, 3) := by decide +kernel
theorem dX6_takeBack_8 : decode cX6_takeBack 8 = .ok (.iconst 0, 1) := by decide +kernel
theorem dX6_takeBack_9 : decode cX6_takeBack 9 = .ok (.ireturn, 1) := by decide +kernel
theorem dX6_takeBack_10 : decode cX6_takeBack 10 = .ok (.aload_n 0, 1) := by decide +kernel
theorem dX6_takeBack_11 : decode cX6_takeBack 11 = .ok (.dup, 1) := by decide +kernel
theorem dX6_takeBack_12 : decode cX6_takeBack 12 = .ok (.getfield 16, 3) := by decide +kernel
theorem dX6_takeBack_15 : decode cX6_takeBack 15 = .ok (.iconst 1, 1) := by decide +kernel
theorem dX6_takeBack_16 : decode cX6_takeBack 16 = .ok (.isub, 1) := by decide +kernel
theorem dX6_takeBack_17 : decode cX6_takeBack 17 = .ok (.putfield 16, 3) := by decide +kernel
theorem dX6_takeBack_20 : decode cX6_takeBack 20 = .ok (.iconst 1, 1) := by decide +kernel
theorem dX6_takeBack_21 : decode cX6_takeBack 21 = .ok (.ireturn, 1) := by decide +kernel
theorem dX6_become_0 : decode cX6_become 0 = .ok (.aload_n 0, 1) := by decide +kernel
theorem dX6_become_1 : decode cX6_become 1 = .ok (.aload_n 1, 1) := by decide +kernel
theorem dX6_become_2 : decode cX6_become 2 = .ok (.getfield 16, 3) := by decide +kernel
theorem dX6_become_5 : decode cX6_become 5 = .ok (.putfield 16, 3) := by decide +kernel
theorem dX6_become_8 : decode cX6_become 8 = .ok (.iconst 0, 1) := by decide +kernel
theorem dX6_become_9 : decode cX6_become 9 = .ok (.istore_n 2, 1) := by decide +kernel
theorem dX6_become_10 : decode cX6_become 10 = .ok (.iload_n 2, 1) := by decide +kernel
theorem dX6_become_11 : decode cX6_become 11 = .ok (.aload_n 0, 1) := by decide +kernel
theorem dX6_become_12 : decode cX6_become 12 = .ok (.getfield 16, 3) := by decide +kernel
theorem dX6_become_15 : decode cX6_become 15 = .ok (.if_icmp .gt 19, 3) := by decide +kernel
theorem dX6_become_18 : decode cX6_become 18 = .ok (.aload_n 1, 1) := by decide +kernel
theorem dX6_become_19 : decode cX6_become 19 = .ok (.iload_n 2, 1) := by decide +kernel
theorem dX6_become_20 : decode cX6_become 20 = .ok (.aload_n 0, 1) := by decide +kernel
theorem dX6_become_21 : decode cX6_become 21 = .ok (.getfield 13, 3) := by decide +kernel
theorem dX6_become_24 : decode cX6_become 24 = .ok (.iload_n 2, 1) := by decide +kernel
theorem dX6_become_25 : decode cX6_become 25 = .ok (.invokevirtual 38, 3) := by decide +kernel
theorem dX6_become_28 : decode cX6_become 28 = .ok (.iinc 2 1, 3) := by decide +kernel
theorem dX6_become_31 : decode cX6_become 31 = .ok (.goto (-21), 3) := by decide +kernel
theorem dX6_become_34 : decode cX6_become 34 = .ok (.return_, 1) := by decide +kernel
theorem dX6_copyRow_0 : decode cX6_copyRow 0 = .ok (.iload_n 1, 1) := by decide +kernel
theorem dX6_copyRow_1 : decode cX6_copyRow 1 = .ok (.ifCond .lt 35, 3) := by decide +kernel
theorem dX6_copyRow_4 : decode cX6_copyRow 4 = .ok (.iload_n 1, 1) := by decide +kernel
theorem dX6_copyRow_5 : decode cX6_copyRow 5 = .ok (.bipush 10, 2) := by decide +kernel
theorem dX6_copyRow_7 : decode cX6_copyRow 7 = .ok (.if_icmp .gt 29, 3) := by decide +kernel
theorem dX6_copyRow_10 : decode cX6_copyRow 10 = .ok (.iload_n 3, 1) := by decide +kernel
theorem dX6_copyRow_11 : decode cX6_copyRow 11 = .ok (.ifCond .lt 25, 3) := by decide +kernel
theorem dX6_copyRow_14 : decode cX6_copyRow 14 = .ok (.iload_n 3, 1) := by decide +kernel
theorem dX6_copyRow_15 : decode cX6_copyRow 15 = .ok (.bipush 10, 2) := by decide +kernel
theorem dX6_copyRow_17 : decode cX6_copyRow 17 = .ok (.if_icmp .gt 19, 3) := by decide +kernel
theorem dX6_copyRow_20 : decode cX6_copyRow 20 = .ok (.aload_n 0, 1) := by decide +kernel
theorem dX6_copyRow_21 : decode cX6_copyRow 21 = .ok (.getfield 13, 3) := by decide +kernel
theorem dX6_copyRow_24 : decode cX6_copyRow 24 = .ok (.iload_n 1, 1) := by decide +kernel
theorem dX6_copyRow_25 : decode cX6_copyRow 25 = .ok (.aaload, 1) := by decide +kernel
theorem dX6_copyRow_26 : decode cX6_copyRow 26 = .ok (.iconst 0, 1) := by decide +kernel
theorem dX6_copyRow_27 : decode cX6_copyRow 27 = .ok (.aload_n 2, 1) := by decide +kernel
theorem dX6_copyRow_28 : decode cX6_copyRow 28 = .ok (.iload_n 3, 1) := by decide +kernel
theorem dX6_copyRow_29 : decode cX6_copyRow 29 = .ok (.aaload, 1) := by decide +kernel
theorem dX6_copyRow_30 : decode cX6_copyRow 30 = .ok (.iconst 0, 1) := by decide +kernel
theorem dX6_copyRow_31 : decode cX6_copyRow 31 = .ok (.bipush 9, 2) := by decide +kernel
theorem dX6_copyRow_33 : decode cX6_copyRow 33 = .ok (.invokestatic 42, 3) := by decide +kernel
theorem dX6_copyRow_36 : decode cX6_copyRow 36 = .ok (.return_, 1) := by decide +kernel
theorem dX7_init_0 : decode cX7_init 0 = .ok (.aload_n 0, 1) := by decide +kernel
theorem dX7_init_1 : decode cX7_init 1 = .ok (.invokespecial 3, 3) := by decide +kernel
theorem dX7_init_4 : decode cX7_init 4 = .ok (.aload_n 0, 1) := by decide +kernel
theorem dX7_init_5 : decode cX7_init 5 = .ok (.sipush 625, 3) := by decide +kernel
theorem dX7_init_8 : decode cX7_init 8 = .ok (.newarray .int, 2) := by decide +kernel
theorem dX7_init_10 : decode cX7_init 10 = .ok (.putfield 9, 3) := by decide +kernel
theorem dX7_init_13 : decode cX7_init 13 = .ok (.aload_n 0, 1) := by decide +kernel
theorem dX7_init_14 : decode cX7_init 14 = .ok (.sipush 625, 3) := by decide +kernel
theorem dX7_init_17 : decode cX7_init 17 = .ok (.newarray .int, 2) := by decide +kernel
theorem dX7_init_19 : decode cX7_init 19 = .ok (.putfield 15, 3) := by decide +kernel
theorem dX7_init_22 : decode cX7_init 22 = .ok (.aload_n 0, 1) := by decide +kernel
theorem dX7_init_23 : decode cX7_init 23 = .ok (.sipush 625, 3) := by decide +kernel
theorem dX7_init_26 : decode cX7_init 26 = .ok (.newarray .int, 2) := by decide +kernel
theorem dX7_init_28 : decode cX7_init 28 = .ok (.putfield 18, 3) := by decide +kernel
theorem dX7_init_31 : decode cX7_init 31 = .ok (.aload_n 0, 1) := by decide +kernel
theorem dX7_init_32 : decode cX7_init 32 = .ok (.sipush 625, 3) := by decide +kernel
theorem dX7_init_35 : decode cX7_init 35 = .ok (.newarray .int, 2) := by decide +kernel
theorem dX7_init_37 : decode cX7_init 37 = .ok (.putfield 21, 3) := by decide +kernel
theorem dX7_init_40 : decode cX7_init 40 = .ok (.aload_n 0, 1) := by decide +kernel
theorem dX7_init_41 : decode cX7_init 41 = .ok (.aload_n 1, 1) := by decide +kernel
theorem dX7_init_42 : decode cX7_init 42 = .ok (.putfield 24, 3) := by decide +kernel
theorem dX7_init_45 : decode cX7_init 45 = .ok (.return_, 1) := by decide +kernel
theorem dX7_search_0 : decode cX7_search 0 = .ok (.iconst 0, 1) := by decide +kernel
theorem dX7_search_1 : decode cX7_search 1 = .ok (.istore 4, 2) := by decide +kernel
theorem dX7_search_3 : decode cX7_search 3 = .ok (.iload 4, 2) := by decide +kernel
theorem dX7_search_5 : decode cX7_search 5 = .ok (.sipush 625, 3) := by decide +kernel
theorem dX7_search_8 : decode cX7_search 8 = .ok (.if_icmp .ge 17, 3) := by decide +kernel
theorem dX7_search_11 : decode cX7_search 11 = .ok (.aload_n 0, 1) := by decide +kernel
theorem dX7_search_12 : decode cX7_search 12 = .ok (.getfield 9, 3) := by decide +kernel
theorem dX7_search_15 : decode cX7_search 15 = .ok (.iload 4, 2) := by decide +kernel
theorem dX7_search_17 : decode cX7_search 17 = .ok (.iconst (-1), 1) := by decide +kernel
theorem dX7_search_18 : decode cX7_search 18 = .ok (.iastore, 1) := by decide +kernel
theorem dX7_search_19 : decode cX7_search 19 = .ok (.iinc 4 1, 3) := by decide +kernel
theorem dX7_search_22 : decode cX7_search 22 = .ok (.goto (-19), 3) := by decide +kernel
theorem dX7_search_25 : decode cX7_search 25 = .ok (.aload_n 0, 1) := by decide +kernel
theorem dX7_search_26 : decode cX7_search 26 = .ok (.iconst 0, 1) := by decide +kernel
theorem dX7_search_27 : decode cX7_search 27 = .ok (.putfield 28, 3) := by decide +kernel
theorem dX7_search_30 : decode cX7_search 30 = .ok (.aload_n 0, 1) := by decide +kernel
theorem dX7_search_31 : decode cX7_search 31 = .ok (.iload_n 1, 1) := by decide +kernel
theorem dX7_search_32 : decode cX7_search 32 = .ok (.iload_n 1, 1) := by decide +kernel
theorem dX7_search_33 : decode cX7_search 33 = .ok (.bipush (-9), 2) := by decide +kernel
theorem dX7_search_35 : decode cX7_search 35 = .ok (.iconst 0, 1) := by decide +kernel
theorem dX7_search_36 : decode cX7_search 36 = .ok (.invokevirtual 32, 3) := by decide +kernel
theorem dX7_search_39 : decode cX7_search 39 = .ok (.iconst 0, 1) := by decide +kernel
theorem dX7_search_40 : decode cX7_search 40 = .ok (.istore 4, 2) := by decide +kernel
theorem dX7_search_42 : decode cX7_search 42 = .ok (.iload 4, 2) := by decide +kernel
theorem dX7_search_44 : decode cX7_search 44 = .ok (.aload_n 0, 1) := by decide +kernel
theorem dX7_search_45 : decode cX7_search 45 = .ok (.getfield 28, 3) := by decide +kernel
theorem dX7_search_48 : decode cX7_search 48 = .ok (.if_icmp .ge 87, 3) := by decide +kernel
theorem dX7_search_51 : decode cX7_search 51 = .ok (.iload 4, 2) := by decide +kernel
theorem dX7_search_53 : decode cX7_search 53 = .ok (.sipush 625, 3) := by decide +kernel
theorem dX7_search_56 : decode cX7_search 56 = .ok (.if_icmp .ge 79, 3) := by decide +kernel
theorem dX7_search_59 : decode cX7_search 59 = .ok (.aload_n 0, 1) := by decide +kernel
theorem dX7_search_60 : decode cX7_search 60 = .ok (.iload_n 3, 1) := by decide +kernel
theorem dX7_search_61 : decode cX7_search 61 = .ok (.invokevirtual 36, 3) := by decide +kernel
theorem dX7_search_64 : decode cX7_search 64 = .ok (.ifCond .ne 71, 3) := by decide +kernel
theorem dX7_search_67 : decode cX7_search 67 = .ok (.aload_n 0, 1) := by decide +kernel
theorem dX7_search_68 : decode cX7_search 68 = .ok (.getfield 21, 3) := by decide +kernel
theorem dX7_search_71 : decode cX7_search 71 = .ok (.iload 4, 2) := by decide +kernel
theorem dX7_search_73 : decode cX7_search 73 = .ok (.iaload, 1) := by decide +kernel
theorem dX7_search_74 : decode cX7_search 74 = .ok (.istore 5, 2) := by decide +kernel
theorem dX7_search_76 : decode cX7_search 76 = .ok (.iconst 0, 1) := by decide +kernel
theorem dX7_search_77 : decode cX7_search 77 = .ok (.istore 6, 2) := by decide +kernel
theorem dX7_search_79 : decode cX7_search 79 = .ok (.iload 6, 2) := by decide +kernel
theorem dX7_search_81 : decode cX7_search 81 = .ok (.bipush 6, 2) := by decide +kernel
theorem dX7_search_83 : decode cX7_search 83 = .ok (.if_icmp .ge 46, 3) := by decide +kernel
theorem dX7_search_86 : decode cX7_search 86 = .ok (.iload_n 2, 1) := by decide +kernel
theorem dX7_search_87 : decode cX7_search 87 = .ok (.iload 6, 2) := by decide +kernel
theorem dX7_search_89 : decode cX7_search 89 = .ok (.ishr, 1) := by decide +kernel
theorem dX7_search_90 : decode cX7_search 90 = .ok (.iconst 1, 1) := by decide +kernel
theorem dX7_search_91 : decode cX7_search 91 = .ok (.iand, 1) := by decide +kernel
theorem dX7_search_92 : decode cX7_search 92 = .ok (.iconst 1, 1) := by decide +kernel
theorem dX7_search_93 : decode cX7_search 93 = .ok (.if_icmp .ne 30, 3) := by decide +kernel
theorem dX7_search_96 : decode cX7_search 96 = .ok (.aload_n 0, 1) := by decide +kernel
theorem dX7_search_97 : decode cX7_search 97 = .ok (.aload_n 0, 1) := by decide +kernel
theorem dX7_search_98 : decode cX7_search 98 = .ok (.getfield 24, 3) := by decide +kernel
theorem dX7_search_101 : decode cX7_search 101 = .ok (.iload 6, 2) := by decide +kernel
theorem dX7_search_103 : decode cX7_search 103 = .ok (.iload 5, 2) := by decide +kernel
theorem dX7_search_105 : decode cX7_search 105 = .ok (.invokevirtual 40, 3) := by decide +kernel
theorem dX7_search_108 : decode cX7_search 108 = .ok (.iload 5, 2) := by decide +kernel
theorem dX7_search_110 : decode cX7_search 110 = .ok (.iload 6, 2) := by decide +kernel
theorem dX7_search_112 : decode cX7_search 112 = .ok (.aload_n 0, 1) := by decide +kernel
theorem dX7_search_113 : decode cX7_search 113 = .ok (.iload 5, 2) := by decide +kernel
theorem dX7_search_115 : decode cX7_search 115 = .ok (.invokevirtual 46, 3) := by decide +kernel
theorem dX7_search_118 : decode cX7_search 118 = .ok (.iconst 1, 1) := by decide +kernel
theorem dX7_search_119 : decode cX7_search 119 = .ok (.iadd, 1) := by decide +kernel
theorem dX7_search_120 : decode cX7_search 120 = .ok (.invokevirtual 32, 3) := by decide +kernel
theorem dX7_search_123 : decode cX7_search 123 = .ok (.iinc 6 1, 3) := by decide +kernel
theorem dX7_search_126 : decode cX7_search 126 = .ok (.goto (-47), 3) := by decide +kernel
theorem dX7_search_129 : decode cX7_search 129 = .ok (.iinc 4 1, 3) := by decide +kernel
theorem dX7_search_132 : decode cX7_search 132 = .ok (.goto (-90), 3) := by decide +kernel
theorem dX7_search_135 : decode cX7_search 135 = .ok (.return_, 1) := by decide +kernel
theorem dX7_find_0 : decode cX7_find 0 = .ok (.iload_n 1, 1) := by decide +kernel
theorem dX7_find_1 : decode cX7_find 1 = .ok (.invokestatic 50, 3) := by decide +kernel
theorem dX7_find_4 : decode cX7_find 4 = .ok (.ifCond .eq 70, 3) := by decide +kernel
theorem dX7_find_7 : decode cX7_find 7 = .ok (.aload_n 0, 1) := by decide +kernel
theorem dX7_find_8 : decode cX7_find 8 = .ok (.iload_n 1, 1) := by decide +kernel
theorem dX7_find_9 : decode cX7_find 9 = .ok (.invokevirtual 36, 3) := by decide +kernel
theorem dX7_find_12 : decode cX7_find 12 = .ok (.ifCond .ne 62, 3) := by decide +kernel
theorem dX7_find_15 : decode cX7_find 15 = .ok (.aload_n 0, 1) := by decide +kernel
theorem dX7_find_16 : decode cX7_find 16 = .ok (.getfield 28, 3) := by decide +kernel
theorem dX7_find_19 : decode cX7_find 19 = .ok (.ifCond .lt 55, 3) := by decide +kernel
theorem dX7_find_22 : decode cX7_find 22 = .ok (.aload_n 0, 1) := by decide +kernel
theorem dX7_find_23 : decode cX7_find 23 = .ok (.getfield 28, 3) := by decide +kernel
theorem dX7_find_26 : decode cX7_find 26 = .ok (.sipush 625, 3) := by decide +kernel
theorem dX7_find_29 : decode cX7_find 29 = .ok (.if_icmp .ge 45, 3) := by decide +kernel
theorem dX7_find_32 : decode cX7_find 32 = .ok (.aload_n 0, 1) := by decide +kernel
theorem dX7_find_33 : decode cX7_find 33 = .ok (.getfield 9, 3) := by decide +kernel
theorem dX7_find_36 : decode cX7_find 36 = .ok (.iload_n 1, 1) := by decide +kernel
theorem dX7_find_37 : decode cX7_find 37 = .ok (.iload 4, 2) := by decide +kernel
theorem dX7_find_39 : decode cX7_find 39 = .ok (.iastore, 1) := by decide +kernel
theorem dX7_find_40 : decode cX7_find 40 = .ok (.aload_n 0, 1) := by decide +kernel
theorem dX7_find_41 : decode cX7_find 41 = .ok (.getfield 15, 3) := by decide +kernel
theorem dX7_find_44 : decode cX7_find 44 = .ok (.iload_n 1, 1) := by decide +kernel
theorem dX7_find_45 : decode cX7_find 45 = .ok (.iload_n 2, 1) := by decide +kernel
theorem dX7_find_46 : decode cX7_find 46 = .ok (.iastore, 1) := by decide +kernel
theorem dX7_find_47 : decode cX7_find 47 = .ok (.aload_n 0, 1) := by decide +kernel
theorem dX7_find_48 : decode cX7_find 48 = .ok (.getfield 18, 3) := by decide +kernel
theorem dX7_find_51 : decode cX7_find 51 = .ok (.iload_n 1, 1) := by decide +kernel
theorem dX7_find_52 : decode cX7_find 52 = .ok (.iload_n 3, 1) := by decide +kernel
theorem dX7_find_53 : decode cX7_find 53 = .ok (.iastore, 1) := by decide +kernel
theorem dX7_find_54 : decode cX7_find 54 = .ok (.aload_n 0, 1) := by decide +kernel
theorem dX7_find_55 : decode cX7_find 55 = .ok (.getfield 21, 3) := by decide +kernel
theorem dX7_find_58 : decode cX7_find 58 = .ok (.aload_n 0, 1) := by decide +kernel
theorem dX7_find_59 : decode cX7_find 59 = .ok (.getfield 28, 3) := by decide +kernel
theorem dX7_find_62 : decode cX7_find 62 = .ok (.iload_n 1, 1) := by decide +kernel
theorem dX7_find_63 : decode cX7_find 63 = .ok (.iastore, 1) := by decide +kernel
theorem dX7_find_64 : decode cX7_find 64 = .ok (.aload_n 0, 1) := by decide +kernel
theorem dX7_find_65 : decode cX7_find 65 = .ok (.dup, 1) := by decide +kernel
theorem dX7_find_66 : decode cX7_find 66 = .ok (.getfield 28, 3) := by decide +kernel
theorem dX7_find_69 : decode cX7_find 69 = .ok (.iconst 1, 1) := by decide +kernel
theorem dX7_find_70 : decode cX7_find 70 = .ok (.iadd, 1) := by decide +kernel
theorem dX7_find_71 : decode cX7_find 71 = .ok (.putfield 28, 3) := by decide +kernel
theorem dX7_find_74 : decode cX7_find 74 = .ok (.return_, 1) := by decide +kernel
theorem dX7_isBook_0 : decode cX7_isBook 0 = .ok (.iload_n 0, 1) := by decide +kernel
theorem dX7_isBook_1 : decode cX7_isBook 1 = .ok (.ifCond .lt 14, 3) := by decide +kernel
theorem dX7_isBook_4 : decode cX7_isBook 4 = .ok (.iload_n 0, 1) := by decide +kernel
theorem dX7_isBook_5 : decode cX7_isBook 5 = .ok (.sipush 625, 3) := by decide +kernel
theorem dX7_isBook_8 : decode cX7_isBook 8 = .ok (.if_icmp .ge 7, 3) := by decide +kernel
theorem dX7_isBook_11 : decode cX7_isBook 11 = .ok (.iconst 1, 1) := by decide +kernel
theorem dX7_isBook_12 : decode cX7_isBook 12 = .ok (.goto 4, 3) := by decide +kernel
theorem dX7_isBook_15 : decode cX7_isBook 15 = .ok (.iconst 0, 1) := by decide +kernel
theorem dX7_isBook_16 : decode cX7_isBook 16 = .ok (.ireturn, 1) := by decide +kernel
theorem dX7_distanceOf_0 : decode cX7_distanceOf 0 = .ok (.iload_n 1, 1) := by decide +kernel
theorem dX7_distanceOf_1 : decode cX7_distanceOf 1 = .ok (.invokestatic 50, 3) := by decide +kernel
theorem dX7_distanceOf_4 : decode cX7_distanceOf 4 = .ok (.ifCond .eq 12, 3) := by decide +kernel
theorem dX7_distanceOf_7 : decode cX7_distanceOf 7 = .ok (.aload_n 0, 1) := by decide +kernel
theorem dX7_distanceOf_8 : decode cX7_distanceOf 8 = .ok (.getfield 9, 3) := by decide +kernel
theorem dX7_distanceOf_11 : decode cX7_distanceOf 11 = .ok (.iload_n 1, 1) := by decide +kernel
theorem dX7_distanceOf_12 : decode cX7_distanceOf 12 = .ok (.iaload, 1) := by decide +kernel
theorem dX7_distanceOf_13 : decode cX7_distanceOf 13 = .ok (.goto 4, 3) := by decide +kernel
theorem dX7_distanceOf_16 : decode cX7_distanceOf 16 = .ok (.iconst (-1), 1) := by decide +kernel
theorem dX7_distanceOf_17 : decode cX7_distanceOf 17 = .ok (.ireturn, 1) := by decide +kernel
theorem dX7_isFound_0 : decode cX7_isFound 0 = .ok (.aload_n 0, 1) := by decide +kernel
theorem dX7_isFound_1 : decode cX7_isFound 1 = .ok (.iload_n 1, 1) := by decide +kernel
theorem dX7_isFound_2 : decode cX7_isFound 2 = .ok (.invokevirtual 46, 3) := by decide +kernel
theorem dX7_isFound_5 : decode cX7_isFound 5 = .ok (.iconst (-1), 1) := by decide +kernel
theorem dX7_isFound_6 : decode cX7_isFound 6 = .ok (.if_icmp .eq 7, 3) := by decide +kernel
theorem dX7_isFound_9 : decode cX7_isFound 9 = .ok (.iconst 1, 1) := by decide +kernel
theorem dX7_isFound_10 : decode cX7_isFound 10 = .ok (.goto 4, 3) := by decide +kernel
theorem dX7_isFound_13 : decode cX7_isFound 13 = .ok (.iconst 0, 1) := by decide +kernel
theorem dX7_isFound_14 : decode cX7_isFound 14 = .ok (.ireturn, 1) := by decide +kernel
theorem dX7_fewestCopies_0 : decode cX7_fewestCopies 0 = .ok (.aload_n 0, 1) := by decide +kernel
theorem dX7_fewestCopies_1 : decode cX7_fewestCopies 1 = .ok (.iload_n 1, 1) := by decide +kernel
theorem dX7_fewestCopies_2 : decode cX7_fewestCopies 2 = .ok (.invokevirtual 36, 3) := by decide +kernel
theorem dX7_fewestCopies_5 : decode cX7_fewestCopies 5 = .ok (.ifCond .eq 11, 3) := by decide +kernel
theorem dX7_fewestCopies_8 : decode cX7_fewestCopies 8 = .ok (.aload_n 0, 1) := by decide +kernel
theorem dX7_fewestCopies_9 : decode cX7_fewestCopies 9 = .ok (.iload_n 1, 1) := by decide +kernel
theorem dX7_fewestCopies_10 : decode cX7_fewestCopies 10 = .ok (.invokevirtual 46, 3) := by decide +kernel
theorem dX7_fewestCopies_13 : decode cX7_fewestCopies 13 = .ok (.goto 5, 3) := by decide +kernel
theorem dX7_fewestCopies_16 : decode cX7_fewestCopies 16 = .ok (.bipush (-9), 2) := by decide +kernel
theorem dX7_fewestCopies_18 : decode cX7_fewestCopies 18 = .ok (.ireturn, 1) := by decide +kernel
theorem dX7_scribeOfCopy_0 : decode cX7_scribeOfCopy 0 = .ok (.iload_n 2, 1) := by decide +kernel
theorem dX7_scribeOfCopy_1 : decode cX7_scribeOfCopy 1 = .ok (.ifCond .lt 12, 3) := by decide +kernel
theorem dX7_scribeOfCopy_4 : decode cX7_scribeOfCopy 4 = .ok (.iload_n 2, 1) := by decide +kernel
theorem dX7_scribeOfCopy_5 : decode cX7_scribeOfCopy 5 = .ok (.aload_n 0, 1) := by decide +kernel
theorem dX7_scribeOfCopy_6 : decode cX7_scribeOfCopy 6 = .ok (.iload_n 1, 1) := by decide +kernel
theorem dX7_scribeOfCopy_7 : decode cX7_scribeOfCopy 7 = .ok (.invokevirtual 46, 3) := by decide +kernel
theorem dX7_scribeOfCopy_10 : decode cX7_scribeOfCopy 10 = .ok (.if_icmp .lt 6, 3) := by decide +kernel
theorem dX7_scribeOfCopy_13 : decode cX7_scribeOfCopy 13 = .ok (.bipush (-9), 2) := by decide +kernel
theorem dX7_scribeOfCopy_15 : decode cX7_scribeOfCopy 15 = .ok (.ireturn, 1) := by decide +kernel
theorem dX7_scribeOfCopy_16 : decode cX7_scribeOfCopy 16 = .ok (.iload_n 1, 1) := by decide +kernel
theorem dX7_scribeOfCopy_17 : decode cX7_scribeOfCopy 17 = .ok (.istore_n 3, 1) := by decide +kernel
theorem dX7_scribeOfCopy_18 : decode cX7_scribeOfCopy 18 = .ok (.iconst 0, 1) := by decide +kernel
theorem dX7_scribeOfCopy_19 : decode cX7_scribeOfCopy 19 = .ok (.istore 4, 2) := by decide +kernel
theorem dX7_scribeOfCopy_21 : decode cX7_scribeOfCopy 21 = .ok (.iload 4, 2) := by decide +kernel
theorem dX7_scribeOfCopy_23 : decode cX7_scribeOfCopy 23 = .ok (.sipush 625, 3) := by decide +kernel
theorem dX7_scribeOfCopy_26 : decode cX7_scribeOfCopy 26 = .ok (.if_icmp .ge 34, 3) := by decide +kernel
theorem dX7_scribeOfCopy_29 : decode cX7_scribeOfCopy 29 = .ok (.iload_n 3, 1) := by decide +kernel
theorem dX7_scribeOfCopy_30 : decode cX7_scribeOfCopy 30 = .ok (.invokestatic 50, 3) := by decide +kernel
theorem dX7_scribeOfCopy_33 : decode cX7_scribeOfCopy 33 = .ok (.ifCond .eq 27, 3) := by decide +kernel
theorem dX7_scribeOfCopy_36 : decode cX7_scribeOfCopy 36 = .ok (.aload_n 0, 1) := by decide +kernel
theorem dX7_scribeOfCopy_37 : decode cX7_scribeOfCopy 37 = .ok (.iload_n 3, 1) := by decide +kernel
theorem dX7_scribeOfCopy_38 : decode cX7_scribeOfCopy 38 = .ok (.invokevirtual 46, 3) := by decide +kernel
theorem dX7_scribeOfCopy_41 : decode cX7_scribeOfCopy 41 = .ok (.iload_n 2, 1) := by decide +kernel
theorem dX7_scribeOfCopy_42 : decode cX7_scribeOfCopy 42 = .ok (.iconst 1, 1) := by decide +kernel
theorem dX7_scribeOfCopy_43 : decode cX7_scribeOfCopy 43 = .ok (.iadd, 1) := by decide +kernel
theorem dX7_scribeOfCopy_44 : decode cX7_scribeOfCopy 44 = .ok (.if_icmp .le 16, 3) := by decide +kernel
theorem dX7_scribeOfCopy_47 : decode cX7_scribeOfCopy 47 = .ok (.aload_n 0, 1) := by decide +kernel
theorem dX7_scribeOfCopy_48 : decode cX7_scribeOfCopy 48 = .ok (.getfield 15, 3) := by decide +kernel
theorem dX7_scribeOfCopy_51 : decode cX7_scribeOfCopy 51 = .ok (.iload_n 3, 1) := by decide +kernel
theorem dX7_scribeOfCopy_52 : decode cX7_scribeOfCopy 52 = .ok (.iaload, 1) := by decide +kernel
theorem dX7_scribeOfCopy_53 : decode cX7_scribeOfCopy 53 = .ok (.istore_n 3, 1) := by decide +kernel
theorem dX7_scribeOfCopy_54 : decode cX7_scribeOfCopy 54 = .ok (.iinc 4 1, 3) := by decide +kernel
theorem dX7_scribeOfCopy_57 : decode cX7_scribeOfCopy 57 = .ok (.goto (-36), 3) := by decide +kernel
theorem dX7_scribeOfCopy_60 : decode cX7_scribeOfCopy 60 = .ok (.iload_n 3, 1) := by decide +kernel
theorem dX7_scribeOfCopy_61 : decode cX7_scribeOfCopy 61 = .ok (.invokestatic 50, 3) := by decide +kernel
theorem dX7_scribeOfCopy_64 : decode cX7_scribeOfCopy 64 = .ok (.ifCond .eq 12, 3) := by decide +kernel
theorem dX7_scribeOfCopy_67 : decode cX7_scribeOfCopy 67 = .ok (.aload_n 0, 1) := by decide +kernel
theorem dX7_scribeOfCopy_68 : decode cX7_scribeOfCopy 68 = .ok (.getfield 18, 3) := by decide +kernel
theorem dX7_scribeOfCopy_71 : decode cX7_scribeOfCopy 71 = .ok (.iload_n 3, 1) := by decide +kernel
theorem dX7_scribeOfCopy_72 : decode cX7_scribeOfCopy 72 = .ok (.iaload, 1) := by decide +kernel
theorem dX7_scribeOfCopy_73 : decode cX7_scribeOfCopy 73 = .ok (.goto 5, 3) := by decide +kernel
theorem dX7_scribeOfCopy_76 : decode cX7_scribeOfCopy 76 = .ok (.bipush (-9), 2) := by decide +kernel
theorem dX7_scribeOfCopy_78 : decode cX7_scribeOfCopy 78 = .ok (.ireturn, 1) := by decide +kernel
theorem dX7_countBefore_0 : decode cX7_countBefore 0 = .ok (.iconst 0, 1) := by decide +kernel
theorem dX7_countBefore_1 : decode cX7_countBefore 1 = .ok (.istore_n 3, 1) := by decide +kernel
theorem dX7_countBefore_2 : decode cX7_countBefore 2 = .ok (.iconst 0, 1) := by decide +kernel
theorem dX7_countBefore_3 : decode cX7_countBefore 3 = .ok (.istore 4, 2) := by decide +kernel
theorem dX7_countBefore_5 : decode cX7_countBefore 5 = .ok (.iload 4, 2) := by decide +kernel
theorem dX7_countBefore_7 : decode cX7_countBefore 7 = .ok (.aload_n 0, 1) := by decide +kernel
theorem dX7_countBefore_8 : decode cX7_countBefore 8 = .ok (.getfield 24, 3) := by decide +kernel
theorem dX7_countBefore_11 : decode cX7_countBefore 11 = .ok (.getfield 53, 3) := by decide +kernel
theorem dX7_countBefore_14 : decode cX7_countBefore 14 = .ok (.if_icmp .ge 26, 3) := by decide +kernel
theorem dX7_countBefore_17 : decode cX7_countBefore 17 = .ok (.aload_n 0, 1) := by decide +kernel
theorem dX7_countBefore_18 : decode cX7_countBefore 18 = .ok (.getfield 24, 3) := by decide +kernel
theorem dX7_countBefore_21 : decode cX7_countBefore 21 = .ok (.iload_n 1, 1) := by decide +kernel
theorem dX7_countBefore_22 : decode cX7_countBefore 22 = .ok (.iload 4, 2) := by decide +kernel
theorem dX7_countBefore_24 : decode cX7_countBefore 24 = .ok (.invokevirtual 40, 3) := by decide +kernel
theorem dX7_countBefore_27 : decode cX7_countBefore 27 = .ok (.iload_n 2, 1) := by decide +kernel
theorem dX7_countBefore_28 : decode cX7_countBefore 28 = .ok (.if_icmp .ne 6, 3) := by decide +kernel
theorem dX7_countBefore_31 : decode cX7_countBefore 31 = .ok (.iinc 3 1, 3) := by decide +kernel
theorem dX7_countBefore_34 : decode cX7_countBefore 34 = .ok (.iinc 4 1, 3) := by decide +kernel
theorem dX7_countBefore_37 : decode cX7_countBefore 37 = .ok (.goto (-32), 3) := by decide +kernel
theorem dX7_countBefore_40 : decode cX7_countBefore 40 = .ok (.iload_n 3, 1) := by decide +kernel
theorem dX7_countBefore_41 : decode cX7_countBefore 41 = .ok (.ireturn, 1) := by decide +kernel
theorem dX7_lastCopiers_0 : decode cX7_lastCopiers 0 = .ok (.iconst 0, 1) := by decide +kernel
theorem dX7_lastCopiers_1 : decode cX7_lastCopiers 1 = .ok (.istore_n 2, 1) := by decide +kernel
theorem dX7_lastCopiers_2 : decode cX7_lastCopiers 2 = .ok (.iconst 0, 1) := by decide +kernel
theorem dX7_lastCopiers_3 : decode cX7_lastCopiers 3 = .ok (.istore_n 3, 1) := by decide +kernel
theorem dX7_lastCopiers_4 : decode cX7_lastCopiers 4 = .ok (.iload_n 3, 1) := by decide +kernel
theorem dX7_lastCopiers_5 : decode cX7_lastCopiers 5 = .ok (.aload_n 0, 1) := by decide +kernel
theorem dX7_lastCopiers_6 : decode cX7_lastCopiers 6 = .ok (.getfield 24, 3) := by decide +kernel
theorem dX7_lastCopiers_9 : decode cX7_lastCopiers 9 = .ok (.getfield 56, 3) := by decide +kernel
theorem dX7_lastCopiers_12 : decode cX7_lastCopiers 12 = .ok (.if_icmp .ge 24, 3) := by decide +kernel
theorem dX7_lastCopiers_15 : decode cX7_lastCopiers 15 = .ok (.aload_n 0, 1) := by decide +kernel
theorem dX7_lastCopiers_16 : decode cX7_lastCopiers 16 = .ok (.iload_n 3, 1) := by decide +kernel
theorem dX7_lastCopiers_17 : decode cX7_lastCopiers 17 = .ok (.iload_n 1, 1) := by decide +kernel
theorem dX7_lastCopiers_18 : decode cX7_lastCopiers 18 = .ok (.invokevirtual 59, 3) := by decide +kernel
theorem dX7_lastCopiers_21 : decode cX7_lastCopiers 21 = .ok (.ifCond .le 9, 3) := by decide +kernel
theorem dX7_lastCopiers_24 : decode cX7_lastCopiers 24 = .ok (.iload_n 2, 1) := by decide +kernel
theorem dX7_lastCopiers_25 : decode cX7_lastCopiers 25 = .ok (.iconst 1, 1) := by decide +kernel
theorem dX7_lastCopiers_26 : decode cX7_lastCopiers 26 = .ok (.iload_n 3, 1) := by decide +kernel
theorem dX7_lastCopiers_27 : decode cX7_lastCopiers 27 = .ok (.ishl, 1) := by decide +kernel
theorem dX7_lastCopiers_28 : decode cX7_lastCopiers 28 = .ok (.ior, 1) := by decide +kernel
theorem dX7_lastCopiers_29 : decode cX7_lastCopiers 29 = .ok (.istore_n 2, 1) := by decide +kernel
theorem dX7_lastCopiers_30 : decode cX7_lastCopiers 30 = .ok (.iinc 3 1, 3) := by decide +kernel
theorem dX7_lastCopiers_33 : decode cX7_lastCopiers 33 = .ok (.goto (-29), 3) := by decide +kernel
theorem dX7_lastCopiers_36 : decode cX7_lastCopiers 36 = .ok (.iload_n 2, 1) := by decide +kernel
theorem dX7_lastCopiers_37 : decode cX7_lastCopiers 37 = .ok (.ireturn, 1) := by decide +kernel
theorem dX7_sameLines_0 : decode cX7_sameLines 0 = .ok (.bipush (-9), 2) := by decide +kernel
theorem dX7_sameLines_2 : decode cX7_sameLines 2 = .ok (.istore_n 3, 1) := by decide +kernel
theorem dX7_sameLines_3 : decode cX7_sameLines 3 = .ok (.iconst 0, 1) := by decide +kernel
theorem dX7_sameLines_4 : decode cX7_sameLines 4 = .ok (.istore 4, 2) := by decide +kernel
theorem dX7_sameLines_6 : decode cX7_sameLines 6 = .ok (.iconst 0, 1) := by decide +kernel
theorem dX7_sameLines_7 : decode cX7_sameLines 7 = .ok (.istore 5, 2) := by decide +kernel
theorem dX7_sameLines_9 : decode cX7_sameLines 9 = .ok (.iload 5, 2) := by decide +kernel
theorem dX7_sameLines_11 : decode cX7_sameLines 11 = .ok (.aload_n 0, 1) := by decide +kernel
theorem dX7_sameLines_12 : decode cX7_sameLines 12 = .ok (.getfield 24, 3) := by decide +kernel
theorem dX7_sameLines_15 : decode cX7_sameLines 15 = .ok (.getfield 56, 3) := by decide +kernel
theorem dX7_sameLines_18 : decode cX7_sameLines 18 = .ok (.if_icmp .ge 79, 3) := by decide +kernel
theorem dX7_sameLines_21 : decode cX7_sameLines 21 = .ok (.iconst 0, 1) := by decide +kernel
theorem dX7_sameLines_22 : decode cX7_sameLines 22 = .ok (.istore 6, 2) := by decide +kernel
theorem dX7_sameLines_24 : decode cX7_sameLines 24 = .ok (.iload 6, 2) := by decide +kernel
theorem dX7_sameLines_26 : decode cX7_sameLines 26 = .ok (.aload_n 0, 1) := by decide +kernel
theorem dX7_sameLines_27 : decode cX7_sameLines 27 = .ok (.getfield 24, 3) := by decide +kernel
theorem dX7_sameLines_30 : decode cX7_sameLines 30 = .ok (.getfield 53, 3) := by decide +kernel
theorem dX7_sameLines_33 : decode cX7_sameLines 33 = .ok (.if_icmp .ge 58, 3) := by decide +kernel
theorem dX7_sameLines_36 : decode cX7_sameLines 36 = .ok (.aload_n 0, 1) := by decide +kernel
theorem dX7_sameLines_37 : decode cX7_sameLines 37 = .ok (.getfield 24, 3) := by decide +kernel
theorem dX7_sameLines_40 : decode cX7_sameLines 40 = .ok (.iload 5, 2) := by decide +kernel
theorem dX7_sameLines_42 : decode cX7_sameLines 42 = .ok (.iload 6, 2) := by decide +kernel
theorem dX7_sameLines_44 : decode cX7_sameLines 44 = .ok (.invokevirtual 40, 3) := by decide +kernel
theorem dX7_sameLines_47 : decode cX7_sameLines 47 = .ok (.iload_n 2, 1) := by decide +kernel
theorem dX7_sameLines_48 : decode cX7_sameLines 48 = .ok (.if_icmp .eq 6, 3) := by decide +kernel
theorem dX7_sameLines_51 : decode cX7_sameLines 51 = .ok (.goto 34, 3) := by decide +kernel
theorem dX7_sameLines_54 : decode cX7_sameLines 54 = .ok (.iload_n 3, 1) := by decide +kernel
theorem dX7_sameLines_55 : decode cX7_sameLines 55 = .ok (.bipush (-9), 2) := by decide +kernel
theorem dX7_sameLines_57 : decode cX7_sameLines 57 = .ok (.if_icmp .ne 16, 3) := by decide +kernel
theorem dX7_sameLines_60 : decode cX7_sameLines 60 = .ok (.iload 6, 2) := by decide +kernel
theorem dX7_sameLines_62 : decode cX7_sameLines 62 = .ok (.istore_n 3, 1) := by decide +kernel
theorem dX7_sameLines_63 : decode cX7_sameLines 63 = .ok (.iconst 1, 1) := by decide +kernel
theorem dX7_sameLines_64 : decode cX7_sameLines 64 = .ok (.aload_n 1, 1) := by decide +kernel
theorem dX7_sameLines_65 : decode cX7_sameLines 65 = .ok (.getfield 62, 3) := by decide +kernel
theorem dX7_sameLines_68 : decode cX7_sameLines 68 = .ok (.ishl, 1) := by decide +kernel
theorem dX7_sameLines_69 : decode cX7_sameLines 69 = .ok (.iconst 1, 1) := by decide +kernel
theorem dX7_sameLines_70 : decode cX7_sameLines 70 = .ok (.isub, 1) := by decide +kernel
theorem dX7_sameLines_71 : decode cX7_sameLines 71 = .ok (.istore 4, 2) := by decide +kernel
theorem dX7_sameLines_73 : decode cX7_sameLines 73 = .ok (.iload 4, 2) := by decide +kernel
theorem dX7_sameLines_75 : decode cX7_sameLines 75 = .ok (.aload_n 1, 1) := by decide +kernel
theorem dX7_sameLines_76 : decode cX7_sameLines 76 = .ok (.iload_n 3, 1) := by decide +kernel
theorem dX7_sameLines_77 : decode cX7_sameLines 77 = .ok (.iload 6, 2) := by decide +kernel
theorem dX7_sameLines_79 : decode cX7_sameLines 79 = .ok (.invokestatic 67, 3) := by decide +kernel
theorem dX7_sameLines_82 : decode cX7_sameLines 82 = .ok (.iand, 1) := by decide +kernel
theorem dX7_sameLines_83 : decode cX7_sameLines 83 = .ok (.istore 4, 2) := by decide +kernel
theorem dX7_sameLines_85 : decode cX7_sameLines 85 = .ok (.iinc 6 1, 3) := by decide +kernel
theorem dX7_sameLines_88 : decode cX7_sameLines 88 = .ok (.goto (-64), 3) := by decide +kernel
theorem dX7_sameLines_91 : decode cX7_sameLines 91 = .ok (.iinc 5 1, 3) := by decide +kernel
theorem dX7_sameLines_94 : decode cX7_sameLines 94 = .ok (.goto (-85), 3) := by decide +kernel
theorem dX7_sameLines_97 : decode cX7_sameLines 97 = .ok (.iload 4, 2) := by decide +kernel
theorem dX7_sameLines_99 : decode cX7_sameLines 99 = .ok (.ireturn, 1) := by decide +kernel
theorem dX7_alikeLines_0 : decode cX7_alikeLines 0 = .ok (.iconst 0, 1) := by decide +kernel
theorem dX7_alikeLines_1 : decode cX7_alikeLines 1 = .ok (.istore_n 3, 1) := by decide +kernel
theorem dX7_alikeLines_2 : decode cX7_alikeLines 2 = .ok (.iconst 0, 1) := by decide +kernel
theorem dX7_alikeLines_3 : decode cX7_alikeLines 3 = .ok (.istore 4, 2) := by decide +kernel
theorem dX7_alikeLines_5 : decode cX7_alikeLines 5 = .ok (.iload 4, 2) := by decide +kernel
theorem dX7_alikeLines_7 : decode cX7_alikeLines 7 = .ok (.aload_n 0, 1) := by decide +kernel
theorem dX7_alikeLines_8 : decode cX7_alikeLines 8 = .ok (.getfield 62, 3) := by decide +kernel
theorem dX7_alikeLines_11 : decode cX7_alikeLines 11 = .ok (.if_icmp .ge 33, 3) := by decide +kernel
theorem dX7_alikeLines_14 : decode cX7_alikeLines 14 = .ok (.aload_n 0, 1) := by decide +kernel
theorem dX7_alikeLines_15 : decode cX7_alikeLines 15 = .ok (.iload_n 1, 1) := by decide +kernel
theorem dX7_alikeLines_16 : decode cX7_alikeLines 16 = .ok (.iload 4, 2) := by decide +kernel
theorem dX7_alikeLines_18 : decode cX7_alikeLines 18 = .ok (.invokevirtual 71, 3) := by decide +kernel
theorem dX7_alikeLines_21 : decode cX7_alikeLines 21 = .ok (.aload_n 0, 1) := by decide +kernel
theorem dX7_alikeLines_22 : decode cX7_alikeLines 22 = .ok (.iload_n 2, 1) := by decide +kernel
theorem dX7_alikeLines_23 : decode cX7_alikeLines 23 = .ok (.iload 4, 2) := by decide +kernel
theorem dX7_alikeLines_25 : decode cX7_alikeLines 25 = .ok (.invokevirtual 71, 3) := by decide +kernel
theorem dX7_alikeLines_28 : decode cX7_alikeLines 28 = .ok (.if_icmp .ne 10, 3) := by decide +kernel
theorem dX7_alikeLines_31 : decode cX7_alikeLines 31 = .ok (.iload_n 3, 1) := by decide +kernel
theorem dX7_alikeLines_32 : decode cX7_alikeLines 32 = .ok (.iconst 1, 1) := by decide +kernel
theorem dX7_alikeLines_33 : decode cX7_alikeLines 33 = .ok (.iload 4, 2) := by decide +kernel
theorem dX7_alikeLines_35 : decode cX7_alikeLines 35 = .ok (.ishl, 1) := by decide +kernel
theorem dX7_alikeLines_36 : decode cX7_alikeLines 36 = .ok (.ior, 1) := by decide +kernel
theorem dX7_alikeLines_37 : decode cX7_alikeLines 37 = .ok (.istore_n 3, 1) := by decide +kernel
theorem dX7_alikeLines_38 : decode cX7_alikeLines 38 = .ok (.iinc 4 1, 3) := by decide +kernel
theorem dX7_alikeLines_41 : decode cX7_alikeLines 41 = .ok (.goto (-36), 3) := by decide +kernel
theorem dX7_alikeLines_44 : decode cX7_alikeLines 44 = .ok (.iload_n 3, 1) := by decide +kernel
theorem dX7_alikeLines_45 : decode cX7_alikeLines 45 = .ok (.ireturn, 1) := by decide +kernel
theorem dX8_init_0 : decode cX8_init 0 = .ok (.aload_n 0, 1) := by decide +kernel
theorem dX8_init_1 : decode cX8_init 1 = .ok (.invokespecial 1, 3) := by decide +kernel
theorem dX8_init_4 : decode cX8_init 4 = .ok (.aload_n 0, 1) := by decide +kernel
theorem dX8_init_5 : decode cX8_init 5 = .ok (.new 7, 3) := by decide +kernel
theorem dX8_init_8 : decode cX8_init 8 = .ok (.dup, 1) := by decide +kernel
theorem dX8_init_9 : decode cX8_init 9 = .ok (.invokespecial 9, 3) := by decide +kernel
theorem dX8_init_12 : decode cX8_init 12 = .ok (.putfield 10, 3) := by decide +kernel
theorem dX8_init_15 : decode cX8_init 15 = .ok (.aload_n 0, 1) := by decide +kernel
theorem dX8_init_16 : decode cX8_init 16 = .ok (.new 7, 3) := by decide +kernel
theorem dX8_init_19 : decode cX8_init 19 = .ok (.dup, 1) := by decide +kernel
theorem dX8_init_20 : decode cX8_init 20 = .ok (.invokespecial 9, 3) := by decide +kernel
theorem dX8_init_23 : decode cX8_init 23 = .ok (.putfield 16, 3) := by decide +kernel
theorem dX8_init_26 : decode cX8_init 26 = .ok (.aload_n 0, 1) := by decide +kernel
theorem dX8_init_27 : decode cX8_init 27 = .ok (.new 19, 3) := by decide +kernel
theorem dX8_init_30 : decode cX8_init 30 = .ok (.dup, 1) := by decide +kernel
theorem dX8_init_31 : decode cX8_init 31 = .ok (.invokespecial 21, 3) := by decide +kernel
theorem dX8_init_34 : decode cX8_init 34 = .ok (.putfield 22, 3) := by decide +kernel
theorem dX8_init_37 : decode cX8_init 37 = .ok (.aload_n 0, 1) := by decide +kernel
theorem dX8_init_38 : decode cX8_init 38 = .ok (.new 26, 3) := by decide +kernel
theorem dX8_init_41 : decode cX8_init 41 = .ok (.dup, 1) := by decide +kernel
theorem dX8_init_42 : decode cX8_init 42 = .ok (.invokespecial 28, 3) := by decide +kernel
theorem dX8_init_45 : decode cX8_init 45 = .ok (.putfield 29, 3) := by decide +kernel
theorem dX8_init_48 : decode cX8_init 48 = .ok (.aload_n 0, 1) := by decide +kernel
theorem dX8_init_49 : decode cX8_init 49 = .ok (.new 33, 3) := by decide +kernel
theorem dX8_init_52 : decode cX8_init 52 = .ok (.dup, 1) := by decide +kernel
theorem dX8_init_53 : decode cX8_init 53 = .ok (.invokespecial 35, 3) := by decide +kernel
theorem dX8_init_56 : decode cX8_init 56 = .ok (.putfield 36, 3) := by decide +kernel
theorem dX8_init_59 : decode cX8_init 59 = .ok (.aload_n 0, 1) := by decide +kernel
theorem dX8_init_60 : decode cX8_init 60 = .ok (.new 33, 3) := by decide +kernel
theorem dX8_init_63 : decode cX8_init 63 = .ok (.dup, 1) := by decide +kernel
theorem dX8_init_64 : decode cX8_init 64 = .ok (.invokespecial 35, 3) := by decide +kernel
theorem dX8_init_67 : decode cX8_init 67 = .ok (.putfield 40, 3) := by decide +kernel
theorem dX8_init_70 : decode cX8_init 70 = .ok (.aload_n 0, 1) := by decide +kernel
theorem dX8_init_71 : decode cX8_init 71 = .ok (.new 33, 3) := by decide +kernel
theorem dX8_init_74 : decode cX8_init 74 = .ok (.dup, 1) := by decide +kernel
theorem dX8_init_75 : decode cX8_init 75 = .ok (.invokespecial 35, 3) := by decide +kernel
theorem dX8_init_78 : decode cX8_init 78 = .ok (.putfield 43, 3) := by decide +kernel
theorem dX8_init_81 : decode cX8_init 81 = .ok (.aload_n 0, 1) := by decide +kernel
theorem dX8_init_82 : decode cX8_init 82 = .ok (.new 46, 3) := by decide +kernel
theorem dX8_init_85 : decode cX8_init 85 = .ok (.dup, 1) := by decide +kernel
theorem dX8_init_86 : decode cX8_init 86 = .ok (.aload_n 0, 1) := by decide +kernel
theorem dX8_init_87 : decode cX8_init 87 = .ok (.getfield 29, 3) := by decide +kernel
theorem dX8_init_90 : decode cX8_init 90 = .ok (.invokespecial 48, 3) := by decide +kernel
theorem dX8_init_93 : decode cX8_init 93 = .ok (.putfield 51, 3) := by decide +kernel
theorem dX8_init_96 : decode cX8_init 96 = .ok (.aload_n 0, 1) := by decide +kernel
theorem dX8_init_97 : decode cX8_init 97 = .ok (.new 55, 3) := by decide +kernel
theorem dX8_init_100 : decode cX8_init 100 = .ok (.dup, 1) := by decide +kernel
theorem dX8_init_101 : decode cX8_init 101 = .ok (.aload_n 0, 1) := by decide +kernel
theorem dX8_init_102 : decode cX8_init 102 = .ok (.getfield 29, 3) := by decide +kernel
theorem dX8_init_105 : decode cX8_init 105 = .ok (.invokespecial 57, 3) := by decide +kernel
theorem dX8_init_108 : decode cX8_init 108 = .ok (.putfield 58, 3) := by decide +kernel
theorem dX8_init_111 : decode cX8_init 111 = .ok (.aload_n 0, 1) := by decide +kernel
theorem dX8_init_112 : decode cX8_init 112 = .ok (.new 62, 3) := by decide +kernel
theorem dX8_init_115 : decode cX8_init 115 = .ok (.dup, 1) := by decide +kernel
theorem dX8_init_116 : decode cX8_init 116 = .ok (.invokespecial 64, 3) := by decide +kernel
theorem dX8_init_119 : decode cX8_init 119 = .ok (.putfield 65, 3) := by decide +kernel
theorem dX8_init_122 : decode cX8_init 122 = .ok (.aload_n 0, 1) := by decide +kernel
theorem dX8_init_123 : decode cX8_init 123 = .ok (.new 69, 3) := by decide +kernel
theorem dX8_init_126 : decode cX8_init 126 = .ok (.dup, 1) := by decide +kernel
theorem dX8_init_127 : decode cX8_init 127 = .ok (.invokespecial 71, 3) := by decide +kernel
theorem dX8_init_130 : decode cX8_init 130 = .ok (.putfield 72, 3) := by decide +kernel
theorem dX8_init_133 : decode cX8_init 133 = .ok (.return_, 1) := by decide +kernel
theorem dX8_type_0 : decode cX8_type 0 = .ok (.iload_n 1, 1) := by decide +kernel
theorem dX8_type_1 : decode cX8_type 1 = .ok (.ifCond .lt 10, 3) := by decide +kernel
theorem dX8_type_4 : decode cX8_type 4 = .ok (.iload_n 1, 1) := by decide +kernel
theorem dX8_type_5 : decode cX8_type 5 = .ok (.sipush 255, 3) := by decide +kernel
theorem dX8_type_8 : decode cX8_type 8 = .ok (.if_icmp .le 5, 3) := by decide +kernel
theorem dX8_type_11 : decode cX8_type 11 = .ok (.iconst (-1), 1) := by decide +kernel
theorem dX8_type_12 : decode cX8_type 12 = .ok (.ireturn, 1) := by decide +kernel
theorem dX8_type_13 : decode cX8_type 13 = .ok (.aload_n 0, 1) := by decide +kernel
theorem dX8_type_14 : decode cX8_type 14 = .ok (.getfield 22, 3) := by decide +kernel
theorem dX8_type_17 : decode cX8_type 17 = .ok (.iload_n 1, 1) := by decide +kernel
theorem dX8_type_18 : decode cX8_type 18 = .ok (.invokevirtual 76, 3) := by decide +kernel
theorem dX8_type_21 : decode cX8_type 21 = .ok (.ifCond .eq 13, 3) := by decide +kernel
theorem dX8_type_24 : decode cX8_type 24 = .ok (.aload_n 0, 1) := by decide +kernel
theorem dX8_type_25 : decode cX8_type 25 = .ok (.getfield 22, 3) := by decide +kernel
theorem dX8_type_28 : decode cX8_type 28 = .ok (.getfield 80, 3) := by decide +kernel
theorem dX8_type_31 : decode cX8_type 31 = .ok (.goto 5, 3) := by decide +kernel
theorem dX8_type_34 : decode cX8_type 34 = .ok (.bipush (-3), 2) := by decide +kernel
theorem dX8_type_36 : decode cX8_type 36 = .ok (.ireturn, 1) := by decide +kernel
theorem dX8_clear_0 : decode cX8_clear 0 = .ok (.aload_n 0, 1) := by decide +kernel
theorem dX8_clear_1 : decode cX8_clear 1 = .ok (.getfield 22, 3) := by decide +kernel
theorem dX8_clear_4 : decode cX8_clear 4 = .ok (.invokevirtual 84, 3) := by decide +kernel
theorem dX8_clear_7 : decode cX8_clear 7 = .ok (.ireturn, 1) := by decide +kernel
theorem dX8_house_0 : decode cX8_house 0 = .ok (.aload_n 0, 1) := by decide +kernel
theorem dX8_house_1 : decode cX8_house 1 = .ok (.getfield 22, 3) := by decide +kernel
end
section
theorem dX8_house_4 : decode cX8_house 4 = .ok (.aload_n 0, 1) := by decide +kernel
theorem dX8_house_5 : decode cX8_house 5 = .ok (.getfield 16, 3) := by decide +kernel
theorem dX8_house_8 : decode cX8_house 8 = .ok (.invokevirtual 88, 3) := by decide +kernel
theorem dX8_house_11 : decode cX8_house 11 = .ok (.istore_n 1, 1) := by decide +kernel
theorem dX8_house_12 : decode cX8_house 12 = .ok (.iload_n 1, 1) := by decide +kernel
theorem dX8_house_13 : decode cX8_house 13 = .ok (.ifCond .ge 5, 3) := by decide +kernel
theorem dX8_house_16 : decode cX8_house 16 = .ok (.iload_n 1, 1) := by decide +kernel
theorem dX8_house_17 : decode cX8_house 17 = .ok (.ireturn, 1) := by decide +kernel
theorem dX8_house_18 : decode cX8_house 18 = .ok (.aload_n 0, 1) := by decide +kernel
theorem dX8_house_19 : decode cX8_house 19 = .ok (.getfield 16, 3) := by decide +kernel
theorem dX8_house_22 : decode cX8_house 22 = .ok (.astore_n 2, 1) := by decide +kernel
theorem dX8_house_23 : decode cX8_house 23 = .ok (.aload_n 0, 1) := by decide +kernel
theorem dX8_house_24 : decode cX8_house 24 = .ok (.aload_n 0, 1) := by decide +kernel
theorem dX8_house_25 : decode cX8_house 25 = .ok (.getfield 10, 3) := by decide +kernel
theorem dX8_house_28 : decode cX8_house 28 = .ok (.putfield 16, 3) := by decide +kernel
theorem dX8_house_31 : decode cX8_house 31 = .ok (.aload_n 0, 1) := by decide +kernel
theorem dX8_house_32 : decode cX8_house 32 = .ok (.aload_n 2, 1) := by decide +kernel
theorem dX8_house_33 : decode cX8_house 33 = .ok (.putfield 10, 3) := by decide +kernel
theorem dX8_house_36 : decode cX8_house 36 = .ok (.aload_n 0, 1) := by decide +kernel
theorem dX8_house_37 : decode cX8_house 37 = .ok (.getfield 22, 3) := by decide +kernel
theorem dX8_house_40 : decode cX8_house 40 = .ok (.invokevirtual 84, 3) := by decide +kernel
theorem dX8_house_43 : decode cX8_house 43 = .ok (.pop, 1) := by decide +kernel
theorem dX8_house_44 : decode cX8_house 44 = .ok (.aload_n 0, 1) := by decide +kernel
theorem dX8_house_45 : decode cX8_house 45 = .ok (.getfield 29, 3) := by decide +kernel
theorem dX8_house_48 : decode cX8_house 48 = .ok (.aload_n 0, 1) := by decide +kernel
theorem dX8_house_49 : decode cX8_house 49 = .ok (.getfield 10, 3) := by decide +kernel
theorem dX8_house_52 : decode cX8_house 52 = .ok (.invokevirtual 92, 3) := by decide +kernel
theorem dX8_house_55 : decode cX8_house 55 = .ok (.aload_n 0, 1) := by decide +kernel
theorem dX8_house_56 : decode cX8_house 56 = .ok (.getfield 36, 3) := by decide +kernel
theorem dX8_house_59 : decode cX8_house 59 = .ok (.aload_n 0, 1) := by decide +kernel
theorem dX8_house_60 : decode cX8_house 60 = .ok (.getfield 10, 3) := by decide +kernel
theorem dX8_house_63 : decode cX8_house 63 = .ok (.getfield 96, 3) := by decide +kernel
theorem dX8_house_66 : decode cX8_house 66 = .ok (.invokevirtual 99, 3) := by decide +kernel
theorem dX8_house_69 : decode cX8_house 69 = .ok (.aload_n 0, 1) := by decide +kernel
theorem dX8_house_70 : decode cX8_house 70 = .ok (.aload_n 0, 1) := by decide +kernel
theorem dX8_house_71 : decode cX8_house 71 = .ok (.getfield 10, 3) := by decide +kernel
theorem dX8_house_74 : decode cX8_house 74 = .ok (.getfield 96, 3) := by decide +kernel
theorem dX8_house_77 : decode cX8_house 77 = .ok (.putfield 103, 3) := by decide +kernel
theorem dX8_house_80 : decode cX8_house 80 = .ok (.aload_n 0, 1) := by decide +kernel
theorem dX8_house_81 : decode cX8_house 81 = .ok (.getfield 65, 3) := by decide +kernel
theorem dX8_house_84 : decode cX8_house 84 = .ok (.invokevirtual 106, 3) := by decide +kernel
theorem dX8_house_87 : decode cX8_house 87 = .ok (.pop, 1) := by decide +kernel
theorem dX8_house_88 : decode cX8_house 88 = .ok (.aload_n 0, 1) := by decide +kernel
theorem dX8_house_89 : decode cX8_house 89 = .ok (.iconst 0, 1) := by decide +kernel
theorem dX8_house_90 : decode cX8_house 90 = .ok (.putfield 107, 3) := by decide +kernel
theorem dX8_house_93 : decode cX8_house 93 = .ok (.aload_n 0, 1) := by decide +kernel
theorem dX8_house_94 : decode cX8_house 94 = .ok (.iconst 0, 1) := by decide +kernel
theorem dX8_house_95 : decode cX8_house 95 = .ok (.putfield 111, 3) := by decide +kernel
theorem dX8_house_98 : decode cX8_house 98 = .ok (.iload_n 1, 1) := by decide +kernel
theorem dX8_house_99 : decode cX8_house 99 = .ok (.ireturn, 1) := by decide +kernel
theorem dX8_line_0 : decode cX8_line 0 = .ok (.aload_n 0, 1) := by decide +kernel
theorem dX8_line_1 : decode cX8_line 1 = .ok (.getfield 10, 3) := by decide +kernel
theorem dX8_line_4 : decode cX8_line 4 = .ok (.iload_n 1, 1) := by decide +kernel
theorem dX8_line_5 : decode cX8_line 5 = .ok (.invokevirtual 114, 3) := by decide +kernel
theorem dX8_line_8 : decode cX8_line 8 = .ok (.ifCond .eq 12, 3) := by decide +kernel
theorem dX8_line_11 : decode cX8_line 11 = .ok (.iload_n 2, 1) := by decide +kernel
theorem dX8_line_12 : decode cX8_line 12 = .ok (.ifCond .lt 8, 3) := by decide +kernel
theorem dX8_line_15 : decode cX8_line 15 = .ok (.iload_n 2, 1) := by decide +kernel
theorem dX8_line_16 : decode cX8_line 16 = .ok (.iconst 1, 1) := by decide +kernel
theorem dX8_line_17 : decode cX8_line 17 = .ok (.if_icmp .le 5, 3) := by decide +kernel
theorem dX8_line_20 : decode cX8_line 20 = .ok (.iconst (-1), 1) := by decide +kernel
theorem dX8_line_21 : decode cX8_line 21 = .ok (.ireturn, 1) := by decide +kernel
theorem dX8_line_22 : decode cX8_line 22 = .ok (.aload_n 0, 1) := by decide +kernel
theorem dX8_line_23 : decode cX8_line 23 = .ok (.getfield 10, 3) := by decide +kernel
theorem dX8_line_26 : decode cX8_line 26 = .ok (.iload_n 2, 1) := by decide +kernel
theorem dX8_line_27 : decode cX8_line 27 = .ok (.ifCond .ne 13, 3) := by decide +kernel
theorem dX8_line_30 : decode cX8_line 30 = .ok (.aload_n 0, 1) := by decide +kernel
theorem dX8_line_31 : decode cX8_line 31 = .ok (.getfield 36, 3) := by decide +kernel
theorem dX8_line_34 : decode cX8_line 34 = .ok (.invokevirtual 117, 3) := by decide +kernel
theorem dX8_line_37 : decode cX8_line 37 = .ok (.goto 7, 3) := by decide +kernel
theorem dX8_line_40 : decode cX8_line 40 = .ok (.aload_n 0, 1) := by decide +kernel
theorem dX8_line_41 : decode cX8_line 41 = .ok (.getfield 103, 3) := by decide +kernel
theorem dX8_line_44 : decode cX8_line 44 = .ok (.iload_n 1, 1) := by decide +kernel
theorem dX8_line_45 : decode cX8_line 45 = .ok (.invokevirtual 120, 3) := by decide +kernel
theorem dX8_line_48 : decode cX8_line 48 = .ok (.ireturn, 1) := by decide +kernel
theorem dX8_scribe_0 : decode cX8_scribe 0 = .ok (.aload_n 0, 1) := by decide +kernel
theorem dX8_scribe_1 : decode cX8_scribe 1 = .ok (.getfield 10, 3) := by decide +kernel
theorem dX8_scribe_4 : decode cX8_scribe 4 = .ok (.iload_n 1, 1) := by decide +kernel
theorem dX8_scribe_5 : decode cX8_scribe 5 = .ok (.invokevirtual 124, 3) := by decide +kernel
theorem dX8_scribe_8 : decode cX8_scribe 8 = .ok (.ifCond .ne 5, 3) := by decide +kernel
theorem dX8_scribe_11 : decode cX8_scribe 11 = .ok (.iconst (-1), 1) := by decide +kernel
theorem dX8_scribe_12 : decode cX8_scribe 12 = .ok (.ireturn, 1) := by decide +kernel
theorem dX8_scribe_13 : decode cX8_scribe 13 = .ok (.aload_n 0, 1) := by decide +kernel
theorem dX8_scribe_14 : decode cX8_scribe 14 = .ok (.getfield 36, 3) := by decide +kernel
theorem dX8_scribe_17 : decode cX8_scribe 17 = .ok (.invokevirtual 117, 3) := by decide +kernel
theorem dX8_scribe_20 : decode cX8_scribe 20 = .ok (.istore_n 3, 1) := by decide +kernel
theorem dX8_scribe_21 : decode cX8_scribe 21 = .ok (.iload_n 2, 1) := by decide +kernel
theorem dX8_scribe_22 : decode cX8_scribe 22 = .ok (.tableswitch 124 0 6 #[42, 51, 60, 77, 86, 96, 114], 42) := by decide +kernel
theorem dX8_scribe_64 : decode cX8_scribe 64 = .ok (.aload_n 0, 1) := by decide +kernel
theorem dX8_scribe_65 : decode cX8_scribe 65 = .ok (.getfield 10, 3) := by decide +kernel
theorem dX8_scribe_68 : decode cX8_scribe 68 = .ok (.iload_n 1, 1) := by decide +kernel
theorem dX8_scribe_69 : decode cX8_scribe 69 = .ok (.invokevirtual 127, 3) := by decide +kernel
theorem dX8_scribe_72 : decode cX8_scribe 72 = .ok (.ireturn, 1) := by decide +kernel
theorem dX8_scribe_73 : decode cX8_scribe 73 = .ok (.aload_n 0, 1) := by decide +kernel
theorem dX8_scribe_74 : decode cX8_scribe 74 = .ok (.getfield 10, 3) := by decide +kernel
theorem dX8_scribe_77 : decode cX8_scribe 77 = .ok (.iload_n 1, 1) := by decide +kernel
theorem dX8_scribe_78 : decode cX8_scribe 78 = .ok (.invokevirtual 131, 3) := by decide +kernel
theorem dX8_scribe_81 : decode cX8_scribe 81 = .ok (.ireturn, 1) := by decide +kernel
theorem dX8_scribe_82 : decode cX8_scribe 82 = .ok (.aload_n 0, 1) := by decide +kernel
theorem dX8_scribe_83 : decode cX8_scribe 83 = .ok (.getfield 36, 3) := by decide +kernel
theorem dX8_scribe_86 : decode cX8_scribe 86 = .ok (.iload_n 1, 1) := by decide +kernel
theorem dX8_scribe_87 : decode cX8_scribe 87 = .ok (.invokevirtual 134, 3) := by decide +kernel
theorem dX8_scribe_90 : decode cX8_scribe 90 = .ok (.ifCond .eq 7, 3) := by decide +kernel
theorem dX8_scribe_93 : decode cX8_scribe 93 = .ok (.iconst 1, 1) := by decide +kernel
theorem dX8_scribe_94 : decode cX8_scribe 94 = .ok (.goto 4, 3) := by decide +kernel
theorem dX8_scribe_97 : decode cX8_scribe 97 = .ok (.iconst 0, 1) := by decide +kernel
theorem dX8_scribe_98 : decode cX8_scribe 98 = .ok (.ireturn, 1) := by decide +kernel
theorem dX8_scribe_99 : decode cX8_scribe 99 = .ok (.aload_n 0, 1) := by decide +kernel
theorem dX8_scribe_100 : decode cX8_scribe 100 = .ok (.getfield 36, 3) := by decide +kernel
theorem dX8_scribe_103 : decode cX8_scribe 103 = .ok (.iload_n 1, 1) := by decide +kernel
theorem dX8_scribe_104 : decode cX8_scribe 104 = .ok (.invokevirtual 137, 3) := by decide +kernel
theorem dX8_scribe_107 : decode cX8_scribe 107 = .ok (.ireturn, 1) := by decide +kernel
theorem dX8_scribe_108 : decode cX8_scribe 108 = .ok (.aload_n 0, 1) := by decide +kernel
theorem dX8_scribe_109 : decode cX8_scribe 109 = .ok (.getfield 10, 3) := by decide +kernel
theorem dX8_scribe_112 : decode cX8_scribe 112 = .ok (.iload_n 1, 1) := by decide +kernel
theorem dX8_scribe_113 : decode cX8_scribe 113 = .ok (.iload_n 3, 1) := by decide +kernel
theorem dX8_scribe_114 : decode cX8_scribe 114 = .ok (.invokevirtual 140, 3) := by decide +kernel
theorem dX8_scribe_117 : decode cX8_scribe 117 = .ok (.ireturn, 1) := by decide +kernel
theorem dX8_scribe_118 : decode cX8_scribe 118 = .ok (.aload_n 0, 1) := by decide +kernel
theorem dX8_scribe_119 : decode cX8_scribe 119 = .ok (.getfield 10, 3) := by decide +kernel
theorem dX8_scribe_122 : decode cX8_scribe 122 = .ok (.iload_n 1, 1) := by decide +kernel
theorem dX8_scribe_123 : decode cX8_scribe 123 = .ok (.iload_n 3, 1) := by decide +kernel
theorem dX8_scribe_124 : decode cX8_scribe 124 = .ok (.invokevirtual 143, 3) := by decide +kernel
theorem dX8_scribe_127 : decode cX8_scribe 127 = .ok (.ifCond .eq 7, 3) := by decide +kernel
theorem dX8_scribe_130 : decode cX8_scribe 130 = .ok (.iconst 1, 1) := by decide +kernel
theorem dX8_scribe_131 : decode cX8_scribe 131 = .ok (.goto 4, 3) := by decide +kernel
theorem dX8_scribe_134 : decode cX8_scribe 134 = .ok (.iconst 0, 1) := by decide +kernel
theorem dX8_scribe_135 : decode cX8_scribe 135 = .ok (.ireturn, 1) := by decide +kernel
theorem dX8_scribe_136 : decode cX8_scribe 136 = .ok (.aload_n 0, 1) := by decide +kernel
theorem dX8_scribe_137 : decode cX8_scribe 137 = .ok (.getfield 10, 3) := by decide +kernel
theorem dX8_scribe_140 : decode cX8_scribe 140 = .ok (.iload_n 1, 1) := by decide +kernel
theorem dX8_scribe_141 : decode cX8_scribe 141 = .ok (.iload_n 3, 1) := by decide +kernel
theorem dX8_scribe_142 : decode cX8_scribe 142 = .ok (.invokevirtual 147, 3) := by decide +kernel
theorem dX8_scribe_145 : decode cX8_scribe 145 = .ok (.ireturn, 1) := by decide +kernel
theorem dX8_scribe_146 : decode cX8_scribe 146 = .ok (.iconst (-1), 1) := by decide +kernel
theorem dX8_scribe_147 : decode cX8_scribe 147 = .ok (.ireturn, 1) := by decide +kernel
theorem dX8_says_0 : decode cX8_says 0 = .ok (.aload_n 0, 1) := by decide +kernel
theorem dX8_says_1 : decode cX8_says 1 = .ok (.getfield 10, 3) := by decide +kernel
theorem dX8_says_4 : decode cX8_says 4 = .ok (.iload_n 1, 1) := by decide +kernel
theorem dX8_says_5 : decode cX8_says 5 = .ok (.invokevirtual 124, 3) := by decide +kernel
theorem dX8_says_8 : decode cX8_says 8 = .ok (.ifCond .eq 26, 3) := by decide +kernel
theorem dX8_says_11 : decode cX8_says 11 = .ok (.aload_n 0, 1) := by decide +kernel
theorem dX8_says_12 : decode cX8_says 12 = .ok (.getfield 10, 3) := by decide +kernel
theorem dX8_says_15 : decode cX8_says 15 = .ok (.iload_n 2, 1) := by decide +kernel
theorem dX8_says_16 : decode cX8_says 16 = .ok (.invokevirtual 150, 3) := by decide +kernel
theorem dX8_says_19 : decode cX8_says 19 = .ok (.ifCond .eq 15, 3) := by decide +kernel
theorem dX8_says_22 : decode cX8_says 22 = .ok (.aload_n 0, 1) := by decide +kernel
theorem dX8_says_23 : decode cX8_says 23 = .ok (.getfield 10, 3) := by decide +kernel
theorem dX8_says_26 : decode cX8_says 26 = .ok (.iload_n 1, 1) := by decide +kernel
theorem dX8_says_27 : decode cX8_says 27 = .ok (.iload_n 2, 1) := by decide +kernel
theorem dX8_says_28 : decode cX8_says 28 = .ok (.invokevirtual 153, 3) := by decide +kernel
theorem dX8_says_31 : decode cX8_says 31 = .ok (.goto 4, 3) := by decide +kernel
theorem dX8_says_34 : decode cX8_says 34 = .ok (.iconst (-1), 1) := by decide +kernel
theorem dX8_says_35 : decode cX8_says 35 = .ok (.ireturn, 1) := by decide +kernel
theorem dX8_copies_0 : decode cX8_copies 0 = .ok (.aload_n 0, 1) := by decide +kernel
theorem dX8_copies_1 : decode cX8_copies 1 = .ok (.getfield 10, 3) := by decide +kernel
theorem dX8_copies_4 : decode cX8_copies 4 = .ok (.iload_n 1, 1) := by decide +kernel
theorem dX8_copies_5 : decode cX8_copies 5 = .ok (.invokevirtual 124, 3) := by decide +kernel
theorem dX8_copies_8 : decode cX8_copies 8 = .ok (.ifCond .ne 5, 3) := by decide +kernel
theorem dX8_copies_11 : decode cX8_copies 11 = .ok (.iconst (-1), 1) := by decide +kernel
theorem dX8_copies_12 : decode cX8_copies 12 = .ok (.ireturn, 1) := by decide +kernel
theorem dX8_copies_13 : decode cX8_copies 13 = .ok (.aload_n 0, 1) := by decide +kernel
theorem dX8_copies_14 : decode cX8_copies 14 = .ok (.getfield 36, 3) := by decide +kernel
theorem dX8_copies_17 : decode cX8_copies 17 = .ok (.invokevirtual 117, 3) := by decide +kernel
theorem dX8_copies_20 : decode cX8_copies 20 = .ok (.istore_n 2, 1) := by decide +kernel
theorem dX8_copies_21 : decode cX8_copies 21 = .ok (.aload_n 0, 1) := by decide +kernel
theorem dX8_copies_22 : decode cX8_copies 22 = .ok (.getfield 36, 3) := by decide +kernel
theorem dX8_copies_25 : decode cX8_copies 25 = .ok (.iload_n 1, 1) := by decide +kernel
theorem dX8_copies_26 : decode cX8_copies 26 = .ok (.invokevirtual 134, 3) := by decide +kernel
theorem dX8_copies_29 : decode cX8_copies 29 = .ok (.ifCond .ne 28, 3) := by decide +kernel
theorem dX8_copies_32 : decode cX8_copies 32 = .ok (.aload_n 0, 1) := by decide +kernel
theorem dX8_copies_33 : decode cX8_copies 33 = .ok (.getfield 10, 3) := by decide +kernel
theorem dX8_copies_36 : decode cX8_copies 36 = .ok (.iload_n 1, 1) := by decide +kernel
theorem dX8_copies_37 : decode cX8_copies 37 = .ok (.iload_n 2, 1) := by decide +kernel
theorem dX8_copies_38 : decode cX8_copies 38 = .ok (.invokevirtual 143, 3) := by decide +kernel
theorem dX8_copies_41 : decode cX8_copies 41 = .ok (.ifCond .ne 16, 3) := by decide +kernel
theorem dX8_copies_44 : decode cX8_copies 44 = .ok (.aload_n 0, 1) := by decide +kernel
theorem dX8_copies_45 : decode cX8_copies 45 = .ok (.getfield 36, 3) := by decide +kernel
theorem dX8_copies_48 : decode cX8_copies 48 = .ok (.invokevirtual 156, 3) := by decide +kernel
theorem dX8_copies_51 : decode cX8_copies 51 = .ok (.sipush 999, 3) := by decide +kernel
theorem dX8_copies_54 : decode cX8_copies 54 = .ok (.if_icmp .lt 6, 3) := by decide +kernel
theorem dX8_copies_57 : decode cX8_copies 57 = .ok (.bipush (-2), 2) := by decide +kernel
theorem dX8_copies_59 : decode cX8_copies 59 = .ok (.ireturn, 1) := by decide +kernel
theorem dX8_copies_60 : decode cX8_copies 60 = .ok (.aload_n 0, 1) := by decide +kernel
theorem dX8_copies_61 : decode cX8_copies 61 = .ok (.getfield 36, 3) := by decide +kernel
theorem dX8_copies_64 : decode cX8_copies 64 = .ok (.invokevirtual 159, 3) := by decide +kernel
theorem dX8_copies_67 : decode cX8_copies 67 = .ok (.aload_n 0, 1) := by decide +kernel
theorem dX8_copies_68 : decode cX8_copies 68 = .ok (.getfield 36, 3) := by decide +kernel
theorem dX8_copies_71 : decode cX8_copies 71 = .ok (.iload_n 1, 1) := by decide +kernel
theorem dX8_copies_72 : decode cX8_copies 72 = .ok (.aload_n 0, 1) := by decide +kernel
theorem dX8_copies_73 : decode cX8_copies 73 = .ok (.getfield 10, 3) := by decide +kernel
theorem dX8_copies_76 : decode cX8_copies 76 = .ok (.iload_n 1, 1) := by decide +kernel
theorem dX8_copies_77 : decode cX8_copies 77 = .ok (.iload_n 2, 1) := by decide +kernel
theorem dX8_copies_78 : decode cX8_copies 78 = .ok (.invokevirtual 162, 3) := by decide +kernel
theorem dX8_copies_81 : decode cX8_copies 81 = .ok (.invokevirtual 165, 3) := by decide +kernel
theorem dX8_copies_84 : decode cX8_copies 84 = .ok (.aload_n 0, 1) := by decide +kernel
theorem dX8_copies_85 : decode cX8_copies 85 = .ok (.getfield 36, 3) := by decide +kernel
theorem dX8_copies_88 : decode cX8_copies 88 = .ok (.invokevirtual 156, 3) := by decide +kernel
theorem dX8_copies_91 : decode cX8_copies 91 = .ok (.ireturn, 1) := by decide +kernel
theorem dX8_errs_0 : decode cX8_errs 0 = .ok (.aload_n 0, 1) := by decide +kernel
theorem dX8_errs_1 : decode cX8_errs 1 = .ok (.getfield 10, 3) := by decide +kernel
theorem dX8_errs_4 : decode cX8_errs 4 = .ok (.iload_n 1, 1) := by decide +kernel
theorem dX8_errs_5 : decode cX8_errs 5 = .ok (.invokevirtual 114, 3) := by decide +kernel
theorem dX8_errs_8 : decode cX8_errs 8 = .ok (.ifCond .eq 14, 3) := by decide +kernel
theorem dX8_errs_11 : decode cX8_errs 11 = .ok (.aload_n 0, 1) := by decide +kernel
theorem dX8_errs_12 : decode cX8_errs 12 = .ok (.getfield 10, 3) := by decide +kernel
theorem dX8_errs_15 : decode cX8_errs 15 = .ok (.iload_n 2, 1) := by decide +kernel
theorem dX8_errs_16 : decode cX8_errs 16 = .ok (.invokevirtual 150, 3) := by decide +kernel
theorem dX8_errs_19 : decode cX8_errs 19 = .ok (.ifCond .ne 5, 3) := by decide +kernel
theorem dX8_errs_22 : decode cX8_errs 22 = .ok (.iconst (-1), 1) := by decide +kernel
theorem dX8_errs_23 : decode cX8_errs 23 = .ok (.ireturn, 1) := by decide +kernel
theorem dX8_errs_24 : decode cX8_errs 24 = .ok (.aload_n 0, 1) := by decide +kernel
theorem dX8_errs_25 : decode cX8_errs 25 = .ok (.getfield 36, 3) := by decide +kernel
theorem dX8_errs_28 : decode cX8_errs 28 = .ok (.invokevirtual 117, 3) := by decide +kernel
theorem dX8_errs_31 : decode cX8_errs 31 = .ok (.istore_n 3, 1) := by decide +kernel
theorem dX8_errs_32 : decode cX8_errs 32 = .ok (.aload_n 0, 1) := by decide +kernel
theorem dX8_errs_33 : decode cX8_errs 33 = .ok (.getfield 10, 3) := by decide +kernel
theorem dX8_errs_36 : decode cX8_errs 36 = .ok (.iload_n 3, 1) := by decide +kernel
theorem dX8_errs_37 : decode cX8_errs 37 = .ok (.iload_n 1, 1) := by decide +kernel
theorem dX8_errs_38 : decode cX8_errs 38 = .ok (.invokevirtual 120, 3) := by decide +kernel
theorem dX8_errs_41 : decode cX8_errs 41 = .ok (.istore 4, 2) := by decide +kernel
theorem dX8_errs_43 : decode cX8_errs 43 = .ok (.iload 4, 2) := by decide +kernel
theorem dX8_errs_45 : decode cX8_errs 45 = .ok (.iload_n 2, 1) := by decide +kernel
theorem dX8_errs_46 : decode cX8_errs 46 = .ok (.if_icmp .ne 6, 3) := by decide +kernel
theorem dX8_errs_49 : decode cX8_errs 49 = .ok (.bipush (-2), 2) := by decide +kernel
theorem dX8_errs_51 : decode cX8_errs 51 = .ok (.ireturn, 1) := by decide +kernel
theorem dX8_errs_52 : decode cX8_errs 52 = .ok (.aload_n 0, 1) := by decide +kernel
theorem dX8_errs_53 : decode cX8_errs 53 = .ok (.getfield 36, 3) := by decide +kernel
theorem dX8_errs_56 : decode cX8_errs 56 = .ok (.invokevirtual 159, 3) := by decide +kernel
theorem dX8_errs_59 : decode cX8_errs 59 = .ok (.aload_n 0, 1) := by decide +kernel
theorem dX8_errs_60 : decode cX8_errs 60 = .ok (.getfield 36, 3) := by decide +kernel
theorem dX8_errs_63 : decode cX8_errs 63 = .ok (.aload_n 0, 1) := by decide +kernel
theorem dX8_errs_64 : decode cX8_errs 64 = .ok (.getfield 10, 3) := by decide +kernel
theorem dX8_errs_67 : decode cX8_errs 67 = .ok (.iload_n 3, 1) := by decide +kernel
theorem dX8_errs_68 : decode cX8_errs 68 = .ok (.iload_n 1, 1) := by decide +kernel
theorem dX8_errs_69 : decode cX8_errs 69 = .ok (.iload_n 2, 1) := by decide +kernel
theorem dX8_errs_70 : decode cX8_errs 70 = .ok (.invokevirtual 169, 3) := by decide +kernel
theorem dX8_errs_73 : decode cX8_errs 73 = .ok (.invokevirtual 173, 3) := by decide +kernel
theorem dX8_errs_76 : decode cX8_errs 76 = .ok (.iload 4, 2) := by decide +kernel
theorem dX8_errs_78 : decode cX8_errs 78 = .ok (.ireturn, 1) := by decide +kernel
theorem dX8_releases_0 : decode cX8_releases 0 = .ok (.aload_n 0, 1) := by decide +kernel
theorem dX8_releases_1 : decode cX8_releases 1 = .ok (.getfield 10, 3) := by decide +kernel
theorem dX8_releases_4 : decode cX8_releases 4 = .ok (.iload_n 1, 1) := by decide +kernel
theorem dX8_releases_5 : decode cX8_releases 5 = .ok (.invokevirtual 124, 3) := by decide +kernel
theorem dX8_releases_8 : decode cX8_releases 8 = .ok (.ifCond .eq 12, 3) := by decide +kernel
theorem dX8_releases_11 : decode cX8_releases 11 = .ok (.iload_n 2, 1) := by decide +kernel
theorem dX8_releases_12 : decode cX8_releases 12 = .ok (.ifCond .lt 8, 3) := by decide +kernel
theorem dX8_releases_15 : decode cX8_releases 15 = .ok (.iload_n 2, 1) := by decide +kernel
theorem dX8_releases_16 : decode cX8_releases 16 = .ok (.iconst 1, 1) := by decide +kernel
theorem dX8_releases_17 : decode cX8_releases 17 = .ok (.if_icmp .le 5, 3) := by decide +kernel
theorem dX8_releases_20 : decode cX8_releases 20 = .ok (.iconst (-1), 1) := by decide +kernel
theorem dX8_releases_21 : decode cX8_releases 21 = .ok (.ireturn, 1) := by decide +kernel
theorem dX8_releases_22 : decode cX8_releases 22 = .ok (.aload_n 0, 1) := by decide +kernel
theorem dX8_releases_23 : decode cX8_releases 23 = .ok (.getfield 36, 3) := by decide +kernel
theorem dX8_releases_26 : decode cX8_releases 26 = .ok (.iload_n 1, 1) := by decide +kernel
theorem dX8_releases_27 : decode cX8_releases 27 = .ok (.invokevirtual 134, 3) := by decide +kernel
theorem dX8_releases_30 : decode cX8_releases 30 = .ok (.iload_n 2, 1) := by decide +kernel
theorem dX8_releases_31 : decode cX8_releases 31 = .ok (.iconst 1, 1) := by decide +kernel
theorem dX8_releases_32 : decode cX8_releases 32 = .ok (.if_icmp .ne 7, 3) := by decide +kernel
theorem dX8_releases_35 : decode cX8_releases 35 = .ok (.iconst 1, 1) := by decide +kernel
theorem dX8_releases_36 : decode cX8_releases 36 = .ok (.goto 4, 3) := by decide +kernel
theorem dX8_releases_39 : decode cX8_releases 39 = .ok (.iconst 0, 1) := by decide +kernel
theorem dX8_releases_40 : decode cX8_releases 40 = .ok (.if_icmp .ne 6, 3) := by decide +kernel
theorem dX8_releases_43 : decode cX8_releases 43 = .ok (.bipush (-2), 2) := by decide +kernel
theorem dX8_releases_45 : decode cX8_releases 45 = .ok (.ireturn, 1) := by decide +kernel
theorem dX8_releases_46 : decode cX8_releases 46 = .ok (.aload_n 0, 1) := by decide +kernel
theorem dX8_releases_47 : decode cX8_releases 47 = .ok (.getfield 36, 3) := by decide +kernel
theorem dX8_releases_50 : decode cX8_releases 50 = .ok (.invokevirtual 159, 3) := by decide +kernel
theorem dX8_releases_53 : decode cX8_releases 53 = .ok (.aload_n 0, 1) := by decide +kernel
theorem dX8_releases_54 : decode cX8_releases 54 = .ok (.getfield 36, 3) := by decide +kernel
theorem dX8_releases_57 : decode cX8_releases 57 = .ok (.iload_n 1, 1) := by decide +kernel
theorem dX8_releases_58 : decode cX8_releases 58 = .ok (.invokevirtual 176, 3) := by decide +kernel
theorem dX8_releases_61 : decode cX8_releases 61 = .ok (.aload_n 0, 1) := by decide +kernel
theorem dX8_releases_62 : decode cX8_releases 62 = .ok (.getfield 36, 3) := by decide +kernel
theorem dX8_releases_65 : decode cX8_releases 65 = .ok (.invokevirtual 179, 3) := by decide +kernel
theorem dX8_releases_68 : decode cX8_releases 68 = .ok (.invokestatic 182, 3) := by decide +kernel
theorem dX8_releases_71 : decode cX8_releases 71 = .ok (.ireturn, 1) := by decide +kernel
theorem dX8_aims_0 : decode cX8_aims 0 = .ok (.aload_n 0, 1) := by decide +kernel
theorem dX8_aims_1 : decode cX8_aims 1 = .ok (.getfield 10, 3) := by decide +kernel
theorem dX8_aims_4 : decode cX8_aims 4 = .ok (.iload_n 1, 1) := by decide +kernel
theorem dX8_aims_5 : decode cX8_aims 5 = .ok (.invokevirtual 114, 3) := by decide +kernel
theorem dX8_aims_8 : decode cX8_aims 8 = .ok (.ifCond .eq 14, 3) := by decide +kernel
theorem dX8_aims_11 : decode cX8_aims 11 = .ok (.aload_n 0, 1) := by decide +kernel
theorem dX8_aims_12 : decode cX8_aims 12 = .ok (.getfield 10, 3) := by decide +kernel
theorem dX8_aims_15 : decode cX8_aims 15 = .ok (.iload_n 2, 1) := by decide +kernel
theorem dX8_aims_16 : decode cX8_aims 16 = .ok (.invokevirtual 150, 3) := by decide +kernel
theorem dX8_aims_19 : decode cX8_aims 19 = .ok (.ifCond .ne 5, 3) := by decide +kernel
theorem dX8_aims_22 : decode cX8_aims 22 = .ok (.iconst (-1), 1) := by decide +kernel
theorem dX8_aims_23 : decode cX8_aims 23 = .ok (.ireturn, 1) := by decide +kernel
theorem dX8_aims_24 : decode cX8_aims 24 = .ok (.aload_n 0, 1) := by decide +kernel
theorem dX8_aims_25 : decode cX8_aims 25 = .ok (.getfield 10, 3) := by decide +kernel
theorem dX8_aims_28 : decode cX8_aims 28 = .ok (.aload_n 0, 1) := by decide +kernel
theorem dX8_aims_29 : decode cX8_aims 29 = .ok (.getfield 103, 3) := by decide +kernel
theorem dX8_aims_32 : decode cX8_aims 32 = .ok (.iload_n 1, 1) := by decide +kernel
theorem dX8_aims_33 : decode cX8_aims 33 = .ok (.invokevirtual 120, 3) := by decide +kernel
theorem dX8_aims_36 : decode cX8_aims 36 = .ok (.istore_n 3, 1) := by decide +kernel
theorem dX8_aims_37 : decode cX8_aims 37 = .ok (.aload_n 0, 1) := by decide +kernel
theorem dX8_aims_38 : decode cX8_aims 38 = .ok (.aload_n 0, 1) := by decide +kernel
theorem dX8_aims_39 : decode cX8_aims 39 = .ok (.getfield 10, 3) := by decide +kernel
theorem dX8_aims_42 : decode cX8_aims 42 = .ok (.aload_n 0, 1) := by decide +kernel
theorem dX8_aims_43 : decode cX8_aims 43 = .ok (.getfield 103, 3) := by decide +kernel
theorem dX8_aims_46 : decode cX8_aims 46 = .ok (.iload_n 1, 1) := by decide +kernel
theorem dX8_aims_47 : decode cX8_aims 47 = .ok (.iload_n 2, 1) := by decide +kernel
theorem dX8_aims_48 : decode cX8_aims 48 = .ok (.invokevirtual 169, 3) := by decide +kernel
theorem dX8_aims_51 : decode cX8_aims 51 = .ok (.putfield 103, 3) := by decide +kernel
theorem dX8_aims_54 : decode cX8_aims 54 = .ok (.iload_n 3, 1) := by decide +kernel
theorem dX8_aims_55 : decode cX8_aims 55 = .ok (.ireturn, 1) := by decide +kernel
theorem dX8_undo_0 : decode cX8_undo 0 = .ok (.aload_n 0, 1) := by decide +kernel
theorem dX8_undo_1 : decode cX8_undo 1 = .ok (.getfield 36, 3) := by decide +kernel
theorem dX8_undo_4 : decode cX8_undo 4 = .ok (.invokevirtual 187, 3) := by decide +kernel
theorem dX8_undo_7 : decode cX8_undo 7 = .ok (.ifCond .eq 13, 3) := by decide +kernel
theorem dX8_undo_10 : decode cX8_undo 10 = .ok (.aload_n 0, 1) := by decide +kernel
theorem dX8_undo_11 : decode cX8_undo 11 = .ok (.getfield 36, 3) := by decide +kernel
theorem dX8_undo_14 : decode cX8_undo 14 = .ok (.getfield 191, 3) := by decide +kernel
theorem dX8_undo_17 : decode cX8_undo 17 = .ok (.goto 5, 3) := by decide +kernel
theorem dX8_undo_20 : decode cX8_undo 20 = .ok (.bipush (-2), 2) := by decide +kernel
theorem dX8_undo_22 : decode cX8_undo 22 = .ok (.ireturn, 1) := by decide +kernel
theorem dX8_now_0 : decode cX8_now 0 = .ok (.iload_n 1, 1) := by decide +kernel
theorem dX8_now_1 : decode cX8_now 1 = .ok (.tableswitch 106 0 5 #[39, 47, 55, 60, 75, 94], 39) := by decide +kernel
theorem dX8_now_40 : decode cX8_now 40 = .ok (.aload_n 0, 1) := by decide +kernel
theorem dX8_now_41 : decode cX8_now 41 = .ok (.getfield 36, 3) := by decide +kernel
theorem dX8_now_44 : decode cX8_now 44 = .ok (.invokevirtual 156, 3) := by decide +kernel
theorem dX8_now_47 : decode cX8_now 47 = .ok (.ireturn, 1) := by decide +kernel
theorem dX8_now_48 : decode cX8_now 48 = .ok (.aload_n 0, 1) := by decide +kernel
theorem dX8_now_49 : decode cX8_now 49 = .ok (.getfield 36, 3) := by decide +kernel
theorem dX8_now_52 : decode cX8_now 52 = .ok (.invokevirtual 179, 3) := by decide +kernel
theorem dX8_now_55 : decode cX8_now 55 = .ok (.ireturn, 1) := by decide +kernel
theorem dX8_now_56 : decode cX8_now 56 = .ok (.aload_n 0, 1) := by decide +kernel
theorem dX8_now_57 : decode cX8_now 57 = .ok (.invokevirtual 194, 3) := by decide +kernel
theorem dX8_now_60 : decode cX8_now 60 = .ok (.ireturn, 1) := by decide +kernel
theorem dX8_now_61 : decode cX8_now 61 = .ok (.aload_n 0, 1) := by decide +kernel
theorem dX8_now_62 : decode cX8_now 62 = .ok (.getfield 58, 3) := by decide +kernel
theorem dX8_now_65 : decode cX8_now 65 = .ok (.aload_n 0, 1) := by decide +kernel
theorem dX8_now_66 : decode cX8_now 66 = .ok (.getfield 36, 3) := by decide +kernel
theorem dX8_now_69 : decode cX8_now 69 = .ok (.invokevirtual 117, 3) := by decide +kernel
theorem dX8_now_72 : decode cX8_now 72 = .ok (.invokevirtual 197, 3) := by decide +kernel
theorem dX8_now_75 : decode cX8_now 75 = .ok (.ireturn, 1) := by decide +kernel
theorem dX8_now_76 : decode cX8_now 76 = .ok (.aload_n 0, 1) := by decide +kernel
theorem dX8_now_77 : decode cX8_now 77 = .ok (.getfield 58, 3) := by decide +kernel
theorem dX8_now_80 : decode cX8_now 80 = .ok (.aload_n 0, 1) := by decide +kernel
theorem dX8_now_81 : decode cX8_now 81 = .ok (.getfield 10, 3) := by decide +kernel
theorem dX8_now_84 : decode cX8_now 84 = .ok (.aload_n 0, 1) := by decide +kernel
theorem dX8_now_85 : decode cX8_now 85 = .ok (.getfield 36, 3) := by decide +kernel
theorem dX8_now_88 : decode cX8_now 88 = .ok (.invokevirtual 117, 3) := by decide +kernel
theorem dX8_now_91 : decode cX8_now 91 = .ok (.invokevirtual 200, 3) := by decide +kernel
theorem dX8_now_94 : decode cX8_now 94 = .ok (.ireturn, 1) := by decide +kernel
theorem dX8_now_95 : decode cX8_now 95 = .ok (.aload_n 0, 1) := by decide +kernel
theorem dX8_now_96 : decode cX8_now 96 = .ok (.getfield 65, 3) := by decide +kernel
theorem dX8_now_99 : decode cX8_now 99 = .ok (.aload_n 0, 1) := by decide +kernel
theorem dX8_now_100 : decode cX8_now 100 = .ok (.getfield 10, 3) := by decide +kernel
theorem dX8_now_103 : decode cX8_now 103 = .ok (.invokevirtual 204, 3) := by decide +kernel
theorem dX8_now_106 : decode cX8_now 106 = .ok (.ireturn, 1) := by decide +kernel
theorem dX8_now_107 : decode cX8_now 107 = .ok (.iconst (-1), 1) := by decide +kernel
theorem dX8_now_108 : decode cX8_now 108 = .ok (.ireturn, 1) := by decide +kernel
theorem dX8_convinced_0 : decode cX8_convinced 0 = .ok (.iconst 0, 1) := by decide +kernel
theorem dX8_convinced_1 : decode cX8_convinced 1 = .ok (.istore_n 1, 1) := by decide +kernel
theorem dX8_convinced_2 : decode cX8_convinced 2 = .ok (.iconst 0, 1) := by decide +kernel
theorem dX8_convinced_3 : decode cX8_convinced 3 = .ok (.istore_n 2, 1) := by decide +kernel
theorem dX8_convinced_4 : decode cX8_convinced 4 = .ok (.iload_n 2, 1) := by decide +kernel
theorem dX8_convinced_5 : decode cX8_convinced 5 = .ok (.aload_n 0, 1) := by decide +kernel
theorem dX8_convinced_6 : decode cX8_convinced 6 = .ok (.getfield 10, 3) := by decide +kernel
theorem dX8_convinced_9 : decode cX8_convinced 9 = .ok (.getfield 207, 3) := by decide +kernel
theorem dX8_convinced_12 : decode cX8_convinced 12 = .ok (.if_icmp .ge 33, 3) := by decide +kernel
theorem dX8_convinced_15 : decode cX8_convinced 15 = .ok (.aload_n 0, 1) := by decide +kernel
theorem dX8_convinced_16 : decode cX8_convinced 16 = .ok (.getfield 10, 3) := by decide +kernel
theorem dX8_convinced_19 : decode cX8_convinced 19 = .ok (.iload_n 2, 1) := by decide +kernel
theorem dX8_convinced_20 : decode cX8_convinced 20 = .ok (.aload_n 0, 1) := by decide +kernel
theorem dX8_convinced_21 : decode cX8_convinced 21 = .ok (.getfield 36, 3) := by decide +kernel
theorem dX8_convinced_24 : decode cX8_convinced 24 = .ok (.invokevirtual 117, 3) := by decide +kernel
theorem dX8_convinced_27 : decode cX8_convinced 27 = .ok (.invokevirtual 143, 3) := by decide +kernel
theorem dX8_convinced_30 : decode cX8_convinced 30 = .ok (.ifCond .eq 9, 3) := by decide +kernel
theorem dX8_convinced_33 : decode cX8_convinced 33 = .ok (.iload_n 1, 1) := by decide +kernel
theorem dX8_convinced_34 : decode cX8_convinced 34 = .ok (.iconst 1, 1) := by decide +kernel
theorem dX8_convinced_35 : decode cX8_convinced 35 = .ok (.iload_n 2, 1) := by decide +kernel
theorem dX8_convinced_36 : decode cX8_convinced 36 = .ok (.ishl, 1) := by decide +kernel
theorem dX8_convinced_37 : decode cX8_convinced 37 = .ok (.ior, 1) := by decide +kernel
theorem dX8_convinced_38 : decode cX8_convinced 38 = .ok (.istore_n 1, 1) := by decide +kernel
theorem dX8_convinced_39 : decode cX8_convinced 39 = .ok (.iinc 2 1, 3) := by decide +kernel
theorem dX8_convinced_42 : decode cX8_convinced 42 = .ok (.goto (-38), 3) := by decide +kernel
theorem dX8_convinced_45 : decode cX8_convinced 45 = .ok (.iload_n 1, 1) := by decide +kernel
theorem dX8_convinced_46 : decode cX8_convinced 46 = .ok (.ireturn, 1) := by decide +kernel
theorem dX8_bought_0 : decode cX8_bought 0 = .ok (.aload_n 0, 1) := by decide +kernel
theorem dX8_bought_1 : decode cX8_bought 1 = .ok (.getfield 10, 3) := by decide +kernel
theorem dX8_bought_4 : decode cX8_bought 4 = .ok (.invokevirtual 210, 3) := by decide +kernel
theorem dX8_bought_7 : decode cX8_bought 7 = .ok (.aload_n 0, 1) := by decide +kernel
theorem dX8_bought_8 : decode cX8_bought 8 = .ok (.getfield 36, 3) := by decide +kernel
theorem dX8_bought_11 : decode cX8_bought 11 = .ok (.invokevirtual 179, 3) := by decide +kernel
theorem dX8_bought_14 : decode cX8_bought 14 = .ok (.iconst (-1), 1) := by decide +kernel
theorem dX8_bought_15 : decode cX8_bought 15 = .ok (.ixor, 1) := by decide +kernel
theorem dX8_bought_16 : decode cX8_bought 16 = .ok (.iand, 1) := by decide +kernel
theorem dX8_bought_17 : decode cX8_bought 17 = .ok (.ireturn, 1) := by decide +kernel
theorem dX8_behind_0 : decode cX8_behind 0 = .ok (.iload_n 1, 1) := by decide +kernel
theorem dX8_behind_1 : decode cX8_behind 1 = .ok (.ifCond .lt 20, 3) := by decide +kernel
theorem dX8_behind_4 : decode cX8_behind 4 = .ok (.iload_n 1, 1) := by decide +kernel
theorem dX8_behind_5 : decode cX8_behind 5 = .ok (.bipush 99, 2) := by decide +kernel
theorem dX8_behind_7 : decode cX8_behind 7 = .ok (.if_icmp .gt 14, 3) := by decide +kernel
theorem dX8_behind_10 : decode cX8_behind 10 = .ok (.aload_n 0, 1) := by decide +kernel
theorem dX8_behind_11 : decode cX8_behind 11 = .ok (.getfield 10, 3) := by decide +kernel
theorem dX8_behind_14 : decode cX8_behind 14 = .ok (.iload_n 2, 1) := by decide +kernel
theorem dX8_behind_15 : decode cX8_behind 15 = .ok (.invokevirtual 114, 3) := by decide +kernel
theorem dX8_behind_18 : decode cX8_behind 18 = .ok (.ifCond .ne 5, 3) := by decide +kernel
theorem dX8_behind_21 : decode cX8_behind 21 = .ok (.iconst (-1), 1) := by decide +kernel
theorem dX8_behind_22 : decode cX8_behind 22 = .ok (.ireturn, 1) := by decide +kernel
theorem dX8_behind_23 : decode cX8_behind 23 = .ok (.aload_n 0, 1) := by decide +kernel
theorem dX8_behind_24 : decode cX8_behind 24 = .ok (.getfield 51, 3) := by decide +kernel
theorem dX8_behind_27 : decode cX8_behind 27 = .ok (.aload_n 0, 1) := by decide +kernel
theorem dX8_behind_28 : decode cX8_behind 28 = .ok (.getfield 36, 3) := by decide +kernel
theorem dX8_behind_31 : decode cX8_behind 31 = .ok (.invokevirtual 117, 3) := by decide +kernel
theorem dX8_behind_34 : decode cX8_behind 34 = .ok (.aload_n 0, 1) := by decide +kernel
theorem dX8_behind_35 : decode cX8_behind 35 = .ok (.invokevirtual 213, 3) := by decide +kernel
theorem dX8_behind_38 : decode cX8_behind 38 = .ok (.iload_n 1, 1) := by decide +kernel
theorem dX8_behind_39 : decode cX8_behind 39 = .ok (.invokevirtual 216, 3) := by decide +kernel
theorem dX8_behind_42 : decode cX8_behind 42 = .ok (.aload_n 0, 1) := by decide +kernel
theorem dX8_behind_43 : decode cX8_behind 43 = .ok (.getfield 10, 3) := by decide +kernel
theorem dX8_behind_46 : decode cX8_behind 46 = .ok (.aload_n 0, 1) := by decide +kernel
theorem dX8_behind_47 : decode cX8_behind 47 = .ok (.getfield 51, 3) := by decide +kernel
theorem dX8_behind_50 : decode cX8_behind 50 = .ok (.getfield 220, 3) := by decide +kernel
theorem dX8_behind_53 : decode cX8_behind 53 = .ok (.iload_n 2, 1) := by decide +kernel
theorem dX8_behind_54 : decode cX8_behind 54 = .ok (.invokevirtual 120, 3) := by decide +kernel
theorem dX8_behind_57 : decode cX8_behind 57 = .ok (.ireturn, 1) := by decide +kernel
theorem dX8_ends_0 : decode cX8_ends 0 = .ok (.iload_n 1, 1) := by decide +kernel
theorem dX8_ends_1 : decode cX8_ends 1 = .ok (.ifCond .lt 8, 3) := by decide +kernel
theorem dX8_ends_4 : decode cX8_ends 4 = .ok (.iload_n 1, 1) := by decide +kernel
theorem dX8_ends_5 : decode cX8_ends 5 = .ok (.iconst 1, 1) := by decide +kernel
theorem dX8_ends_6 : decode cX8_ends 6 = .ok (.if_icmp .le 5, 3) := by decide +kernel
theorem dX8_ends_9 : decode cX8_ends 9 = .ok (.iconst (-1), 1) := by decide +kernel
theorem dX8_ends_10 : decode cX8_ends 10 = .ok (.ireturn, 1) := by decide +kernel
theorem dX8_ends_11 : decode cX8_ends 11 = .ok (.aload_n 0, 1) := by decide +kernel
theorem dX8_ends_12 : decode cX8_ends 12 = .ok (.getfield 51, 3) := by decide +kernel
theorem dX8_ends_15 : decode cX8_ends 15 = .ok (.aload_n 0, 1) := by decide +kernel
theorem dX8_ends_16 : decode cX8_ends 16 = .ok (.getfield 36, 3) := by decide +kernel
theorem dX8_ends_19 : decode cX8_ends 19 = .ok (.invokevirtual 117, 3) := by decide +kernel
theorem dX8_ends_22 : decode cX8_ends 22 = .ok (.aload_n 0, 1) := by decide +kernel
theorem dX8_ends_23 : decode cX8_ends 23 = .ok (.invokevirtual 213, 3) := by decide +kernel
theorem dX8_ends_26 : decode cX8_ends 26 = .ok (.invokevirtual 222, 3) := by decide +kernel
theorem dX8_ends_29 : decode cX8_ends 29 = .ok (.iload_n 1, 1) := by decide +kernel
theorem dX8_ends_30 : decode cX8_ends 30 = .ok (.ifCond .ne 11, 3) := by decide +kernel
theorem dX8_ends_33 : decode cX8_ends 33 = .ok (.aload_n 0, 1) := by decide +kernel
theorem dX8_ends_34 : decode cX8_ends 34 = .ok (.getfield 51, 3) := by decide +kernel
theorem dX8_ends_37 : decode cX8_ends 37 = .ok (.getfield 225, 3) := by decide +kernel
theorem dX8_ends_40 : decode cX8_ends 40 = .ok (.ireturn, 1) := by decide +kernel
theorem dX8_ends_41 : decode cX8_ends 41 = .ok (.aload_n 0, 1) := by decide +kernel
theorem dX8_ends_42 : decode cX8_ends 42 = .ok (.getfield 51, 3) := by decide +kernel
theorem dX8_ends_45 : decode cX8_ends 45 = .ok (.getfield 228, 3) := by decide +kernel
theorem dX8_ends_48 : decode cX8_ends 48 = .ok (.ifCond .eq 8, 3) := by decide +kernel
theorem dX8_ends_51 : decode cX8_ends 51 = .ok (.bipush (-9), 2) := by decide +kernel
theorem dX8_ends_53 : decode cX8_ends 53 = .ok (.goto 10, 3) := by decide +kernel
theorem dX8_ends_56 : decode cX8_ends 56 = .ok (.aload_n 0, 1) := by decide +kernel
theorem dX8_ends_57 : decode cX8_ends 57 = .ok (.getfield 51, 3) := by decide +kernel
theorem dX8_ends_60 : decode cX8_ends 60 = .ok (.getfield 231, 3) := by decide +kernel
theorem dX8_ends_63 : decode cX8_ends 63 = .ok (.ireturn, 1) := by decide +kernel
theorem dX8_lasts_0 : decode cX8_lasts 0 = .ok (.iload_n 1, 1) := by decide +kernel
theorem dX8_lasts_1 : decode cX8_lasts 1 = .ok (.ifCond .lt 8, 3) := by decide +kernel
theorem dX8_lasts_4 : decode cX8_lasts 4 = .ok (.iload_n 1, 1) := by decide +kernel
theorem dX8_lasts_5 : decode cX8_lasts 5 = .ok (.iconst 1, 1) := by decide +kernel
theorem dX8_lasts_6 : decode cX8_lasts 6 = .ok (.if_icmp .le 5, 3) := by decide +kernel
theorem dX8_lasts_9 : decode cX8_lasts 9 = .ok (.iconst (-1), 1) := by decide +kernel
theorem dX8_lasts_10 : decode cX8_lasts 10 = .ok (.ireturn, 1) := by decide +kernel
theorem dX8_lasts_11 : decode cX8_lasts 11 = .ok (.aload_n 0, 1) := by decide +kernel
theorem dX8_lasts_12 : decode cX8_lasts 12 = .ok (.getfield 10, 3) := by decide +kernel
theorem dX8_lasts_15 : decode cX8_lasts 15 = .ok (.getfield 234, 3) := by decide +kernel
theorem dX8_lasts_18 : decode cX8_lasts 18 = .ok (.ifCond .eq 10, 3) := by decide +kernel
theorem dX8_lasts_21 : decode cX8_lasts 21 = .ok (.aload_n 0, 1) := by decide +kernel
theorem dX8_lasts_22 : decode cX8_lasts 22 = .ok (.invokevirtual 213, 3) := by decide +kernel
theorem dX8_lasts_25 : decode cX8_lasts 25 = .ok (.ifCond .ne 6, 3) := by decide +kernel
theorem dX8_lasts_28 : decode cX8_lasts 28 = .ok (.bipush (-9), 2) := by decide +kernel
theorem dX8_lasts_30 : decode cX8_lasts 30 = .ok (.ireturn, 1) := by decide +kernel
theorem dX8_lasts_31 : decode cX8_lasts 31 = .ok (.aload_n 0, 1) := by decide +kernel
theorem dX8_lasts_32 : decode cX8_lasts 32 = .ok (.getfield 51, 3) := by decide +kernel
theorem dX8_lasts_35 : decode cX8_lasts 35 = .ok (.aload_n 0, 1) := by decide +kernel
theorem dX8_lasts_36 : decode cX8_lasts 36 = .ok (.invokevirtual 213, 3) := by decide +kernel
theorem dX8_lasts_39 : decode cX8_lasts 39 = .ok (.invokevirtual 237, 3) := by decide +kernel
theorem dX8_lasts_42 : decode cX8_lasts 42 = .ok (.istore_n 2, 1) := by decide +kernel
theorem dX8_lasts_43 : decode cX8_lasts 43 = .ok (.iload_n 2, 1) := by decide +kernel
theorem dX8_lasts_44 : decode cX8_lasts 44 = .ok (.bipush (-9), 2) := by decide +kernel
theorem dX8_lasts_46 : decode cX8_lasts 46 = .ok (.if_icmp .eq 7, 3) := by decide +kernel
theorem dX8_lasts_49 : decode cX8_lasts 49 = .ok (.iload_n 1, 1) := by decide +kernel
theorem dX8_lasts_50 : decode cX8_lasts 50 = .ok (.ifCond .ne 5, 3) := by decide +kernel
theorem dX8_lasts_53 : decode cX8_lasts 53 = .ok (.iload_n 2, 1) := by decide +kernel
theorem dX8_lasts_54 : decode cX8_lasts 54 = .ok (.ireturn, 1) := by decide +kernel
theorem dX8_lasts_55 : decode cX8_lasts 55 = .ok (.aload_n 0, 1) := by decide +kernel
theorem dX8_lasts_56 : decode cX8_lasts 56 = .ok (.getfield 51, 3) := by decide +kernel
theorem dX8_lasts_59 : decode cX8_lasts 59 = .ok (.iload_n 2, 1) := by decide +kernel
theorem dX8_lasts_60 : decode cX8_lasts 60 = .ok (.aload_n 0, 1) := by decide +kernel
theorem dX8_lasts_61 : decode cX8_lasts 61 = .ok (.invokevirtual 213, 3) := by decide +kernel
theorem dX8_lasts_64 : decode cX8_lasts 64 = .ok (.invokevirtual 222, 3) := by decide +kernel
theorem dX8_lasts_67 : decode cX8_lasts 67 = .ok (.aload_n 0, 1) := by decide +kernel
theorem dX8_lasts_68 : decode cX8_lasts 68 = .ok (.getfield 51, 3) := by decide +kernel
theorem dX8_lasts_71 : decode cX8_lasts 71 = .ok (.getfield 231, 3) := by decide +kernel
theorem dX8_lasts_74 : decode cX8_lasts 74 = .ok (.ireturn, 1) := by decide +kernel
theorem dX8_buy_0 : decode cX8_buy 0 = .ok (.iload_n 1, 1) := by decide +kernel
theorem dX8_buy_1 : decode cX8_buy 1 = .ok (.iconst 1, 1) := by decide +kernel
theorem dX8_buy_2 : decode cX8_buy 2 = .ok (.if_icmp .lt 9, 3) := by decide +kernel
theorem dX8_buy_5 : decode cX8_buy 5 = .ok (.iload_n 1, 1) := by decide +kernel
theorem dX8_buy_6 : decode cX8_buy 6 = .ok (.bipush 99, 2) := by decide +kernel
theorem dX8_buy_8 : decode cX8_buy 8 = .ok (.if_icmp .le 5, 3) := by decide +kernel
theorem dX8_buy_11 : decode cX8_buy 11 = .ok (.iconst (-1), 1) := by decide +kernel
theorem dX8_buy_12 : decode cX8_buy 12 = .ok (.ireturn, 1) := by decide +kernel
theorem dX8_buy_13 : decode cX8_buy 13 = .ok (.aload_n 0, 1) := by decide +kernel
theorem dX8_buy_14 : decode cX8_buy 14 = .ok (.getfield 51, 3) := by decide +kernel
theorem dX8_buy_17 : decode cX8_buy 17 = .ok (.aload_n 0, 1) := by decide +kernel
theorem dX8_buy_18 : decode cX8_buy 18 = .ok (.getfield 36, 3) := by decide +kernel
theorem dX8_buy_21 : decode cX8_buy 21 = .ok (.invokevirtual 117, 3) := by decide +kernel
theorem dX8_buy_24 : decode cX8_buy 24 = .ok (.aload_n 0, 1) := by decide +kernel
theorem dX8_buy_25 : decode cX8_buy 25 = .ok (.invokevirtual 213, 3) := by decide +kernel
theorem dX8_buy_28 : decode cX8_buy 28 = .ok (.aload_n 0, 1) := by decide +kernel
theorem dX8_buy_29 : decode cX8_buy 29 = .ok (.getfield 36, 3) := by decide +kernel
theorem dX8_buy_32 : decode cX8_buy 32 = .ok (.invokevirtual 179, 3) := by decide +kernel
theorem dX8_buy_35 : decode cX8_buy 35 = .ok (.iload_n 1, 1) := by decide +kernel
theorem dX8_buy_36 : decode cX8_buy 36 = .ok (.invokevirtual 240, 3) := by decide +kernel
theorem dX8_buy_39 : decode cX8_buy 39 = .ok (.ireturn, 1) := by decide +kernel
theorem dX8_odds_0 : decode cX8_odds 0 = .ok (.iload_n 1, 1) := by decide +kernel
theorem dX8_odds_1 : decode cX8_odds 1 = .ok (.ifCond .lt 28, 3) := by decide +kernel
theorem dX8_odds_4 : decode cX8_odds 4 = .ok (.iload_n 1, 1) := by decide +kernel
theorem dX8_odds_5 : decode cX8_odds 5 = .ok (.bipush 10, 2) := by decide +kernel
theorem dX8_odds_7 : decode cX8_odds 7 = .ok (.if_icmp .gt 22, 3) := by decide +kernel
theorem dX8_odds_10 : decode cX8_odds 10 = .ok (.iload_n 2, 1) := by decide +kernel
theorem dX8_odds_11 : decode cX8_odds 11 = .ok (.ifCond .lt 18, 3) := by decide +kernel
theorem dX8_odds_14 : decode cX8_odds 14 = .ok (.iload_n 2, 1) := by decide +kernel
theorem dX8_odds_15 : decode cX8_odds 15 = .ok (.bipush 9, 2) := by decide +kernel
theorem dX8_odds_17 : decode cX8_odds 17 = .ok (.if_icmp .gt 12, 3) := by decide +kernel
theorem dX8_odds_20 : decode cX8_odds 20 = .ok (.iload_n 3, 1) := by decide +kernel
theorem dX8_odds_21 : decode cX8_odds 21 = .ok (.ifCond .lt 8, 3) := by decide +kernel
theorem dX8_odds_24 : decode cX8_odds 24 = .ok (.iload_n 3, 1) := by decide +kernel
theorem dX8_odds_25 : decode cX8_odds 25 = .ok (.iconst 1, 1) := by decide +kernel
theorem dX8_odds_26 : decode cX8_odds 26 = .ok (.if_icmp .le 5, 3) := by decide +kernel
theorem dX8_odds_29 : decode cX8_odds 29 = .ok (.iconst (-1), 1) := by decide +kernel
theorem dX8_odds_30 : decode cX8_odds 30 = .ok (.ireturn, 1) := by decide +kernel
theorem dX8_odds_31 : decode cX8_odds 31 = .ok (.aload_n 0, 1) := by decide +kernel
theorem dX8_odds_32 : decode cX8_odds 32 = .ok (.getfield 51, 3) := by decide +kernel
theorem dX8_odds_35 : decode cX8_odds 35 = .ok (.aload_n 0, 1) := by decide +kernel
theorem dX8_odds_36 : decode cX8_odds 36 = .ok (.getfield 36, 3) := by decide +kernel
theorem dX8_odds_39 : decode cX8_odds 39 = .ok (.invokevirtual 117, 3) := by decide +kernel
theorem dX8_odds_42 : decode cX8_odds 42 = .ok (.aload_n 0, 1) := by decide +kernel
theorem dX8_odds_43 : decode cX8_odds 43 = .ok (.invokevirtual 213, 3) := by decide +kernel
theorem dX8_odds_46 : decode cX8_odds 46 = .ok (.iload_n 2, 1) := by decide +kernel
theorem dX8_odds_47 : decode cX8_odds 47 = .ok (.invokevirtual 244, 3) := by decide +kernel
theorem dX8_odds_50 : decode cX8_odds 50 = .ok (.ifCond .ne 13, 3) := by decide +kernel
theorem dX8_odds_53 : decode cX8_odds 53 = .ok (.iload_n 3, 1) := by decide +kernel
theorem dX8_odds_54 : decode cX8_odds 54 = .ok (.ifCond .ne 7, 3) := by decide +kernel
theorem dX8_odds_57 : decode cX8_odds 57 = .ok (.iconst 0, 1) := by decide +kernel
theorem dX8_odds_58 : decode cX8_odds 58 = .ok (.goto 4, 3) := by decide +kernel
theorem dX8_odds_61 : decode cX8_odds 61 = .ok (.iconst 1, 1) := by decide +kernel
theorem dX8_odds_62 : decode cX8_odds 62 = .ok (.ireturn, 1) := by decide +kernel
theorem dX8_odds_63 : decode cX8_odds 63 = .ok (.bipush 10, 2) := by decide +kernel
theorem dX8_odds_65 : decode cX8_odds 65 = .ok (.iload_n 1, 1) := by decide +kernel
theorem dX8_odds_66 : decode cX8_odds 66 = .ok (.isub, 1) := by decide +kernel
theorem dX8_odds_67 : decode cX8_odds 67 = .ok (.istore 4, 2) := by decide +kernel
theorem dX8_odds_69 : decode cX8_odds 69 = .ok (.bipush 10, 2) := by decide +kernel
theorem dX8_odds_71 : decode cX8_odds 71 = .ok (.iload 4, 2) := by decide +kernel
theorem dX8_odds_73 : decode cX8_odds 73 = .ok (.invokestatic 248, 3) := by decide +kernel
theorem dX8_odds_76 : decode cX8_odds 76 = .ok (.istore 5, 2) := by decide +kernel
theorem dX8_odds_78 : decode cX8_odds 78 = .ok (.iload 5, 2) := by decide +kernel
theorem dX8_odds_80 : decode cX8_odds 80 = .ok (.iconst 1, 1) := by decide +kernel
theorem dX8_odds_81 : decode cX8_odds 81 = .ok (.if_icmp .ge 7, 3) := by decide +kernel
theorem dX8_odds_84 : decode cX8_odds 84 = .ok (.iconst (-1), 1) := by decide +kernel
theorem dX8_odds_85 : decode cX8_odds 85 = .ok (.goto 21, 3) := by decide +kernel
theorem dX8_odds_88 : decode cX8_odds 88 = .ok (.iload_n 3, 1) := by decide +kernel
theorem dX8_odds_89 : decode cX8_odds 89 = .ok (.ifCond .ne 8, 3) := by decide +kernel
theorem dX8_odds_92 : decode cX8_odds 92 = .ok (.iload 4, 2) := by decide +kernel
theorem dX8_odds_94 : decode cX8_odds 94 = .ok (.goto 5, 3) := by decide +kernel
theorem dX8_odds_97 : decode cX8_odds 97 = .ok (.bipush 10, 2) := by decide +kernel
theorem dX8_odds_99 : decode cX8_odds 99 = .ok (.iload 5, 2) := by decide +kernel
theorem dX8_odds_101 : decode cX8_odds 101 = .ok (.idiv, 1) := by decide +kernel
theorem dX8_odds_102 : decode cX8_odds 102 = .ok (.iload_n 2, 1) := by decide +kernel
theorem dX8_odds_103 : decode cX8_odds 103 = .ok (.invokestatic 251, 3) := by decide +kernel
theorem dX8_odds_106 : decode cX8_odds 106 = .ok (.ireturn, 1) := by decide +kernel
theorem dX8_commonDivisor_0 : decode cX8_commonDivisor 0 = .ok (.iload_n 0, 1) := by decide +kernel
theorem dX8_commonDivisor_1 : decode cX8_commonDivisor 1 = .ok (.istore_n 2, 1) := by decide +kernel
theorem dX8_commonDivisor_2 : decode cX8_commonDivisor 2 = .ok (.iload_n 1, 1) := by decide +kernel
theorem dX8_commonDivisor_3 : decode cX8_commonDivisor 3 = .ok (.istore_n 3, 1) := by decide +kernel
theorem dX8_commonDivisor_4 : decode cX8_commonDivisor 4 = .ok (.iconst 0, 1) := by decide +kernel
theorem dX8_commonDivisor_5 : decode cX8_commonDivisor 5 = .ok (.istore 4, 2) := by decide +kernel
theorem dX8_commonDivisor_7 : decode cX8_commonDivisor 7 = .ok (.iload 4, 2) := by decide +kernel
theorem dX8_commonDivisor_9 : decode cX8_commonDivisor 9 = .ok (.bipush 10, 2) := by decide +kernel
theorem dX8_commonDivisor_11 : decode cX8_commonDivisor 11 = .ok (.if_icmp .gt 23, 3) := by decide +kernel
theorem dX8_commonDivisor_14 : decode cX8_commonDivisor 14 = .ok (.iload_n 3, 1) := by decide +kernel
theorem dX8_commonDivisor_15 : decode cX8_commonDivisor 15 = .ok (.ifCond .eq 19, 3) := by decide +kernel
theorem dX8_commonDivisor_18 : decode cX8_commonDivisor 18 = .ok (.iload_n 2, 1) := by decide +kernel
theorem dX8_commonDivisor_19 : decode cX8_commonDivisor 19 = .ok (.iload_n 3, 1) := by decide +kernel
theorem dX8_commonDivisor_20 : decode cX8_commonDivisor 20 = .ok (.irem, 1) := by decide +kernel
theorem dX8_commonDivisor_21 : decode cX8_commonDivisor 21 = .ok (.istore 5, 2) := by decide +kernel
theorem dX8_commonDivisor_23 : decode cX8_commonDivisor 23 = .ok (.iload_n 3, 1) := by decide +kernel
theorem dX8_commonDivisor_24 : decode cX8_commonDivisor 24 = .ok (.istore_n 2, 1) := by decide +kernel
theorem dX8_commonDivisor_25 : decode cX8_commonDivisor 25 = .ok (.iload 5, 2) := by decide +kernel
theorem dX8_commonDivisor_27 : decode cX8_commonDivisor 27 = .ok (.istore_n 3, 1) := by decide +kernel
theorem dX8_commonDivisor_28 : decode cX8_commonDivisor 28 = .ok (.iinc 4 1, 3) := by decide +kernel
theorem dX8_commonDivisor_31 : decode cX8_commonDivisor 31 = .ok (.goto (-24), 3) := by decide +kernel
theorem dX8_commonDivisor_34 : decode cX8_commonDivisor 34 = .ok (.iload_n 2, 1) := by decide +kernel
theorem dX8_commonDivisor_35 : decode cX8_commonDivisor 35 = .ok (.ireturn, 1) := by decide +kernel
theorem dX8_power_0 : decode cX8_power 0 = .ok (.iconst 1, 1) := by decide +kernel
theorem dX8_power_1 : decode cX8_power 1 = .ok (.istore_n 2, 1) := by decide +kernel
theorem dX8_power_2 : decode cX8_power 2 = .ok (.iconst 0, 1) := by decide +kernel
theorem dX8_power_3 : decode cX8_power 3 = .ok (.istore_n 3, 1) := by decide +kernel
theorem dX8_power_4 : decode cX8_power 4 = .ok (.iload_n 3, 1) := by decide +kernel
theorem dX8_power_5 : decode cX8_power 5 = .ok (.iload_n 1, 1) := by decide +kernel
theorem dX8_power_6 : decode cX8_power 6 = .ok (.if_icmp .ge 13, 3) := by decide +kernel
theorem dX8_power_9 : decode cX8_power 9 = .ok (.iload_n 2, 1) := by decide +kernel
theorem dX8_power_10 : decode cX8_power 10 = .ok (.iload_n 0, 1) := by decide +kernel
theorem dX8_power_11 : decode cX8_power 11 = .ok (.imul, 1) := by decide +kernel
theorem dX8_power_12 : decode cX8_power 12 = .ok (.istore_n 2, 1) := by decide +kernel
theorem dX8_power_13 : decode cX8_power 13 = .ok (.iinc 3 1, 3) := by decide +kernel
theorem dX8_power_16 : decode cX8_power 16 = .ok (.goto (-12), 3) := by decide +kernel
theorem dX8_power_19 : decode cX8_power 19 = .ok (.iload_n 2, 1) := by decide +kernel
theorem dX8_power_20 : decode cX8_power 20 = .ok (.ireturn, 1) := by decide +kernel
theorem dX8_way_0 : decode cX8_way 0 = .ok (.iload_n 1, 1) := by decide +kernel
theorem dX8_way_1 : decode cX8_way 1 = .ok (.iconst (-1), 1) := by decide +kernel
theorem dX8_way_2 : decode cX8_way 2 = .ok (.if_icmp .ge 5, 3) := by decide +kernel
theorem dX8_way_5 : decode cX8_way 5 = .ok (.iconst (-1), 1) := by decide +kernel
theorem dX8_way_6 : decode cX8_way 6 = .ok (.ireturn, 1) := by decide +kernel
theorem dX8_way_7 : decode cX8_way 7 = .ok (.aload_n 0, 1) := by decide +kernel
theorem dX8_way_8 : decode cX8_way 8 = .ok (.getfield 58, 3) := by decide +kernel
theorem dX8_way_11 : decode cX8_way 11 = .ok (.aload_n 0, 1) := by decide +kernel
theorem dX8_way_12 : decode cX8_way 12 = .ok (.getfield 36, 3) := by decide +kernel
theorem dX8_way_15 : decode cX8_way 15 = .ok (.invokevirtual 117, 3) := by decide +kernel
theorem dX8_way_18 : decode cX8_way 18 = .ok (.aload_n 0, 1) := by decide +kernel
theorem dX8_way_19 : decode cX8_way 19 = .ok (.invokevirtual 213, 3) := by decide +kernel
theorem dX8_way_22 : decode cX8_way 22 = .ok (.aload_n 0, 1) := by decide +kernel
theorem dX8_way_23 : decode cX8_way 23 = .ok (.getfield 103, 3) := by decide +kernel
theorem dX8_way_26 : decode cX8_way 26 = .ok (.invokevirtual 254, 3) := by decide +kernel
theorem dX8_way_29 : decode cX8_way 29 = .ok (.iload_n 1, 1) := by decide +kernel
theorem dX8_way_30 : decode cX8_way 30 = .ok (.iconst (-1), 1) := by decide +kernel
theorem dX8_way_31 : decode cX8_way 31 = .ok (.if_icmp .ne 17, 3) := by decide +kernel
theorem dX8_way_34 : decode cX8_way 34 = .ok (.aload_n 0, 1) := by decide +kernel
theorem dX8_way_35 : decode cX8_way 35 = .ok (.getfield 58, 3) := by decide +kernel
theorem dX8_way_38 : decode cX8_way 38 = .ok (.aload_n 0, 1) := by decide +kernel
theorem dX8_way_39 : decode cX8_way 39 = .ok (.getfield 103, 3) := by decide +kernel
theorem dX8_way_42 : decode cX8_way 42 = .ok (.invokevirtual 257, 3) := by decide +kernel
theorem dX8_way_45 : decode cX8_way 45 = .ok (.goto 15, 3) := by decide +kernel
theorem dX8_way_48 : decode cX8_way 48 = .ok (.aload_n 0, 1) := by decide +kernel
theorem dX8_way_49 : decode cX8_way 49 = .ok (.getfield 58, 3) := by decide +kernel
theorem dX8_way_52 : decode cX8_way 52 = .ok (.aload_n 0, 1) := by decide +kernel
theorem dX8_way_53 : decode cX8_way 53 = .ok (.getfield 103, 3) := by decide +kernel
theorem dX8_way_56 : decode cX8_way 56 = .ok (.iload_n 1, 1) := by decide +kernel
theorem dX8_way_57 : decode cX8_way 57 = .ok (.invokevirtual 260, 3) := by decide +kernel
theorem dX8_way_60 : decode cX8_way 60 = .ok (.ireturn, 1) := by decide +kernel
theorem dX8_from_0 : decode cX8_from 0 = .ok (.aload_n 0, 1) := by decide +kernel
theorem dX8_from_1 : decode cX8_from 1 = .ok (.getfield 10, 3) := by decide +kernel
theorem dX8_from_4 : decode cX8_from 4 = .ok (.iload_n 1, 1) := by decide +kernel
theorem dX8_from_5 : decode cX8_from 5 = .ok (.invokevirtual 124, 3) := by decide +kernel
theorem dX8_from_8 : decode cX8_from 8 = .ok (.ifCond .eq 21, 3) := by decide +kernel
theorem dX8_from_11 : decode cX8_from 11 = .ok (.aload_n 0, 1) := by decide +kernel
theorem dX8_from_12 : decode cX8_from 12 = .ok (.getfield 58, 3) := by decide +kernel
theorem dX8_from_15 : decode cX8_from 15 = .ok (.iload_n 1, 1) := by decide +kernel
theorem dX8_from_16 : decode cX8_from 16 = .ok (.aload_n 0, 1) := by decide +kernel
theorem dX8_from_17 : decode cX8_from 17 = .ok (.getfield 36, 3) := by decide +kernel
theorem dX8_from_20 : decode cX8_from 20 = .ok (.invokevirtual 117, 3) := by decide +kernel
theorem dX8_from_23 : decode cX8_from 23 = .ok (.invokevirtual 263, 3) := by decide +kernel
theorem dX8_from_26 : decode cX8_from 26 = .ok (.goto 4, 3) := by decide +kernel
theorem dX8_from_29 : decode cX8_from 29 = .ok (.iconst (-1), 1) := by decide +kernel
theorem dX8_from_30 : decode cX8_from 30 = .ok (.ireturn, 1) := by decide +kernel
theorem dX8_saw_0 : decode cX8_saw 0 = .ok (.aload_n 0, 1) := by decide +kernel
theorem dX8_saw_1 : decode cX8_saw 1 = .ok (.getfield 10, 3) := by decide +kernel
theorem dX8_saw_4 : decode cX8_saw 4 = .ok (.iload_n 1, 1) := by decide +kernel
theorem dX8_saw_5 : decode cX8_saw 5 = .ok (.invokevirtual 150, 3) := by decide +kernel
theorem dX8_saw_8 : decode cX8_saw 8 = .ok (.ifCond .eq 14, 3) := by decide +kernel
theorem dX8_saw_11 : decode cX8_saw 11 = .ok (.aload_n 0, 1) := by decide +kernel
theorem dX8_saw_12 : decode cX8_saw 12 = .ok (.getfield 10, 3) := by decide +kernel
theorem dX8_saw_15 : decode cX8_saw 15 = .ok (.iload_n 2, 1) := by decide +kernel
theorem dX8_saw_16 : decode cX8_saw 16 = .ok (.invokevirtual 150, 3) := by decide +kernel
theorem dX8_saw_19 : decode cX8_saw 19 = .ok (.ifCond .ne 5, 3) := by decide +kernel
theorem dX8_saw_22 : decode cX8_saw 22 = .ok (.iconst (-1), 1) := by decide +kernel
theorem dX8_saw_23 : decode cX8_saw 23 = .ok (.ireturn, 1) := by decide +kernel
theorem dX8_saw_24 : decode cX8_saw 24 = .ok (.aload_n 0, 1) := by decide +kernel
theorem dX8_saw_25 : decode cX8_saw 25 = .ok (.getfield 65, 3) := by decide +kernel
theorem dX8_saw_28 : decode cX8_saw 28 = .ok (.iload_n 1, 1) := by decide +kernel
theorem dX8_saw_29 : decode cX8_saw 29 = .ok (.iload_n 2, 1) := by decide +kernel
theorem dX8_saw_30 : decode cX8_saw 30 = .ok (.invokevirtual 266, 3) := by decide +kernel
theorem dX8_saw_33 : decode cX8_saw 33 = .ok (.ifCond .eq 13, 3) := by decide +kernel
theorem dX8_saw_36 : decode cX8_saw 36 = .ok (.aload_n 0, 1) := by decide +kernel
theorem dX8_saw_37 : decode cX8_saw 37 = .ok (.getfield 65, 3) := by decide +kernel
theorem dX8_saw_40 : decode cX8_saw 40 = .ok (.getfield 268, 3) := by decide +kernel
theorem dX8_saw_43 : decode cX8_saw 43 = .ok (.goto 5, 3) := by decide +kernel
theorem dX8_saw_46 : decode cX8_saw 46 = .ok (.bipush (-3), 2) := by decide +kernel
theorem dX8_saw_48 : decode cX8_saw 48 = .ok (.ireturn, 1) := by decide +kernel
theorem dX8_forget_0 : decode cX8_forget 0 = .ok (.aload_n 0, 1) := by decide +kernel
theorem dX8_forget_1 : decode cX8_forget 1 = .ok (.getfield 65, 3) := by decide +kernel
theorem dX8_forget_4 : decode cX8_forget 4 = .ok (.invokevirtual 106, 3) := by decide +kernel
theorem dX8_forget_7 : decode cX8_forget 7 = .ok (.ireturn, 1) := by decide +kernel
theorem dX8_fit_0 : decode cX8_fit 0 = .ok (.iload_n 1, 1) := by decide +kernel
theorem dX8_fit_1 : decode cX8_fit 1 = .ok (.tableswitch 72 0 2 #[27, 42, 57], 27) := by decide +kernel
theorem dX8_fit_28 : decode cX8_fit 28 = .ok (.aload_n 0, 1) := by decide +kernel
theorem dX8_fit_29 : decode cX8_fit 29 = .ok (.getfield 65, 3) := by decide +kernel
theorem dX8_fit_32 : decode cX8_fit 32 = .ok (.aload_n 0, 1) := by decide +kernel
theorem dX8_fit_33 : decode cX8_fit 33 = .ok (.getfield 10, 3) := by decide +kernel
theorem dX8_fit_36 : decode cX8_fit 36 = .ok (.getfield 271, 3) := by decide +kernel
theorem dX8_fit_39 : decode cX8_fit 39 = .ok (.invokevirtual 274, 3) := by decide +kernel
theorem dX8_fit_42 : decode cX8_fit 42 = .ok (.ireturn, 1) := by decide +kernel
theorem dX8_fit_43 : decode cX8_fit 43 = .ok (.aload_n 0, 1) := by decide +kernel
theorem dX8_fit_44 : decode cX8_fit 44 = .ok (.getfield 65, 3) := by decide +kernel
theorem dX8_fit_47 : decode cX8_fit 47 = .ok (.aload_n 0, 1) := by decide +kernel
theorem dX8_fit_48 : decode cX8_fit 48 = .ok (.getfield 10, 3) := by decide +kernel
theorem dX8_fit_51 : decode cX8_fit 51 = .ok (.getfield 271, 3) := by decide +kernel
theorem dX8_fit_54 : decode cX8_fit 54 = .ok (.invokevirtual 277, 3) := by decide +kernel
theorem dX8_fit_57 : decode cX8_fit 57 = .ok (.ireturn, 1) := by decide +kernel
theorem dX8_fit_58 : decode cX8_fit 58 = .ok (.aload_n 0, 1) := by decide +kernel
theorem dX8_fit_59 : decode cX8_fit 59 = .ok (.getfield 65, 3) := by decide +kernel
theorem dX8_fit_62 : decode cX8_fit 62 = .ok (.aload_n 0, 1) := by decide +kernel
theorem dX8_fit_63 : decode cX8_fit 63 = .ok (.getfield 10, 3) := by decide +kernel
theorem dX8_fit_66 : decode cX8_fit 66 = .ok (.getfield 271, 3) := by decide +kernel
theorem dX8_fit_69 : decode cX8_fit 69 = .ok (.invokevirtual 280, 3) := by decide +kernel
theorem dX8_fit_72 : decode cX8_fit 72 = .ok (.ireturn, 1) := by decide +kernel
theorem dX8_fit_73 : decode cX8_fit 73 = .ok (.iconst (-1), 1) := by decide +kernel
theorem dX8_fit_74 : decode cX8_fit 74 = .ok (.ireturn, 1) := by decide +kernel
theorem dX8_mark_0 : decode cX8_mark 0 = .ok (.iload_n 1, 1) := by decide +kernel
theorem dX8_mark_1 : decode cX8_mark 1 = .ok (.invokestatic 283, 3) := by decide +kernel
theorem dX8_mark_4 : decode cX8_mark 4 = .ok (.ifCond .eq 14, 3) := by decide +kernel
theorem dX8_mark_7 : decode cX8_mark 7 = .ok (.aload_n 0, 1) := by decide +kernel
theorem dX8_mark_8 : decode cX8_mark 8 = .ok (.getfield 10, 3) := by decide +kernel
theorem dX8_mark_11 : decode cX8_mark 11 = .ok (.iload_n 2, 1) := by decide +kernel
theorem dX8_mark_12 : decode cX8_mark 12 = .ok (.invokevirtual 124, 3) := by decide +kernel
theorem dX8_mark_15 : decode cX8_mark 15 = .ok (.ifCond .ne 7, 3) := by decide +kernel
theorem dX8_mark_18 : decode cX8_mark 18 = .ok (.ldc_w 286, 3) := by decide +kernel
theorem dX8_mark_21 : decode cX8_mark 21 = .ok (.ireturn, 1) := by decide +kernel
theorem dX8_mark_22 : decode cX8_mark 22 = .ok (.aload_n 0, 1) := by decide +kernel
theorem dX8_mark_23 : decode cX8_mark 23 = .ok (.getfield 72, 3) := by decide +kernel
theorem dX8_mark_26 : decode cX8_mark 26 = .ok (.aload_n 0, 1) := by decide +kernel
theorem dX8_mark_27 : decode cX8_mark 27 = .ok (.getfield 10, 3) := by decide +kernel
theorem dX8_mark_30 : decode cX8_mark 30 = .ok (.iload_n 2, 1) := by decide +kernel
theorem dX8_mark_31 : decode cX8_mark 31 = .ok (.aload_n 0, 1) := by decide +kernel
theorem dX8_mark_32 : decode cX8_mark 32 = .ok (.getfield 36, 3) := by decide +kernel
theorem dX8_mark_35 : decode cX8_mark 35 = .ok (.invokevirtual 117, 3) := by decide +kernel
theorem dX8_mark_38 : decode cX8_mark 38 = .ok (.invokevirtual 140, 3) := by decide +kernel
theorem dX8_mark_41 : decode cX8_mark 41 = .ok (.invokestatic 182, 3) := by decide +kernel
theorem dX8_mark_44 : decode cX8_mark 44 = .ok (.putfield 287, 3) := by decide +kernel
theorem dX8_mark_47 : decode cX8_mark 47 = .ok (.aload_n 0, 1) := by decide +kernel
theorem dX8_mark_48 : decode cX8_mark 48 = .ok (.getfield 72, 3) := by decide +kernel
theorem dX8_mark_51 : decode cX8_mark 51 = .ok (.aload_n 0, 1) := by decide +kernel
theorem dX8_mark_52 : decode cX8_mark 52 = .ok (.getfield 10, 3) := by decide +kernel
theorem dX8_mark_55 : decode cX8_mark 55 = .ok (.iload_n 2, 1) := by decide +kernel
theorem dX8_mark_56 : decode cX8_mark 56 = .ok (.invokevirtual 127, 3) := by decide +kernel
theorem dX8_mark_59 : decode cX8_mark 59 = .ok (.putfield 290, 3) := by decide +kernel
theorem dX8_mark_62 : decode cX8_mark 62 = .ok (.aload_n 0, 1) := by decide +kernel
theorem dX8_mark_63 : decode cX8_mark 63 = .ok (.getfield 72, 3) := by decide +kernel
theorem dX8_mark_66 : decode cX8_mark 66 = .ok (.aload_n 0, 1) := by decide +kernel
theorem dX8_mark_67 : decode cX8_mark 67 = .ok (.getfield 10, 3) := by decide +kernel
theorem dX8_mark_70 : decode cX8_mark 70 = .ok (.iload_n 2, 1) := by decide +kernel
theorem dX8_mark_71 : decode cX8_mark 71 = .ok (.invokevirtual 131, 3) := by decide +kernel
theorem dX8_mark_74 : decode cX8_mark 74 = .ok (.putfield 293, 3) := by decide +kernel
theorem dX8_mark_77 : decode cX8_mark 77 = .ok (.aload_n 0, 1) := by decide +kernel
theorem dX8_mark_78 : decode cX8_mark 78 = .ok (.getfield 72, 3) := by decide +kernel
theorem dX8_mark_81 : decode cX8_mark 81 = .ok (.aload_n 0, 1) := by decide +kernel
theorem dX8_mark_82 : decode cX8_mark 82 = .ok (.getfield 36, 3) := by decide +kernel
theorem dX8_mark_85 : decode cX8_mark 85 = .ok (.iload_n 2, 1) := by decide +kernel
theorem dX8_mark_86 : decode cX8_mark 86 = .ok (.invokevirtual 137, 3) := by decide +kernel
theorem dX8_mark_89 : decode cX8_mark 89 = .ok (.putfield 296, 3) := by decide +kernel
theorem dX8_mark_92 : decode cX8_mark 92 = .ok (.aload_n 0, 1) := by decide +kernel
theorem dX8_mark_93 : decode cX8_mark 93 = .ok (.getfield 72, 3) := by decide +kernel
theorem dX8_mark_96 : decode cX8_mark 96 = .ok (.aload_n 0, 1) := by decide +kernel
theorem dX8_mark_97 : decode cX8_mark 97 = .ok (.getfield 36, 3) := by decide +kernel
theorem dX8_mark_100 : decode cX8_mark 100 = .ok (.invokevirtual 156, 3) := by decide +kernel
theorem dX8_mark_103 : decode cX8_mark 103 = .ok (.putfield 299, 3) := by decide +kernel
theorem dX8_mark_106 : decode cX8_mark 106 = .ok (.aload_n 0, 1) := by decide +kernel
theorem dX8_mark_107 : decode cX8_mark 107 = .ok (.getfield 72, 3) := by decide +kernel
theorem dX8_mark_110 : decode cX8_mark 110 = .ok (.iload_n 1, 1) := by decide +kernel
theorem dX8_mark_111 : decode cX8_mark 111 = .ok (.iconst 0, 1) := by decide +kernel
theorem dX8_mark_112 : decode cX8_mark 112 = .ok (.invokevirtual 300, 3) := by decide +kernel
theorem dX8_mark_115 : decode cX8_mark 115 = .ok (.ireturn, 1) := by decide +kernel
theorem dX8_keep_0 : decode cX8_keep 0 = .ok (.iload_n 1, 1) := by decide +kernel
theorem dX8_keep_1 : decode cX8_keep 1 = .ok (.ifCond .ne 22, 3) := by decide +kernel
theorem dX8_keep_4 : decode cX8_keep 4 = .ok (.aload_n 0, 1) := by decide +kernel
theorem dX8_keep_5 : decode cX8_keep 5 = .ok (.getfield 40, 3) := by decide +kernel
theorem dX8_keep_8 : decode cX8_keep 8 = .ok (.aload_n 0, 1) := by decide +kernel
theorem dX8_keep_9 : decode cX8_keep 9 = .ok (.getfield 36, 3) := by decide +kernel
theorem dX8_keep_12 : decode cX8_keep 12 = .ok (.invokevirtual 303, 3) := by decide +kernel
theorem dX8_keep_15 : decode cX8_keep 15 = .ok (.aload_n 0, 1) := by decide +kernel
theorem dX8_keep_16 : decode cX8_keep 16 = .ok (.iconst 1, 1) := by decide +kernel
theorem dX8_keep_17 : decode cX8_keep 17 = .ok (.putfield 107, 3) := by decide +kernel
theorem dX8_keep_20 : decode cX8_keep 20 = .ok (.goto 29, 3) := by decide +kernel
theorem dX8_keep_23 : decode cX8_keep 23 = .ok (.iload_n 1, 1) := by decide +kernel
theorem dX8_keep_24 : decode cX8_keep 24 = .ok (.iconst 1, 1) := by decide +kernel
theorem dX8_keep_25 : decode cX8_keep 25 = .ok (.if_icmp .ne 22, 3) := by decide +kernel
theorem dX8_keep_28 : decode cX8_keep 28 = .ok (.aload_n 0, 1) := by decide +kernel
theorem dX8_keep_29 : decode cX8_keep 29 = .ok (.getfield 43, 3) := by decide +kernel
theorem dX8_keep_32 : decode cX8_keep 32 = .ok (.aload_n 0, 1) := by decide +kernel
theorem dX8_keep_33 : decode cX8_keep 33 = .ok (.getfield 36, 3) := by decide +kernel
theorem dX8_keep_36 : decode cX8_keep 36 = .ok (.invokevirtual 303, 3) := by decide +kernel
theorem dX8_keep_39 : decode cX8_keep 39 = .ok (.aload_n 0, 1) := by decide +kernel
theorem dX8_keep_40 : decode cX8_keep 40 = .ok (.iconst 1, 1) := by decide +kernel
theorem dX8_keep_41 : decode cX8_keep 41 = .ok (.putfield 111, 3) := by decide +kernel
theorem dX8_keep_44 : decode cX8_keep 44 = .ok (.goto 5, 3) := by decide +kernel
theorem dX8_keep_47 : decode cX8_keep 47 = .ok (.iconst (-1), 1) := by decide +kernel
theorem dX8_keep_48 : decode cX8_keep 48 = .ok (.ireturn, 1) := by decide +kernel
theorem dX8_keep_49 : decode cX8_keep 49 = .ok (.aload_n 0, 1) := by decide +kernel
theorem dX8_keep_50 : decode cX8_keep 50 = .ok (.getfield 36, 3) := by decide +kernel
theorem dX8_keep_53 : decode cX8_keep 53 = .ok (.invokevirtual 156, 3) := by decide +kernel
theorem dX8_keep_56 : decode cX8_keep 56 = .ok (.ireturn, 1) := by decide +kernel
theorem dX8_back_0 : decode cX8_back 0 = .ok (.iload_n 1, 1) := by decide +kernel
theorem dX8_back_1 : decode cX8_back 1 = .ok (.ifCond .lt 8, 3) := by decide +kernel
theorem dX8_back_4 : decode cX8_back 4 = .ok (.iload_n 1, 1) := by decide +kernel
theorem dX8_back_5 : decode cX8_back 5 = .ok (.iconst 1, 1) := by decide +kernel
theorem dX8_back_6 : decode cX8_back 6 = .ok (.if_icmp .le 5, 3) := by decide +kernel
theorem dX8_back_9 : decode cX8_back 9 = .ok (.iconst (-1), 1) := by decide +kernel
theorem dX8_back_10 : decode cX8_back 10 = .ok (.ireturn, 1) := by decide +kernel
theorem dX8_back_11 : decode cX8_back 11 = .ok (.iload_n 1, 1) := by decide +kernel
theorem dX8_back_12 : decode cX8_back 12 = .ok (.ifCond .ne 13, 3) := by decide +kernel
theorem dX8_back_15 : decode cX8_back 15 = .ok (.aload_n 0, 1) := by decide +kernel
theorem dX8_back_16 : decode cX8_back 16 = .ok (.getfield 107, 3) := by decide +kernel
theorem dX8_back_19 : decode cX8_back 19 = .ok (.ifCond .ne 16, 3) := by decide +kernel
theorem dX8_back_22 : decode cX8_back 22 = .ok (.goto 10, 3) := by decide +kernel
theorem dX8_back_25 : decode cX8_back 25 = .ok (.aload_n 0, 1) := by decide +kernel
theorem dX8_back_26 : decode cX8_back 26 = .ok (.getfield 111, 3) := by decide +kernel
theorem dX8_back_29 : decode cX8_back 29 = .ok (.ifCond .ne 6, 3) := by decide +kernel
theorem dX8_back_32 : decode cX8_back 32 = .ok (.bipush (-2), 2) := by decide +kernel
theorem dX8_back_34 : decode cX8_back 34 = .ok (.ireturn, 1) := by decide +kernel
theorem dX8_back_35 : decode cX8_back 35 = .ok (.aload_n 0, 1) := by decide +kernel
theorem dX8_back_36 : decode cX8_back 36 = .ok (.getfield 36, 3) := by decide +kernel
theorem dX8_back_39 : decode cX8_back 39 = .ok (.iload_n 1, 1) := by decide +kernel
theorem dX8_back_40 : decode cX8_back 40 = .ok (.ifCond .ne 10, 3) := by decide +kernel
theorem dX8_back_43 : decode cX8_back 43 = .ok (.aload_n 0, 1) := by decide +kernel
theorem dX8_back_44 : decode cX8_back 44 = .ok (.getfield 40, 3) := by decide +kernel
theorem dX8_back_47 : decode cX8_back 47 = .ok (.goto 7, 3) := by decide +kernel
theorem dX8_back_50 : decode cX8_back 50 = .ok (.aload_n 0, 1) := by decide +kernel
theorem dX8_back_51 : decode cX8_back 51 = .ok (.getfield 43, 3) := by decide +kernel
theorem dX8_back_54 : decode cX8_back 54 = .ok (.invokevirtual 303, 3) := by decide +kernel
theorem dX8_back_57 : decode cX8_back 57 = .ok (.aload_n 0, 1) := by decide +kernel
theorem dX8_back_58 : decode cX8_back 58 = .ok (.getfield 36, 3) := by decide +kernel
theorem dX8_back_61 : decode cX8_back 61 = .ok (.invokevirtual 156, 3) := by decide +kernel
theorem dX8_back_64 : decode cX8_back 64 = .ok (.ireturn, 1) := by decide +kernel
theorem dX8_count_0 : decode cX8_count 0 = .ok (.iload_n 1, 1) := by decide +kernel
theorem dX8_count_1 : decode cX8_count 1 = .ok (.tableswitch 99 0 6 #[43, 51, 59, 67, 75, 83, 91], 43) := by decide +kernel
theorem dX8_count_44 : decode cX8_count 44 = .ok (.aload_n 0, 1) := by decide +kernel
theorem dX8_count_45 : decode cX8_count 45 = .ok (.getfield 10, 3) := by decide +kernel
theorem dX8_count_48 : decode cX8_count 48 = .ok (.getfield 271, 3) := by decide +kernel
theorem dX8_count_51 : decode cX8_count 51 = .ok (.ireturn, 1) := by decide +kernel
theorem dX8_count_52 : decode cX8_count 52 = .ok (.aload_n 0, 1) := by decide +kernel
theorem dX8_count_53 : decode cX8_count 53 = .ok (.getfield 10, 3) := by decide +kernel
theorem dX8_count_56 : decode cX8_count 56 = .ok (.getfield 234, 3) := by decide +kernel
theorem dX8_count_59 : decode cX8_count 59 = .ok (.ireturn, 1) := by decide +kernel
theorem dX8_count_60 : decode cX8_count 60 = .ok (.aload_n 0, 1) := by decide +kernel
theorem dX8_count_61 : decode cX8_count 61 = .ok (.getfield 10, 3) := by decide +kernel
theorem dX8_count_64 : decode cX8_count 64 = .ok (.getfield 207, 3) := by decide +kernel
theorem dX8_count_67 : decode cX8_count 67 = .ok (.ireturn, 1) := by decide +kernel
theorem dX8_count_68 : decode cX8_count 68 = .ok (.aload_n 0, 1) := by decide +kernel
theorem dX8_count_69 : decode cX8_count 69 = .ok (.getfield 10, 3) := by decide +kernel
theorem dX8_count_72 : decode cX8_count 72 = .ok (.getfield 307, 3) := by decide +kernel
theorem dX8_count_75 : decode cX8_count 75 = .ok (.ireturn, 1) := by decide +kernel
theorem dX8_count_76 : decode cX8_count 76 = .ok (.aload_n 0, 1) := by decide +kernel
theorem dX8_count_77 : decode cX8_count 77 = .ok (.getfield 65, 3) := by decide +kernel
theorem dX8_count_80 : decode cX8_count 80 = .ok (.getfield 268, 3) := by decide +kernel
theorem dX8_count_83 : decode cX8_count 83 = .ok (.ireturn, 1) := by decide +kernel
theorem dX8_count_84 : decode cX8_count 84 = .ok (.aload_n 0, 1) := by decide +kernel
theorem dX8_count_85 : decode cX8_count 85 = .ok (.getfield 36, 3) := by decide +kernel
theorem dX8_count_88 : decode cX8_count 88 = .ok (.getfield 191, 3) := by decide +kernel
theorem dX8_count_91 : decode cX8_count 91 = .ok (.ireturn, 1) := by decide +kernel
theorem dX8_count_92 : decode cX8_count 92 = .ok (.aload_n 0, 1) := by decide +kernel
theorem dX8_count_93 : decode cX8_count 93 = .ok (.getfield 22, 3) := by decide +kernel
theorem dX8_count_96 : decode cX8_count 96 = .ok (.getfield 80, 3) := by decide +kernel
theorem dX8_count_99 : decode cX8_count 99 = .ok (.ireturn, 1) := by decide +kernel
theorem dX8_count_100 : decode cX8_count 100 = .ok (.iconst (-1), 1) := by decide +kernel
theorem dX8_count_101 : decode cX8_count 101 = .ok (.ireturn, 1) := by decide +kernel
theorem dX8_trace_0 : decode cX8_trace 0 = .ok (.aload_n 0, 1) := by decide +kernel
theorem dX8_trace_1 : decode cX8_trace 1 = .ok (.getfield 72, 3) := by decide +kernel
theorem dX8_trace_4 : decode cX8_trace 4 = .ok (.getfield 310, 3) := by decide +kernel
theorem dX8_trace_7 : decode cX8_trace 7 = .ok (.lreturn, 1) := by decide +kernel
theorem dX9_init_0 : decode cX9_init 0 = .ok (.aload_n 0, 1) := by decide +kernel
theorem dX9_init_1 : decode cX9_init 1 = .ok (.invokespecial 1, 3) := by decide +kernel
theorem dX9_init_4 : decode cX9_init 4 = .ok (.aload_n 0, 1) := by decide +kernel
theorem dX9_init_5 : decode cX9_init 5 = .ok (.bipush 120, 2) := by decide +kernel
theorem dX9_init_7 : decode cX9_init 7 = .ok (.newarray .byte, 2) := by decide +kernel
theorem dX9_init_9 : decode cX9_init 9 = .ok (.putfield 7, 3) := by decide +kernel
theorem dX9_init_12 : decode cX9_init 12 = .ok (.aload_n 0, 1) := by decide +kernel
theorem dX9_init_13 : decode cX9_init 13 = .ok (.iconst 2, 1) := by decide +kernel
theorem dX9_init_14 : decode cX9_init 14 = .ok (.newarray .int, 2) := by decide +kernel
theorem dX9_init_16 : decode cX9_init 16 = .ok (.putfield 13, 3) := by decide +kernel
theorem dX9_init_19 : decode cX9_init 19 = .ok (.aload_n 0, 1) := by decide +kernel
theorem dX9_init_20 : decode cX9_init 20 = .ok (.iconst 2, 1) := by decide +kernel
theorem dX9_init_21 : decode cX9_init 21 = .ok (.newarray .int, 2) := by decide +kernel
theorem dX9_init_23 : decode cX9_init 23 = .ok (.putfield 17, 3) := by decide +kernel
theorem dX9_init_26 : decode cX9_init 26 = .ok (.aload_n 0, 1) := by decide +kernel
theorem dX9_init_27 : decode cX9_init 27 = .ok (.iconst 4, 1) := by decide +kernel
theorem dX9_init_28 : decode cX9_init 28 = .ok (.newarray .int, 2) := by decide +kernel
theorem dX9_init_30 : decode cX9_init 30 = .ok (.putfield 20, 3) := by decide +kernel
theorem dX9_init_33 : decode cX9_init 33 = .ok (.aload_n 0, 1) := by decide +kernel
theorem dX9_init_34 : decode cX9_init 34 = .ok (.iconst 2, 1) := by decide +kernel
theorem dX9_init_35 : decode cX9_init 35 = .ok (.newarray .int, 2) := by decide +kernel
theorem dX9_init_37 : decode cX9_init 37 = .ok (.putfield 23, 3) := by decide +kernel
theorem dX9_init_40 : decode cX9_init 40 = .ok (.aload_n 0, 1) := by decide +kernel
theorem dX9_init_41 : decode cX9_init 41 = .ok (.bipush 12, 2) := by decide +kernel
theorem dX9_init_43 : decode cX9_init 43 = .ok (.newarray .int, 2) := by decide +kernel
theorem dX9_init_45 : decode cX9_init 45 = .ok (.putfield 26, 3) := by decide +kernel
theorem dX9_init_48 : decode cX9_init 48 = .ok (.aload_n 0, 1) := by decide +kernel
theorem dX9_init_49 : decode cX9_init 49 = .ok (.bipush 12, 2) := by decide +kernel
theorem dX9_init_51 : decode cX9_init 51 = .ok (.newarray .int, 2) := by decide +kernel
theorem dX9_init_53 : decode cX9_init 53 = .ok (.putfield 29, 3) := by decide +kernel
theorem dX9_init_56 : decode cX9_init 56 = .ok (.aload_n 0, 1) := by decide +kernel
theorem dX9_init_57 : decode cX9_init 57 = .ok (.iconst 2, 1) := by decide +kernel
theorem dX9_init_58 : decode cX9_init 58 = .ok (.newarray .int, 2) := by decide +kernel
theorem dX9_init_60 : decode cX9_init 60 = .ok (.putfield 32, 3) := by decide +kernel
theorem dX9_init_63 : decode cX9_init 63 = .ok (.aload_n 0, 1) := by decide +kernel
theorem dX9_init_64 : decode cX9_init 64 = .ok (.sipush 300, 3) := by decide +kernel
theorem dX9_init_67 : decode cX9_init 67 = .ok (.newarray .int, 2) := by decide +kernel
theorem dX9_init_69 : decode cX9_init 69 = .ok (.putfield 35, 3) := by decide +kernel
theorem dX9_init_72 : decode cX9_init 72 = .ok (.aload_n 0, 1) := by decide +kernel
theorem dX9_init_73 : decode cX9_init 73 = .ok (.iconst 2, 1) := by decide +kernel
theorem dX9_init_74 : decode cX9_init 74 = .ok (.newarray .boolean, 2) := by decide +kernel
theorem dX9_init_76 : decode cX9_init 76 = .ok (.putfield 38, 3) := by decide +kernel
theorem dX9_init_79 : decode cX9_init 79 = .ok (.aload_n 0, 1) := by decide +kernel
theorem dX9_init_80 : decode cX9_init 80 = .ok (.sipush 625, 3) := by decide +kernel
theorem dX9_init_83 : decode cX9_init 83 = .ok (.newarray .int, 2) := by decide +kernel
theorem dX9_init_85 : decode cX9_init 85 = .ok (.putfield 42, 3) := by decide +kernel
theorem dX9_init_88 : decode cX9_init 88 = .ok (.aload_n 0, 1) := by decide +kernel
theorem dX9_init_89 : decode cX9_init 89 = .ok (.bipush 6, 2) := by decide +kernel
theorem dX9_init_91 : decode cX9_init 91 = .ok (.newarray .int, 2) := by decide +kernel
theorem dX9_init_93 : decode cX9_init 93 = .ok (.putfield 45, 3) := by decide +kernel
theorem dX9_init_96 : decode cX9_init 96 = .ok (.aload_n 0, 1) := by decide +kernel
theorem dX9_init_97 : decode cX9_init 97 = .ok (.bipush 6, 2) := by decide +kernel
theorem dX9_init_99 : decode cX9_init 99 = .ok (.newarray .int, 2) := by decide +kernel
theorem dX9_init_101 : decode cX9_init 101 = .ok (.putfield 48, 3) := by decide +kernel
theorem dX9_init_104 : decode cX9_init 104 = .ok (.aload_n 0, 1) := by decide +kernel
theorem dX9_init_105 : decode cX9_init 105 = .ok (.invokevirtual 51, 3) := by decide +kernel
theorem dX9_init_108 : decode cX9_init 108 = .ok (.aload_n 0, 1) := by decide +kernel
theorem dX9_init_109 : decode cX9_init 109 = .ok (.invokevirtual 54, 3) := by decide +kernel
theorem dX9_init_112 : decode cX9_init 112 = .ok (.return_, 1) := by decide +kernel
theorem dX9_in_0 : decode cX9_in 0 = .ok (.iload_n 0, 1) := by decide +kernel
theorem dX9_in_1 : decode cX9_in 1 = .ok (.iload_n 1, 1) := by decide +kernel
theorem dX9_in_2 : decode cX9_in 2 = .ok (.if_icmp .lt 12, 3) := by decide +kernel
theorem dX9_in_5 : decode cX9_in 5 = .ok (.iload_n 0, 1) := by decide +kernel
theorem dX9_in_6 : decode cX9_in 6 = .ok (.iload_n 2, 1) := by decide +kernel
theorem dX9_in_7 : decode cX9_in 7 = .ok (.if_icmp .gt 7, 3) := by decide +kernel
theorem dX9_in_10 : decode cX9_in 10 = .ok (.iconst 1, 1) := by decide +kernel
theorem dX9_in_11 : decode cX9_in 11 = .ok (.goto 4, 3) := by decide +kernel
theorem dX9_in_14 : decode cX9_in 14 = .ok (.iconst 0, 1) := by decide +kernel
theorem dX9_in_15 : decode cX9_in 15 = .ok (.ireturn, 1) := by decide +kernel
theorem dX9_type_0 : decode cX9_type 0 = .ok (.iload_n 1, 1) := by decide +kernel
theorem dX9_type_1 : decode cX9_type 1 = .ok (.iconst 0, 1) := by decide +kernel
theorem dX9_type_2 : decode cX9_type 2 = .ok (.sipush 255, 3) := by decide +kernel
theorem dX9_type_5 : decode cX9_type 5 = .ok (.invokestatic 57, 3) := by decide +kernel
theorem dX9_type_8 : decode cX9_type 8 = .ok (.ifCond .ne 5, 3) := by decide +kernel
theorem dX9_type_11 : decode cX9_type 11 = .ok (.iconst (-1), 1) := by decide +kernel
theorem dX9_type_12 : decode cX9_type 12 = .ok (.ireturn, 1) := by decide +kernel
theorem dX9_type_13 : decode cX9_type 13 = .ok (.aload_n 0, 1) := by decide +kernel
theorem dX9_type_14 : decode cX9_type 14 = .ok (.getfield 61, 3) := by decide +kernel
theorem dX9_type_17 : decode cX9_type 17 = .ok (.bipush 120, 2) := by decide +kernel
theorem dX9_type_19 : decode cX9_type 19 = .ok (.if_icmp .ne 6, 3) := by decide +kernel
theorem dX9_type_22 : decode cX9_type 22 = .ok (.bipush (-3), 2) := by decide +kernel
theorem dX9_type_24 : decode cX9_type 24 = .ok (.ireturn, 1) := by decide +kernel
theorem dX9_type_25 : decode cX9_type 25 = .ok (.aload_n 0, 1) := by decide +kernel
theorem dX9_type_26 : decode cX9_type 26 = .ok (.getfield 7, 3) := by decide +kernel
theorem dX9_type_29 : decode cX9_type 29 = .ok (.aload_n 0, 1) := by decide +kernel
theorem dX9_type_30 : decode cX9_type 30 = .ok (.getfield 61, 3) := by decide +kernel
theorem dX9_type_33 : decode cX9_type 33 = .ok (.iload_n 1, 1) := by decide +kernel
theorem dX9_type_34 : decode cX9_type 34 = .ok (.i2b, 1) := by decide +kernel
theorem dX9_type_35 : decode cX9_type 35 = .ok (.bastore, 1) := by decide +kernel
theorem dX9_type_36 : decode cX9_type 36 = .ok (.aload_n 0, 1) := by decide +kernel
theorem dX9_type_37 : decode cX9_type 37 = .ok (.dup, 1) := by decide +kernel
theorem dX9_type_38 : decode cX9_type 38 = .ok (.getfield 61, 3) := by decide +kernel
theorem dX9_type_41 : decode cX9_type 41 = .ok (.iconst 1, 1) := by decide +kernel
theorem dX9_type_42 : decode cX9_type 42 = .ok (.iadd, 1) := by decide +kernel
theorem dX9_type_43 : decode cX9_type 43 = .ok (.putfield 61, 3) := by decide +kernel
theorem dX9_type_46 : decode cX9_type 46 = .ok (.aload_n 0, 1) := by decide +kernel
theorem dX9_type_47 : decode cX9_type 47 = .ok (.getfield 61, 3) := by decide +kernel
theorem dX9_type_50 : decode cX9_type 50 = .ok (.ireturn, 1) := by decide +kernel
theorem dX9_clear_0 : decode cX9_clear 0 = .ok (.aload_n 0, 1) := by decide +kernel
theorem dX9_clear_1 : decode cX9_clear 1 = .ok (.getfield 61, 3) := by decide +kernel
theorem dX9_clear_4 : decode cX9_clear 4 = .ok (.istore_n 1, 1) := by decide +kernel
theorem dX9_clear_5 : decode cX9_clear 5 = .ok (.aload_n 0, 1) := by decide +kernel
theorem dX9_clear_6 : decode cX9_clear 6 = .ok (.iconst 0, 1) := by decide +kernel
theorem dX9_clear_7 : decode cX9_clear 7 = .ok (.putfield 61, 3) := by decide +kernel
theorem dX9_clear_10 : decode cX9_clear 10 = .ok (.iload_n 1, 1) := by decide +kernel
theorem dX9_clear_11 : decode cX9_clear 11 = .ok (.ireturn, 1) := by decide +kernel
theorem dX9_here_0 : decode cX9_here 0 = .ok (.aload_n 0, 1) := by decide +kernel
theorem dX9_here_1 : decode cX9_here 1 = .ok (.getfield 65, 3) := by decide +kernel
theorem dX9_here_4 : decode cX9_here 4 = .ok (.aload_n 0, 1) := by decide +kernel
theorem dX9_here_5 : decode cX9_here 5 = .ok (.getfield 61, 3) := by decide +kernel
theorem dX9_here_8 : decode cX9_here 8 = .ok (.if_icmp .ge 19, 3) := by decide +kernel
theorem dX9_here_11 : decode cX9_here 11 = .ok (.aload_n 0, 1) := by decide +kernel
theorem dX9_here_12 : decode cX9_here 12 = .ok (.getfield 7, 3) := by decide +kernel
theorem dX9_here_15 : decode cX9_here 15 = .ok (.aload_n 0, 1) := by decide +kernel
theorem dX9_here_16 : decode cX9_here 16 = .ok (.getfield 65, 3) := by decide +kernel
theorem dX9_here_19 : decode cX9_here 19 = .ok (.baload, 1) := by decide +kernel
theorem dX9_here_20 : decode cX9_here 20 = .ok (.sipush 255, 3) := by decide +kernel
theorem dX9_here_23 : decode cX9_here 23 = .ok (.iand, 1) := by decide +kernel
theorem dX9_here_24 : decode cX9_here 24 = .ok (.goto 4, 3) := by decide +kernel
theorem dX9_here_27 : decode cX9_here 27 = .ok (.iconst (-1), 1) := by decide +kernel
theorem dX9_here_28 : decode cX9_here 28 = .ok (.ireturn, 1) := by decide +kernel
theorem dX9_step_0 : decode cX9_step 0 = .ok (.aload_n 0, 1) := by decide +kernel
theorem dX9_step_1 : decode cX9_step 1 = .ok (.invokevirtual 68, 3) := by decide +kernel
theorem dX9_step_4 : decode cX9_step 4 = .ok (.bipush 32, 2) := by decide +kernel
theorem dX9_step_6 : decode cX9_step 6 = .ok (.if_icmp .ne 16, 3) := by decide +kernel
theorem dX9_step_9 : decode cX9_step 9 = .ok (.aload_n 0, 1) := by decide +kernel
theorem dX9_step_10 : decode cX9_step 10 = .ok (.dup, 1) := by decide +kernel
theorem dX9_step_11 : decode cX9_step 11 = .ok (.getfield 65, 3) := by decide +kernel
theorem dX9_step_14 : decode cX9_step 14 = .ok (.iconst 1, 1) := by decide +kernel
theorem dX9_step_15 : decode cX9_step 15 = .ok (.iadd, 1) := by decide +kernel
theorem dX9_step_16 : decode cX9_step 16 = .ok (.putfield 65, 3) := by decide +kernel
theorem dX9_step_19 : decode cX9_step 19 = .ok (.goto (-19), 3) := by decide +kernel
theorem dX9_step_22 : decode cX9_step 22 = .ok (.aload_n 0, 1) := by decide +kernel
theorem dX9_step_23 : decode cX9_step 23 = .ok (.aload_n 0, 1) := by decide +kernel
theorem dX9_step_24 : decode cX9_step 24 = .ok (.getfield 65, 3) := by decide +kernel
theorem dX9_step_27 : decode cX9_step 27 = .ok (.putfield 72, 3) := by decide +kernel
theorem dX9_step_30 : decode cX9_step 30 = .ok (.aload_n 0, 1) := by decide +kernel
theorem dX9_step_31 : decode cX9_step 31 = .ok (.iconst 0, 1) := by decide +kernel
theorem dX9_step_32 : decode cX9_step 32 = .ok (.putfield 75, 3) := by decide +kernel
theorem dX9_step_35 : decode cX9_step 35 = .ok (.aload_n 0, 1) := by decide +kernel
theorem dX9_step_36 : decode cX9_step 36 = .ok (.invokevirtual 68, 3) := by decide +kernel
theorem dX9_step_39 : decode cX9_step 39 = .ok (.istore_n 1, 1) := by decide +kernel
theorem dX9_step_40 : decode cX9_step 40 = .ok (.iload_n 1, 1) := by decide +kernel
theorem dX9_step_41 : decode cX9_step 41 = .ok (.ifCond .ge 11, 3) := by decide +kernel
theorem dX9_step_44 : decode cX9_step 44 = .ok (.aload_n 0, 1) := by decide +kernel
end
section
theorem dX9_step_45 : decode cX9_step 45 = .ok (.iconst 3, 1) := by decide +kernel
theorem dX9_step_46 : decode cX9_step 46 = .ok (.putfield 78, 3) := by decide +kernel
theorem dX9_step_49 : decode cX9_step 49 = .ok (.goto 204, 3) := by decide +kernel
theorem dX9_step_52 : decode cX9_step 52 = .ok (.iload_n 1, 1) := by decide +kernel
theorem dX9_step_53 : decode cX9_step 53 = .ok (.bipush 97, 2) := by decide +kernel
theorem dX9_step_55 : decode cX9_step 55 = .ok (.bipush 122, 2) := by decide +kernel
theorem dX9_step_57 : decode cX9_step 57 = .ok (.invokestatic 57, 3) := by decide +kernel
theorem dX9_step_60 : decode cX9_step 60 = .ok (.ifCond .eq 55, 3) := by decide +kernel
theorem dX9_step_63 : decode cX9_step 63 = .ok (.aload_n 0, 1) := by decide +kernel
theorem dX9_step_64 : decode cX9_step 64 = .ok (.invokevirtual 68, 3) := by decide +kernel
theorem dX9_step_67 : decode cX9_step 67 = .ok (.bipush 97, 2) := by decide +kernel
theorem dX9_step_69 : decode cX9_step 69 = .ok (.bipush 122, 2) := by decide +kernel
theorem dX9_step_71 : decode cX9_step 71 = .ok (.invokestatic 57, 3) := by decide +kernel
theorem dX9_step_74 : decode cX9_step 74 = .ok (.ifCond .eq 16, 3) := by decide +kernel
theorem dX9_step_77 : decode cX9_step 77 = .ok (.aload_n 0, 1) := by decide +kernel
theorem dX9_step_78 : decode cX9_step 78 = .ok (.dup, 1) := by decide +kernel
theorem dX9_step_79 : decode cX9_step 79 = .ok (.getfield 65, 3) := by decide +kernel
theorem dX9_step_82 : decode cX9_step 82 = .ok (.iconst 1, 1) := by decide +kernel
theorem dX9_step_83 : decode cX9_step 83 = .ok (.iadd, 1) := by decide +kernel
theorem dX9_step_84 : decode cX9_step 84 = .ok (.putfield 65, 3) := by decide +kernel
theorem dX9_step_87 : decode cX9_step 87 = .ok (.goto (-24), 3) := by decide +kernel
theorem dX9_step_90 : decode cX9_step 90 = .ok (.aload_n 0, 1) := by decide +kernel
theorem dX9_step_91 : decode cX9_step 91 = .ok (.aload_n 0, 1) := by decide +kernel
theorem dX9_step_92 : decode cX9_step 92 = .ok (.getfield 65, 3) := by decide +kernel
theorem dX9_step_95 : decode cX9_step 95 = .ok (.aload_n 0, 1) := by decide +kernel
theorem dX9_step_96 : decode cX9_step 96 = .ok (.getfield 72, 3) := by decide +kernel
theorem dX9_step_99 : decode cX9_step 99 = .ok (.isub, 1) := by decide +kernel
theorem dX9_step_100 : decode cX9_step 100 = .ok (.iconst 1, 1) := by decide +kernel
theorem dX9_step_101 : decode cX9_step 101 = .ok (.if_icmp .ne 7, 3) := by decide +kernel
theorem dX9_step_104 : decode cX9_step 104 = .ok (.iload_n 1, 1) := by decide +kernel
theorem dX9_step_105 : decode cX9_step 105 = .ok (.goto 4, 3) := by decide +kernel
theorem dX9_step_108 : decode cX9_step 108 = .ok (.iconst 4, 1) := by decide +kernel
theorem dX9_step_109 : decode cX9_step 109 = .ok (.putfield 78, 3) := by decide +kernel
theorem dX9_step_112 : decode cX9_step 112 = .ok (.goto 141, 3) := by decide +kernel
theorem dX9_step_115 : decode cX9_step 115 = .ok (.iload_n 1, 1) := by decide +kernel
theorem dX9_step_116 : decode cX9_step 116 = .ok (.bipush 48, 2) := by decide +kernel
theorem dX9_step_118 : decode cX9_step 118 = .ok (.bipush 57, 2) := by decide +kernel
theorem dX9_step_120 : decode cX9_step 120 = .ok (.invokestatic 57, 3) := by decide +kernel
theorem dX9_step_123 : decode cX9_step 123 = .ok (.ifCond .eq 105, 3) := by decide +kernel
theorem dX9_step_126 : decode cX9_step 126 = .ok (.aload_n 0, 1) := by decide +kernel
theorem dX9_step_127 : decode cX9_step 127 = .ok (.invokevirtual 68, 3) := by decide +kernel
theorem dX9_step_130 : decode cX9_step 130 = .ok (.bipush 48, 2) := by decide +kernel
theorem dX9_step_132 : decode cX9_step 132 = .ok (.bipush 57, 2) := by decide +kernel
theorem dX9_step_134 : decode cX9_step 134 = .ok (.invokestatic 57, 3) := by decide +kernel
theorem dX9_step_137 : decode cX9_step 137 = .ok (.ifCond .eq 51, 3) := by decide +kernel
theorem dX9_step_140 : decode cX9_step 140 = .ok (.aload_n 0, 1) := by decide +kernel
theorem dX9_step_141 : decode cX9_step 141 = .ok (.aload_n 0, 1) := by decide +kernel
theorem dX9_step_142 : decode cX9_step 142 = .ok (.getfield 75, 3) := by decide +kernel
theorem dX9_step_145 : decode cX9_step 145 = .ok (.bipush 99, 2) := by decide +kernel
theorem dX9_step_147 : decode cX9_step 147 = .ok (.if_icmp .le 10, 3) := by decide +kernel
theorem dX9_step_150 : decode cX9_step 150 = .ok (.aload_n 0, 1) := by decide +kernel
theorem dX9_step_151 : decode cX9_step 151 = .ok (.getfield 75, 3) := by decide +kernel
theorem dX9_step_154 : decode cX9_step 154 = .ok (.goto 18, 3) := by decide +kernel
theorem dX9_step_157 : decode cX9_step 157 = .ok (.bipush 10, 2) := by decide +kernel
theorem dX9_step_159 : decode cX9_step 159 = .ok (.aload_n 0, 1) := by decide +kernel
theorem dX9_step_160 : decode cX9_step 160 = .ok (.getfield 75, 3) := by decide +kernel
theorem dX9_step_163 : decode cX9_step 163 = .ok (.imul, 1) := by decide +kernel
theorem dX9_step_164 : decode cX9_step 164 = .ok (.aload_n 0, 1) := by decide +kernel
theorem dX9_step_165 : decode cX9_step 165 = .ok (.invokevirtual 68, 3) := by decide +kernel
theorem dX9_step_168 : decode cX9_step 168 = .ok (.iadd, 1) := by decide +kernel
theorem dX9_step_169 : decode cX9_step 169 = .ok (.bipush 48, 2) := by decide +kernel
theorem dX9_step_171 : decode cX9_step 171 = .ok (.isub, 1) := by decide +kernel
theorem dX9_step_172 : decode cX9_step 172 = .ok (.putfield 75, 3) := by decide +kernel
theorem dX9_step_175 : decode cX9_step 175 = .ok (.aload_n 0, 1) := by decide +kernel
theorem dX9_step_176 : decode cX9_step 176 = .ok (.dup, 1) := by decide +kernel
theorem dX9_step_177 : decode cX9_step 177 = .ok (.getfield 65, 3) := by decide +kernel
theorem dX9_step_180 : decode cX9_step 180 = .ok (.iconst 1, 1) := by decide +kernel
theorem dX9_step_181 : decode cX9_step 181 = .ok (.iadd, 1) := by decide +kernel
theorem dX9_step_182 : decode cX9_step 182 = .ok (.putfield 65, 3) := by decide +kernel
theorem dX9_step_185 : decode cX9_step 185 = .ok (.goto (-59), 3) := by decide +kernel
theorem dX9_step_188 : decode cX9_step 188 = .ok (.aload_n 0, 1) := by decide +kernel
theorem dX9_step_189 : decode cX9_step 189 = .ok (.aload_n 0, 1) := by decide +kernel
theorem dX9_step_190 : decode cX9_step 190 = .ok (.getfield 75, 3) := by decide +kernel
theorem dX9_step_193 : decode cX9_step 193 = .ok (.bipush 99, 2) := by decide +kernel
theorem dX9_step_195 : decode cX9_step 195 = .ok (.if_icmp .gt 22, 3) := by decide +kernel
theorem dX9_step_198 : decode cX9_step 198 = .ok (.iload_n 1, 1) := by decide +kernel
theorem dX9_step_199 : decode cX9_step 199 = .ok (.bipush 48, 2) := by decide +kernel
theorem dX9_step_201 : decode cX9_step 201 = .ok (.if_icmp .ne 20, 3) := by decide +kernel
theorem dX9_step_204 : decode cX9_step 204 = .ok (.aload_n 0, 1) := by decide +kernel
theorem dX9_step_205 : decode cX9_step 205 = .ok (.getfield 65, 3) := by decide +kernel
theorem dX9_step_208 : decode cX9_step 208 = .ok (.aload_n 0, 1) := by decide +kernel
theorem dX9_step_209 : decode cX9_step 209 = .ok (.getfield 72, 3) := by decide +kernel
theorem dX9_step_212 : decode cX9_step 212 = .ok (.isub, 1) := by decide +kernel
theorem dX9_step_213 : decode cX9_step 213 = .ok (.iconst 1, 1) := by decide +kernel
theorem dX9_step_214 : decode cX9_step 214 = .ok (.if_icmp .le 7, 3) := by decide +kernel
theorem dX9_step_217 : decode cX9_step 217 = .ok (.iconst 4, 1) := by decide +kernel
theorem dX9_step_218 : decode cX9_step 218 = .ok (.goto 4, 3) := by decide +kernel
theorem dX9_step_221 : decode cX9_step 221 = .ok (.iconst 1, 1) := by decide +kernel
theorem dX9_step_222 : decode cX9_step 222 = .ok (.putfield 78, 3) := by decide +kernel
theorem dX9_step_225 : decode cX9_step 225 = .ok (.goto 28, 3) := by decide +kernel
theorem dX9_step_228 : decode cX9_step 228 = .ok (.aload_n 0, 1) := by decide +kernel
theorem dX9_step_229 : decode cX9_step 229 = .ok (.dup, 1) := by decide +kernel
theorem dX9_step_230 : decode cX9_step 230 = .ok (.getfield 65, 3) := by decide +kernel
theorem dX9_step_233 : decode cX9_step 233 = .ok (.iconst 1, 1) := by decide +kernel
theorem dX9_step_234 : decode cX9_step 234 = .ok (.iadd, 1) := by decide +kernel
theorem dX9_step_235 : decode cX9_step 235 = .ok (.putfield 65, 3) := by decide +kernel
theorem dX9_step_238 : decode cX9_step 238 = .ok (.aload_n 0, 1) := by decide +kernel
theorem dX9_step_239 : decode cX9_step 239 = .ok (.iload_n 1, 1) := by decide +kernel
theorem dX9_step_240 : decode cX9_step 240 = .ok (.bipush 59, 2) := by decide +kernel
theorem dX9_step_242 : decode cX9_step 242 = .ok (.if_icmp .ne 7, 3) := by decide +kernel
theorem dX9_step_245 : decode cX9_step 245 = .ok (.iconst 2, 1) := by decide +kernel
theorem dX9_step_246 : decode cX9_step 246 = .ok (.goto 4, 3) := by decide +kernel
theorem dX9_step_249 : decode cX9_step 249 = .ok (.iconst 4, 1) := by decide +kernel
theorem dX9_step_250 : decode cX9_step 250 = .ok (.putfield 78, 3) := by decide +kernel
theorem dX9_step_253 : decode cX9_step 253 = .ok (.return_, 1) := by decide +kernel
theorem dX9_due_0 : decode cX9_due 0 = .ok (.aload_n 0, 1) := by decide +kernel
theorem dX9_due_1 : decode cX9_due 1 = .ok (.getfield 75, 3) := by decide +kernel
theorem dX9_due_4 : decode cX9_due 4 = .ok (.istore_n 2, 1) := by decide +kernel
theorem dX9_due_5 : decode cX9_due 5 = .ok (.aload_n 0, 1) := by decide +kernel
theorem dX9_due_6 : decode cX9_due 6 = .ok (.getfield 81, 3) := by decide +kernel
theorem dX9_due_9 : decode cX9_due 9 = .ok (.bipush (-9), 2) := by decide +kernel
theorem dX9_due_11 : decode cX9_due 11 = .ok (.if_icmp .ne 22, 3) := by decide +kernel
theorem dX9_due_14 : decode cX9_due 14 = .ok (.iload_n 1, 1) := by decide +kernel
theorem dX9_due_15 : decode cX9_due 15 = .ok (.ifCond .eq 10, 3) := by decide +kernel
theorem dX9_due_18 : decode cX9_due 18 = .ok (.aload_n 0, 1) := by decide +kernel
theorem dX9_due_19 : decode cX9_due 19 = .ok (.invokevirtual 84, 3) := by decide +kernel
theorem dX9_due_22 : decode cX9_due 22 = .ok (.goto 11, 3) := by decide +kernel
theorem dX9_due_25 : decode cX9_due 25 = .ok (.aload_n 0, 1) := by decide +kernel
theorem dX9_due_26 : decode cX9_due 26 = .ok (.aload_n 0, 1) := by decide +kernel
theorem dX9_due_27 : decode cX9_due 27 = .ok (.getfield 72, 3) := by decide +kernel
theorem dX9_due_30 : decode cX9_due 30 = .ok (.putfield 81, 3) := by decide +kernel
theorem dX9_due_33 : decode cX9_due 33 = .ok (.iload_n 2, 1) := by decide +kernel
theorem dX9_due_34 : decode cX9_due 34 = .ok (.ireturn, 1) := by decide +kernel
theorem dX9_number_0 : decode cX9_number 0 = .ok (.aload_n 0, 1) := by decide +kernel
theorem dX9_number_1 : decode cX9_number 1 = .ok (.aload_n 0, 1) := by decide +kernel
theorem dX9_number_2 : decode cX9_number 2 = .ok (.getfield 78, 3) := by decide +kernel
theorem dX9_number_5 : decode cX9_number 5 = .ok (.iconst 1, 1) := by decide +kernel
theorem dX9_number_6 : decode cX9_number 6 = .ok (.if_icmp .ne 19, 3) := by decide +kernel
theorem dX9_number_9 : decode cX9_number 9 = .ok (.aload_n 0, 1) := by decide +kernel
theorem dX9_number_10 : decode cX9_number 10 = .ok (.getfield 75, 3) := by decide +kernel
theorem dX9_number_13 : decode cX9_number 13 = .ok (.iload_n 1, 1) := by decide +kernel
theorem dX9_number_14 : decode cX9_number 14 = .ok (.iload_n 2, 1) := by decide +kernel
theorem dX9_number_15 : decode cX9_number 15 = .ok (.invokestatic 57, 3) := by decide +kernel
theorem dX9_number_18 : decode cX9_number 18 = .ok (.ifCond .eq 7, 3) := by decide +kernel
theorem dX9_number_21 : decode cX9_number 21 = .ok (.iconst 1, 1) := by decide +kernel
theorem dX9_number_22 : decode cX9_number 22 = .ok (.goto 4, 3) := by decide +kernel
theorem dX9_number_25 : decode cX9_number 25 = .ok (.iconst 0, 1) := by decide +kernel
theorem dX9_number_26 : decode cX9_number 26 = .ok (.invokevirtual 87, 3) := by decide +kernel
theorem dX9_number_29 : decode cX9_number 29 = .ok (.ireturn, 1) := by decide +kernel
theorem dX9_mayBe_0 : decode cX9_mayBe 0 = .ok (.iload_n 1, 1) := by decide +kernel
theorem dX9_mayBe_1 : decode cX9_mayBe 1 = .ok (.lookupswitch 98 #[(98, 53), (110, 85), (111, 43), (115, 68)], 43) := by decide +kernel
theorem dX9_mayBe_44 : decode cX9_mayBe 44 = .ok (.iload_n 2, 1) := by decide +kernel
theorem dX9_mayBe_45 : decode cX9_mayBe 45 = .ok (.ifCond .ne 7, 3) := by decide +kernel
theorem dX9_mayBe_48 : decode cX9_mayBe 48 = .ok (.iconst 1, 1) := by decide +kernel
theorem dX9_mayBe_49 : decode cX9_mayBe 49 = .ok (.goto 4, 3) := by decide +kernel
theorem dX9_mayBe_52 : decode cX9_mayBe 52 = .ok (.iconst 0, 1) := by decide +kernel
theorem dX9_mayBe_53 : decode cX9_mayBe 53 = .ok (.ireturn, 1) := by decide +kernel
theorem dX9_mayBe_54 : decode cX9_mayBe 54 = .ok (.aload_n 0, 1) := by decide +kernel
theorem dX9_mayBe_55 : decode cX9_mayBe 55 = .ok (.getfield 17, 3) := by decide +kernel
theorem dX9_mayBe_58 : decode cX9_mayBe 58 = .ok (.iconst 1, 1) := by decide +kernel
theorem dX9_mayBe_59 : decode cX9_mayBe 59 = .ok (.iaload, 1) := by decide +kernel
theorem dX9_mayBe_60 : decode cX9_mayBe 60 = .ok (.ifCond .ne 7, 3) := by decide +kernel
theorem dX9_mayBe_63 : decode cX9_mayBe 63 = .ok (.iconst 1, 1) := by decide +kernel
theorem dX9_mayBe_64 : decode cX9_mayBe 64 = .ok (.goto 4, 3) := by decide +kernel
theorem dX9_mayBe_67 : decode cX9_mayBe 67 = .ok (.iconst 0, 1) := by decide +kernel
theorem dX9_mayBe_68 : decode cX9_mayBe 68 = .ok (.ireturn, 1) := by decide +kernel
theorem dX9_mayBe_69 : decode cX9_mayBe 69 = .ok (.aload_n 0, 1) := by decide +kernel
theorem dX9_mayBe_70 : decode cX9_mayBe 70 = .ok (.getfield 23, 3) := by decide +kernel
theorem dX9_mayBe_73 : decode cX9_mayBe 73 = .ok (.iconst 1, 1) := by decide +kernel
theorem dX9_mayBe_74 : decode cX9_mayBe 74 = .ok (.iaload, 1) := by decide +kernel
theorem dX9_mayBe_75 : decode cX9_mayBe 75 = .ok (.bipush 6, 2) := by decide +kernel
theorem dX9_mayBe_77 : decode cX9_mayBe 77 = .ok (.if_icmp .ge 7, 3) := by decide +kernel
theorem dX9_mayBe_80 : decode cX9_mayBe 80 = .ok (.iconst 1, 1) := by decide +kernel
theorem dX9_mayBe_81 : decode cX9_mayBe 81 = .ok (.goto 4, 3) := by decide +kernel
theorem dX9_mayBe_84 : decode cX9_mayBe 84 = .ok (.iconst 0, 1) := by decide +kernel
theorem dX9_mayBe_85 : decode cX9_mayBe 85 = .ok (.ireturn, 1) := by decide +kernel
theorem dX9_mayBe_86 : decode cX9_mayBe 86 = .ok (.aload_n 0, 1) := by decide +kernel
theorem dX9_mayBe_87 : decode cX9_mayBe 87 = .ok (.getfield 91, 3) := by decide +kernel
theorem dX9_mayBe_90 : decode cX9_mayBe 90 = .ok (.ifCond .ne 7, 3) := by decide +kernel
theorem dX9_mayBe_93 : decode cX9_mayBe 93 = .ok (.iconst 1, 1) := by decide +kernel
theorem dX9_mayBe_94 : decode cX9_mayBe 94 = .ok (.goto 4, 3) := by decide +kernel
theorem dX9_mayBe_97 : decode cX9_mayBe 97 = .ok (.iconst 0, 1) := by decide +kernel
theorem dX9_mayBe_98 : decode cX9_mayBe 98 = .ok (.ireturn, 1) := by decide +kernel
theorem dX9_mayBe_99 : decode cX9_mayBe 99 = .ok (.iconst 0, 1) := by decide +kernel
theorem dX9_mayBe_100 : decode cX9_mayBe 100 = .ok (.ireturn, 1) := by decide +kernel
theorem dX9_readRow_0 : decode cX9_readRow 0 = .ok (.iload_n 1, 1) := by decide +kernel
theorem dX9_readRow_1 : decode cX9_readRow 1 = .ok (.lookupswitch 195 #[(98, 50), (111, 35), (115, 140)], 35) := by decide +kernel
theorem dX9_readRow_36 : decode cX9_readRow 36 = .ok (.aload_n 0, 1) := by decide +kernel
theorem dX9_readRow_37 : decode cX9_readRow 37 = .ok (.getfield 13, 3) := by decide +kernel
theorem dX9_readRow_40 : decode cX9_readRow 40 = .ok (.iconst 1, 1) := by decide +kernel
theorem dX9_readRow_41 : decode cX9_readRow 41 = .ok (.aload_n 0, 1) := by decide +kernel
theorem dX9_readRow_42 : decode cX9_readRow 42 = .ok (.iconst 2, 1) := by decide +kernel
theorem dX9_readRow_43 : decode cX9_readRow 43 = .ok (.iconst 5, 1) := by decide +kernel
theorem dX9_readRow_44 : decode cX9_readRow 44 = .ok (.invokevirtual 95, 3) := by decide +kernel
theorem dX9_readRow_47 : decode cX9_readRow 47 = .ok (.iastore, 1) := by decide +kernel
theorem dX9_readRow_48 : decode cX9_readRow 48 = .ok (.goto 165, 3) := by decide +kernel
theorem dX9_readRow_51 : decode cX9_readRow 51 = .ok (.aload_n 0, 1) := by decide +kernel
theorem dX9_readRow_52 : decode cX9_readRow 52 = .ok (.getfield 20, 3) := by decide +kernel
theorem dX9_readRow_55 : decode cX9_readRow 55 = .ok (.iconst 0, 1) := by decide +kernel
theorem dX9_readRow_56 : decode cX9_readRow 56 = .ok (.aload_n 0, 1) := by decide +kernel
theorem dX9_readRow_57 : decode cX9_readRow 57 = .ok (.iconst 0, 1) := by decide +kernel
theorem dX9_readRow_58 : decode cX9_readRow 58 = .ok (.aload_n 0, 1) := by decide +kernel
theorem dX9_readRow_59 : decode cX9_readRow 59 = .ok (.getfield 13, 3) := by decide +kernel
theorem dX9_readRow_62 : decode cX9_readRow 62 = .ok (.iconst 1, 1) := by decide +kernel
theorem dX9_readRow_63 : decode cX9_readRow 63 = .ok (.iaload, 1) := by decide +kernel
theorem dX9_readRow_64 : decode cX9_readRow 64 = .ok (.iconst 1, 1) := by decide +kernel
theorem dX9_readRow_65 : decode cX9_readRow 65 = .ok (.isub, 1) := by decide +kernel
theorem dX9_readRow_66 : decode cX9_readRow 66 = .ok (.invokevirtual 95, 3) := by decide +kernel
theorem dX9_readRow_69 : decode cX9_readRow 69 = .ok (.iastore, 1) := by decide +kernel
theorem dX9_readRow_70 : decode cX9_readRow 70 = .ok (.aload_n 0, 1) := by decide +kernel
theorem dX9_readRow_71 : decode cX9_readRow 71 = .ok (.getfield 17, 3) := by decide +kernel
theorem dX9_readRow_74 : decode cX9_readRow 74 = .ok (.iconst 1, 1) := by decide +kernel
theorem dX9_readRow_75 : decode cX9_readRow 75 = .ok (.iconst 1, 1) := by decide +kernel
theorem dX9_readRow_76 : decode cX9_readRow 76 = .ok (.iastore, 1) := by decide +kernel
theorem dX9_readRow_77 : decode cX9_readRow 77 = .ok (.aload_n 0, 1) := by decide +kernel
theorem dX9_readRow_78 : decode cX9_readRow 78 = .ok (.getfield 81, 3) := by decide +kernel
theorem dX9_readRow_81 : decode cX9_readRow 81 = .ok (.bipush (-9), 2) := by decide +kernel
theorem dX9_readRow_83 : decode cX9_readRow 83 = .ok (.if_icmp .ne 130, 3) := by decide +kernel
theorem dX9_readRow_86 : decode cX9_readRow 86 = .ok (.aload_n 0, 1) := by decide +kernel
theorem dX9_readRow_87 : decode cX9_readRow 87 = .ok (.getfield 78, 3) := by decide +kernel
theorem dX9_readRow_90 : decode cX9_readRow 90 = .ok (.iconst 1, 1) := by decide +kernel
theorem dX9_readRow_91 : decode cX9_readRow 91 = .ok (.if_icmp .ne 122, 3) := by decide +kernel
theorem dX9_readRow_94 : decode cX9_readRow 94 = .ok (.aload_n 0, 1) := by decide +kernel
theorem dX9_readRow_95 : decode cX9_readRow 95 = .ok (.getfield 17, 3) := by decide +kernel
theorem dX9_readRow_98 : decode cX9_readRow 98 = .ok (.iconst 1, 1) := by decide +kernel
theorem dX9_readRow_99 : decode cX9_readRow 99 = .ok (.iaload, 1) := by decide +kernel
theorem dX9_readRow_100 : decode cX9_readRow 100 = .ok (.iconst 4, 1) := by decide +kernel
theorem dX9_readRow_101 : decode cX9_readRow 101 = .ok (.if_icmp .ge 112, 3) := by decide +kernel
theorem dX9_readRow_104 : decode cX9_readRow 104 = .ok (.aload_n 0, 1) := by decide +kernel
theorem dX9_readRow_105 : decode cX9_readRow 105 = .ok (.getfield 20, 3) := by decide +kernel
theorem dX9_readRow_108 : decode cX9_readRow 108 = .ok (.aload_n 0, 1) := by decide +kernel
theorem dX9_readRow_109 : decode cX9_readRow 109 = .ok (.getfield 17, 3) := by decide +kernel
theorem dX9_readRow_112 : decode cX9_readRow 112 = .ok (.iconst 1, 1) := by decide +kernel
theorem dX9_readRow_113 : decode cX9_readRow 113 = .ok (.iaload, 1) := by decide +kernel
theorem dX9_readRow_114 : decode cX9_readRow 114 = .ok (.aload_n 0, 1) := by decide +kernel
theorem dX9_readRow_115 : decode cX9_readRow 115 = .ok (.iconst 0, 1) := by decide +kernel
theorem dX9_readRow_116 : decode cX9_readRow 116 = .ok (.aload_n 0, 1) := by decide +kernel
theorem dX9_readRow_117 : decode cX9_readRow 117 = .ok (.getfield 13, 3) := by decide +kernel
theorem dX9_readRow_120 : decode cX9_readRow 120 = .ok (.iconst 1, 1) := by decide +kernel
theorem dX9_readRow_121 : decode cX9_readRow 121 = .ok (.iaload, 1) := by decide +kernel
theorem dX9_readRow_122 : decode cX9_readRow 122 = .ok (.iconst 1, 1) := by decide +kernel
theorem dX9_readRow_123 : decode cX9_readRow 123 = .ok (.isub, 1) := by decide +kernel
theorem dX9_readRow_124 : decode cX9_readRow 124 = .ok (.invokevirtual 95, 3) := by decide +kernel
theorem dX9_readRow_127 : decode cX9_readRow 127 = .ok (.iastore, 1) := by decide +kernel
theorem dX9_readRow_128 : decode cX9_readRow 128 = .ok (.aload_n 0, 1) := by decide +kernel
theorem dX9_readRow_129 : decode cX9_readRow 129 = .ok (.getfield 17, 3) := by decide +kernel
theorem dX9_readRow_132 : decode cX9_readRow 132 = .ok (.iconst 1, 1) := by decide +kernel
theorem dX9_readRow_133 : decode cX9_readRow 133 = .ok (.dup2, 1) := by decide +kernel
theorem dX9_readRow_134 : decode cX9_readRow 134 = .ok (.iaload, 1) := by decide +kernel
theorem dX9_readRow_135 : decode cX9_readRow 135 = .ok (.iconst 1, 1) := by decide +kernel
theorem dX9_readRow_136 : decode cX9_readRow 136 = .ok (.iadd, 1) := by decide +kernel
theorem dX9_readRow_137 : decode cX9_readRow 137 = .ok (.iastore, 1) := by decide +kernel
theorem dX9_readRow_138 : decode cX9_readRow 138 = .ok (.goto (-61), 3) := by decide +kernel
theorem dX9_readRow_141 : decode cX9_readRow 141 = .ok (.aload_n 0, 1) := by decide +kernel
theorem dX9_readRow_142 : decode cX9_readRow 142 = .ok (.getfield 26, 3) := by decide +kernel
theorem dX9_readRow_145 : decode cX9_readRow 145 = .ok (.bipush 6, 2) := by decide +kernel
theorem dX9_readRow_147 : decode cX9_readRow 147 = .ok (.aload_n 0, 1) := by decide +kernel
theorem dX9_readRow_148 : decode cX9_readRow 148 = .ok (.getfield 23, 3) := by decide +kernel
theorem dX9_readRow_151 : decode cX9_readRow 151 = .ok (.iconst 1, 1) := by decide +kernel
theorem dX9_readRow_152 : decode cX9_readRow 152 = .ok (.iaload, 1) := by decide +kernel
theorem dX9_readRow_153 : decode cX9_readRow 153 = .ok (.iadd, 1) := by decide +kernel
theorem dX9_readRow_154 : decode cX9_readRow 154 = .ok (.aload_n 0, 1) := by decide +kernel
theorem dX9_readRow_155 : decode cX9_readRow 155 = .ok (.iconst 0, 1) := by decide +kernel
theorem dX9_readRow_156 : decode cX9_readRow 156 = .ok (.bipush 6, 2) := by decide +kernel
theorem dX9_readRow_158 : decode cX9_readRow 158 = .ok (.invokevirtual 95, 3) := by decide +kernel
theorem dX9_readRow_161 : decode cX9_readRow 161 = .ok (.iastore, 1) := by decide +kernel
theorem dX9_readRow_162 : decode cX9_readRow 162 = .ok (.aload_n 0, 1) := by decide +kernel
theorem dX9_readRow_163 : decode cX9_readRow 163 = .ok (.getfield 29, 3) := by decide +kernel
theorem dX9_readRow_166 : decode cX9_readRow 166 = .ok (.bipush 6, 2) := by decide +kernel
theorem dX9_readRow_168 : decode cX9_readRow 168 = .ok (.aload_n 0, 1) := by decide +kernel
theorem dX9_readRow_169 : decode cX9_readRow 169 = .ok (.getfield 23, 3) := by decide +kernel
theorem dX9_readRow_172 : decode cX9_readRow 172 = .ok (.iconst 1, 1) := by decide +kernel
theorem dX9_readRow_173 : decode cX9_readRow 173 = .ok (.iaload, 1) := by decide +kernel
theorem dX9_readRow_174 : decode cX9_readRow 174 = .ok (.iadd, 1) := by decide +kernel
theorem dX9_readRow_175 : decode cX9_readRow 175 = .ok (.aload_n 0, 1) := by decide +kernel
theorem dX9_readRow_176 : decode cX9_readRow 176 = .ok (.iconst 0, 1) := by decide +kernel
theorem dX9_readRow_177 : decode cX9_readRow 177 = .ok (.bipush 6, 2) := by decide +kernel
theorem dX9_readRow_179 : decode cX9_readRow 179 = .ok (.invokevirtual 95, 3) := by decide +kernel
theorem dX9_readRow_182 : decode cX9_readRow 182 = .ok (.iastore, 1) := by decide +kernel
theorem dX9_readRow_183 : decode cX9_readRow 183 = .ok (.aload_n 0, 1) := by decide +kernel
theorem dX9_readRow_184 : decode cX9_readRow 184 = .ok (.getfield 23, 3) := by decide +kernel
theorem dX9_readRow_187 : decode cX9_readRow 187 = .ok (.iconst 1, 1) := by decide +kernel
theorem dX9_readRow_188 : decode cX9_readRow 188 = .ok (.dup2, 1) := by decide +kernel
theorem dX9_readRow_189 : decode cX9_readRow 189 = .ok (.iaload, 1) := by decide +kernel
theorem dX9_readRow_190 : decode cX9_readRow 190 = .ok (.iconst 1, 1) := by decide +kernel
theorem dX9_readRow_191 : decode cX9_readRow 191 = .ok (.iadd, 1) := by decide +kernel
theorem dX9_readRow_192 : decode cX9_readRow 192 = .ok (.iastore, 1) := by decide +kernel
theorem dX9_readRow_193 : decode cX9_readRow 193 = .ok (.goto 20, 3) := by decide +kernel
theorem dX9_readRow_196 : decode cX9_readRow 196 = .ok (.aload_n 0, 1) := by decide +kernel
theorem dX9_readRow_197 : decode cX9_readRow 197 = .ok (.getfield 32, 3) := by decide +kernel
theorem dX9_readRow_200 : decode cX9_readRow 200 = .ok (.iconst 1, 1) := by decide +kernel
theorem dX9_readRow_201 : decode cX9_readRow 201 = .ok (.aload_n 0, 1) := by decide +kernel
theorem dX9_readRow_202 : decode cX9_readRow 202 = .ok (.iconst 1, 1) := by decide +kernel
theorem dX9_readRow_203 : decode cX9_readRow 203 = .ok (.iconst 4, 1) := by decide +kernel
theorem dX9_readRow_204 : decode cX9_readRow 204 = .ok (.invokevirtual 95, 3) := by decide +kernel
theorem dX9_readRow_207 : decode cX9_readRow 207 = .ok (.iastore, 1) := by decide +kernel
theorem dX9_readRow_208 : decode cX9_readRow 208 = .ok (.aload_n 0, 1) := by decide +kernel
theorem dX9_readRow_209 : decode cX9_readRow 209 = .ok (.iconst 1, 1) := by decide +kernel
theorem dX9_readRow_210 : decode cX9_readRow 210 = .ok (.putfield 91, 3) := by decide +kernel
theorem dX9_readRow_213 : decode cX9_readRow 213 = .ok (.return_, 1) := by decide +kernel
theorem dX9_plain_0 : decode cX9_plain 0 = .ok (.aload_n 0, 1) := by decide +kernel
theorem dX9_plain_1 : decode cX9_plain 1 = .ok (.getfield 13, 3) := by decide +kernel
theorem dX9_plain_4 : decode cX9_plain 4 = .ok (.iconst 1, 1) := by decide +kernel
theorem dX9_plain_5 : decode cX9_plain 5 = .ok (.iconst 5, 1) := by decide +kernel
theorem dX9_plain_6 : decode cX9_plain 6 = .ok (.iastore, 1) := by decide +kernel
theorem dX9_plain_7 : decode cX9_plain 7 = .ok (.aload_n 0, 1) := by decide +kernel
theorem dX9_plain_8 : decode cX9_plain 8 = .ok (.getfield 17, 3) := by decide +kernel
theorem dX9_plain_11 : decode cX9_plain 11 = .ok (.iconst 1, 1) := by decide +kernel
theorem dX9_plain_12 : decode cX9_plain 12 = .ok (.iconst 0, 1) := by decide +kernel
theorem dX9_plain_13 : decode cX9_plain 13 = .ok (.iastore, 1) := by decide +kernel
theorem dX9_plain_14 : decode cX9_plain 14 = .ok (.aload_n 0, 1) := by decide +kernel
theorem dX9_plain_15 : decode cX9_plain 15 = .ok (.getfield 23, 3) := by decide +kernel
theorem dX9_plain_18 : decode cX9_plain 18 = .ok (.iconst 1, 1) := by decide +kernel
theorem dX9_plain_19 : decode cX9_plain 19 = .ok (.iconst 0, 1) := by decide +kernel
theorem dX9_plain_20 : decode cX9_plain 20 = .ok (.iastore, 1) := by decide +kernel
theorem dX9_plain_21 : decode cX9_plain 21 = .ok (.aload_n 0, 1) := by decide +kernel
theorem dX9_plain_22 : decode cX9_plain 22 = .ok (.getfield 32, 3) := by decide +kernel
theorem dX9_plain_25 : decode cX9_plain 25 = .ok (.iconst 1, 1) := by decide +kernel
theorem dX9_plain_26 : decode cX9_plain 26 = .ok (.iconst 1, 1) := by decide +kernel
theorem dX9_plain_27 : decode cX9_plain 27 = .ok (.iastore, 1) := by decide +kernel
theorem dX9_plain_28 : decode cX9_plain 28 = .ok (.aload_n 0, 1) := by decide +kernel
theorem dX9_plain_29 : decode cX9_plain 29 = .ok (.iconst 0, 1) := by decide +kernel
theorem dX9_plain_30 : decode cX9_plain 30 = .ok (.putfield 91, 3) := by decide +kernel
theorem dX9_plain_33 : decode cX9_plain 33 = .ok (.return_, 1) := by decide +kernel
theorem dX9_takeDraft_0 : decode cX9_takeDraft 0 = .ok (.aload_n 0, 1) := by decide +kernel
theorem dX9_takeDraft_1 : decode cX9_takeDraft 1 = .ok (.getfield 13, 3) := by decide +kernel
theorem dX9_takeDraft_4 : decode cX9_takeDraft 4 = .ok (.iconst 0, 1) := by decide +kernel
theorem dX9_takeDraft_5 : decode cX9_takeDraft 5 = .ok (.aload_n 0, 1) := by decide +kernel
theorem dX9_takeDraft_6 : decode cX9_takeDraft 6 = .ok (.getfield 13, 3) := by decide +kernel
theorem dX9_takeDraft_9 : decode cX9_takeDraft 9 = .ok (.iconst 1, 1) := by decide +kernel
theorem dX9_takeDraft_10 : decode cX9_takeDraft 10 = .ok (.iaload, 1) := by decide +kernel
theorem dX9_takeDraft_11 : decode cX9_takeDraft 11 = .ok (.iastore, 1) := by decide +kernel
theorem dX9_takeDraft_12 : decode cX9_takeDraft 12 = .ok (.aload_n 0, 1) := by decide +kernel
theorem dX9_takeDraft_13 : decode cX9_takeDraft 13 = .ok (.getfield 17, 3) := by decide +kernel
theorem dX9_takeDraft_16 : decode cX9_takeDraft 16 = .ok (.iconst 0, 1) := by decide +kernel
theorem dX9_takeDraft_17 : decode cX9_takeDraft 17 = .ok (.aload_n 0, 1) := by decide +kernel
theorem dX9_takeDraft_18 : decode cX9_takeDraft 18 = .ok (.getfield 17, 3) := by decide +kernel
theorem dX9_takeDraft_21 : decode cX9_takeDraft 21 = .ok (.iconst 1, 1) := by decide +kernel
theorem dX9_takeDraft_22 : decode cX9_takeDraft 22 = .ok (.iaload, 1) := by decide +kernel
theorem dX9_takeDraft_23 : decode cX9_takeDraft 23 = .ok (.iastore, 1) := by decide +kernel
theorem dX9_takeDraft_24 : decode cX9_takeDraft 24 = .ok (.aload_n 0, 1) := by decide +kernel
theorem dX9_takeDraft_25 : decode cX9_takeDraft 25 = .ok (.getfield 23, 3) := by decide +kernel
theorem dX9_takeDraft_28 : decode cX9_takeDraft 28 = .ok (.iconst 0, 1) := by decide +kernel
theorem dX9_takeDraft_29 : decode cX9_takeDraft 29 = .ok (.aload_n 0, 1) := by decide +kernel
theorem dX9_takeDraft_30 : decode cX9_takeDraft 30 = .ok (.getfield 23, 3) := by decide +kernel
theorem dX9_takeDraft_33 : decode cX9_takeDraft 33 = .ok (.iconst 1, 1) := by decide +kernel
theorem dX9_takeDraft_34 : decode cX9_takeDraft 34 = .ok (.iaload, 1) := by decide +kernel
theorem dX9_takeDraft_35 : decode cX9_takeDraft 35 = .ok (.iastore, 1) := by decide +kernel
theorem dX9_takeDraft_36 : decode cX9_takeDraft 36 = .ok (.aload_n 0, 1) := by decide +kernel
theorem dX9_takeDraft_37 : decode cX9_takeDraft 37 = .ok (.getfield 32, 3) := by decide +kernel
theorem dX9_takeDraft_40 : decode cX9_takeDraft 40 = .ok (.iconst 0, 1) := by decide +kernel
theorem dX9_takeDraft_41 : decode cX9_takeDraft 41 = .ok (.aload_n 0, 1) := by decide +kernel
theorem dX9_takeDraft_42 : decode cX9_takeDraft 42 = .ok (.getfield 32, 3) := by decide +kernel
theorem dX9_takeDraft_45 : decode cX9_takeDraft 45 = .ok (.iconst 1, 1) := by decide +kernel
theorem dX9_takeDraft_46 : decode cX9_takeDraft 46 = .ok (.iaload, 1) := by decide +kernel
theorem dX9_takeDraft_47 : decode cX9_takeDraft 47 = .ok (.iastore, 1) := by decide +kernel
theorem dX9_takeDraft_48 : decode cX9_takeDraft 48 = .ok (.iconst 0, 1) := by decide +kernel
theorem dX9_takeDraft_49 : decode cX9_takeDraft 49 = .ok (.istore_n 1, 1) := by decide +kernel
theorem dX9_takeDraft_50 : decode cX9_takeDraft 50 = .ok (.iload_n 1, 1) := by decide +kernel
theorem dX9_takeDraft_51 : decode cX9_takeDraft 51 = .ok (.bipush 6, 2) := by decide +kernel
theorem dX9_takeDraft_53 : decode cX9_takeDraft 53 = .ok (.if_icmp .ge 39, 3) := by decide +kernel
theorem dX9_takeDraft_56 : decode cX9_takeDraft 56 = .ok (.aload_n 0, 1) := by decide +kernel
theorem dX9_takeDraft_57 : decode cX9_takeDraft 57 = .ok (.getfield 26, 3) := by decide +kernel
theorem dX9_takeDraft_60 : decode cX9_takeDraft 60 = .ok (.iload_n 1, 1) := by decide +kernel
theorem dX9_takeDraft_61 : decode cX9_takeDraft 61 = .ok (.aload_n 0, 1) := by decide +kernel
theorem dX9_takeDraft_62 : decode cX9_takeDraft 62 = .ok (.getfield 26, 3) := by decide +kernel
theorem dX9_takeDraft_65 : decode cX9_takeDraft 65 = .ok (.bipush 6, 2) := by decide +kernel
theorem dX9_takeDraft_67 : decode cX9_takeDraft 67 = .ok (.iload_n 1, 1) := by decide +kernel
theorem dX9_takeDraft_68 : decode cX9_takeDraft 68 = .ok (.iadd, 1) := by decide +kernel
theorem dX9_takeDraft_69 : decode cX9_takeDraft 69 = .ok (.iaload, 1) := by decide +kernel
theorem dX9_takeDraft_70 : decode cX9_takeDraft 70 = .ok (.iastore, 1) := by decide +kernel
theorem dX9_takeDraft_71 : decode cX9_takeDraft 71 = .ok (.aload_n 0, 1) := by decide +kernel
theorem dX9_takeDraft_72 : decode cX9_takeDraft 72 = .ok (.getfield 29, 3) := by decide +kernel
theorem dX9_takeDraft_75 : decode cX9_takeDraft 75 = .ok (.iload_n 1, 1) := by decide +kernel
theorem dX9_takeDraft_76 : decode cX9_takeDraft 76 = .ok (.aload_n 0, 1) := by decide +kernel
theorem dX9_takeDraft_77 : decode cX9_takeDraft 77 = .ok (.getfield 29, 3) := by decide +kernel
theorem dX9_takeDraft_80 : decode cX9_takeDraft 80 = .ok (.bipush 6, 2) := by decide +kernel
theorem dX9_takeDraft_82 : decode cX9_takeDraft 82 = .ok (.iload_n 1, 1) := by decide +kernel
theorem dX9_takeDraft_83 : decode cX9_takeDraft 83 = .ok (.iadd, 1) := by decide +kernel
theorem dX9_takeDraft_84 : decode cX9_takeDraft 84 = .ok (.iaload, 1) := by decide +kernel
theorem dX9_takeDraft_85 : decode cX9_takeDraft 85 = .ok (.iastore, 1) := by decide +kernel
theorem dX9_takeDraft_86 : decode cX9_takeDraft 86 = .ok (.iinc 1 1, 3) := by decide +kernel
theorem dX9_takeDraft_89 : decode cX9_takeDraft 89 = .ok (.goto (-39), 3) := by decide +kernel
theorem dX9_takeDraft_92 : decode cX9_takeDraft 92 = .ok (.iconst 0, 1) := by decide +kernel
theorem dX9_takeDraft_93 : decode cX9_takeDraft 93 = .ok (.istore_n 1, 1) := by decide +kernel
theorem dX9_takeDraft_94 : decode cX9_takeDraft 94 = .ok (.iload_n 1, 1) := by decide +kernel
theorem dX9_takeDraft_95 : decode cX9_takeDraft 95 = .ok (.bipush 9, 2) := by decide +kernel
theorem dX9_takeDraft_97 : decode cX9_takeDraft 97 = .ok (.if_icmp .ge 16, 3) := by decide +kernel
theorem dX9_takeDraft_100 : decode cX9_takeDraft 100 = .ok (.aload_n 0, 1) := by decide +kernel
theorem dX9_takeDraft_101 : decode cX9_takeDraft 101 = .ok (.getfield 35, 3) := by decide +kernel
theorem dX9_takeDraft_104 : decode cX9_takeDraft 104 = .ok (.iload_n 1, 1) := by decide +kernel
theorem dX9_takeDraft_105 : decode cX9_takeDraft 105 = .ok (.iconst 0, 1) := by decide +kernel
theorem dX9_takeDraft_106 : decode cX9_takeDraft 106 = .ok (.iastore, 1) := by decide +kernel
theorem dX9_takeDraft_107 : decode cX9_takeDraft 107 = .ok (.iinc 1 1, 3) := by decide +kernel
theorem dX9_takeDraft_110 : decode cX9_takeDraft 110 = .ok (.goto (-16), 3) := by decide +kernel
theorem dX9_takeDraft_113 : decode cX9_takeDraft 113 = .ok (.iconst 0, 1) := by decide +kernel
theorem dX9_takeDraft_114 : decode cX9_takeDraft 114 = .ok (.istore_n 1, 1) := by decide +kernel
theorem dX9_takeDraft_115 : decode cX9_takeDraft 115 = .ok (.iload_n 1, 1) := by decide +kernel
theorem dX9_takeDraft_116 : decode cX9_takeDraft 116 = .ok (.aload_n 0, 1) := by decide +kernel
theorem dX9_takeDraft_117 : decode cX9_takeDraft 117 = .ok (.getfield 17, 3) := by decide +kernel
theorem dX9_takeDraft_120 : decode cX9_takeDraft 120 = .ok (.iconst 0, 1) := by decide +kernel
theorem dX9_takeDraft_121 : decode cX9_takeDraft 121 = .ok (.iaload, 1) := by decide +kernel
theorem dX9_takeDraft_122 : decode cX9_takeDraft 122 = .ok (.if_icmp .ge 35, 3) := by decide +kernel
theorem dX9_takeDraft_125 : decode cX9_takeDraft 125 = .ok (.aload_n 0, 1) := by decide +kernel
theorem dX9_takeDraft_126 : decode cX9_takeDraft 126 = .ok (.getfield 35, 3) := by decide +kernel
theorem dX9_takeDraft_129 : decode cX9_takeDraft 129 = .ok (.iconst 0, 1) := by decide +kernel
theorem dX9_takeDraft_130 : decode cX9_takeDraft 130 = .ok (.aload_n 0, 1) := by decide +kernel
theorem dX9_takeDraft_131 : decode cX9_takeDraft 131 = .ok (.getfield 35, 3) := by decide +kernel
theorem dX9_takeDraft_134 : decode cX9_takeDraft 134 = .ok (.iconst 0, 1) := by decide +kernel
theorem dX9_takeDraft_135 : decode cX9_takeDraft 135 = .ok (.iaload, 1) := by decide +kernel
theorem dX9_takeDraft_136 : decode cX9_takeDraft 136 = .ok (.aload_n 0, 1) := by decide +kernel
theorem dX9_takeDraft_137 : decode cX9_takeDraft 137 = .ok (.getfield 13, 3) := by decide +kernel
theorem dX9_takeDraft_140 : decode cX9_takeDraft 140 = .ok (.iconst 0, 1) := by decide +kernel
theorem dX9_takeDraft_141 : decode cX9_takeDraft 141 = .ok (.iaload, 1) := by decide +kernel
theorem dX9_takeDraft_142 : decode cX9_takeDraft 142 = .ok (.imul, 1) := by decide +kernel
theorem dX9_takeDraft_143 : decode cX9_takeDraft 143 = .ok (.aload_n 0, 1) := by decide +kernel
theorem dX9_takeDraft_144 : decode cX9_takeDraft 144 = .ok (.getfield 20, 3) := by decide +kernel
theorem dX9_takeDraft_147 : decode cX9_takeDraft 147 = .ok (.iload_n 1, 1) := by decide +kernel
theorem dX9_takeDraft_148 : decode cX9_takeDraft 148 = .ok (.iaload, 1) := by decide +kernel
theorem dX9_takeDraft_149 : decode cX9_takeDraft 149 = .ok (.iadd, 1) := by decide +kernel
theorem dX9_takeDraft_150 : decode cX9_takeDraft 150 = .ok (.iastore, 1) := by decide +kernel
theorem dX9_takeDraft_151 : decode cX9_takeDraft 151 = .ok (.iinc 1 1, 3) := by decide +kernel
theorem dX9_takeDraft_154 : decode cX9_takeDraft 154 = .ok (.goto (-39), 3) := by decide +kernel
theorem dX9_takeDraft_157 : decode cX9_takeDraft 157 = .ok (.aload_n 0, 1) := by decide +kernel
theorem dX9_takeDraft_158 : decode cX9_takeDraft 158 = .ok (.aload_n 0, 1) := by decide +kernel
theorem dX9_takeDraft_159 : decode cX9_takeDraft 159 = .ok (.getfield 35, 3) := by decide +kernel
theorem dX9_takeDraft_162 : decode cX9_takeDraft 162 = .ok (.iconst 0, 1) := by decide +kernel
theorem dX9_takeDraft_163 : decode cX9_takeDraft 163 = .ok (.iaload, 1) := by decide +kernel
theorem dX9_takeDraft_164 : decode cX9_takeDraft 164 = .ok (.putfield 99, 3) := by decide +kernel
theorem dX9_takeDraft_167 : decode cX9_takeDraft 167 = .ok (.aload_n 0, 1) := by decide +kernel
theorem dX9_takeDraft_168 : decode cX9_takeDraft 168 = .ok (.getfield 35, 3) := by decide +kernel
theorem dX9_takeDraft_171 : decode cX9_takeDraft 171 = .ok (.bipush 9, 2) := by decide +kernel
theorem dX9_takeDraft_173 : decode cX9_takeDraft 173 = .ok (.iconst 0, 1) := by decide +kernel
theorem dX9_takeDraft_174 : decode cX9_takeDraft 174 = .ok (.iastore, 1) := by decide +kernel
theorem dX9_takeDraft_175 : decode cX9_takeDraft 175 = .ok (.aload_n 0, 1) := by decide +kernel
theorem dX9_takeDraft_176 : decode cX9_takeDraft 176 = .ok (.iconst 0, 1) := by decide +kernel
theorem dX9_takeDraft_177 : decode cX9_takeDraft 177 = .ok (.putfield 102, 3) := by decide +kernel
theorem dX9_takeDraft_180 : decode cX9_takeDraft 180 = .ok (.aload_n 0, 1) := by decide +kernel
theorem dX9_takeDraft_181 : decode cX9_takeDraft 181 = .ok (.getfield 38, 3) := by decide +kernel
theorem dX9_takeDraft_184 : decode cX9_takeDraft 184 = .ok (.iconst 0, 1) := by decide +kernel
theorem dX9_takeDraft_185 : decode cX9_takeDraft 185 = .ok (.iconst 0, 1) := by decide +kernel
theorem dX9_takeDraft_186 : decode cX9_takeDraft 186 = .ok (.bastore, 1) := by decide +kernel
theorem dX9_takeDraft_187 : decode cX9_takeDraft 187 = .ok (.aload_n 0, 1) := by decide +kernel
theorem dX9_takeDraft_188 : decode cX9_takeDraft 188 = .ok (.getfield 38, 3) := by decide +kernel
theorem dX9_takeDraft_191 : decode cX9_takeDraft 191 = .ok (.iconst 1, 1) := by decide +kernel
theorem dX9_takeDraft_192 : decode cX9_takeDraft 192 = .ok (.iconst 0, 1) := by decide +kernel
theorem dX9_takeDraft_193 : decode cX9_takeDraft 193 = .ok (.bastore, 1) := by decide +kernel
theorem dX9_takeDraft_194 : decode cX9_takeDraft 194 = .ok (.return_, 1) := by decide +kernel
theorem dX9_house_0 : decode cX9_house 0 = .ok (.aload_n 0, 1) := by decide +kernel
theorem dX9_house_1 : decode cX9_house 1 = .ok (.iconst 0, 1) := by decide +kernel
theorem dX9_house_2 : decode cX9_house 2 = .ok (.putfield 65, 3) := by decide +kernel
theorem dX9_house_5 : decode cX9_house 5 = .ok (.aload_n 0, 1) := by decide +kernel
theorem dX9_house_6 : decode cX9_house 6 = .ok (.bipush (-9), 2) := by decide +kernel
theorem dX9_house_8 : decode cX9_house 8 = .ok (.putfield 81, 3) := by decide +kernel
theorem dX9_house_11 : decode cX9_house 11 = .ok (.aload_n 0, 1) := by decide +kernel
theorem dX9_house_12 : decode cX9_house 12 = .ok (.invokevirtual 51, 3) := by decide +kernel
theorem dX9_house_15 : decode cX9_house 15 = .ok (.iconst 0, 1) := by decide +kernel
theorem dX9_house_16 : decode cX9_house 16 = .ok (.istore_n 1, 1) := by decide +kernel
theorem dX9_house_17 : decode cX9_house 17 = .ok (.aload_n 0, 1) := by decide +kernel
theorem dX9_house_18 : decode cX9_house 18 = .ok (.invokevirtual 84, 3) := by decide +kernel
theorem dX9_house_21 : decode cX9_house 21 = .ok (.aload_n 0, 1) := by decide +kernel
theorem dX9_house_22 : decode cX9_house 22 = .ok (.getfield 81, 3) := by decide +kernel
theorem dX9_house_25 : decode cX9_house 25 = .ok (.bipush (-9), 2) := by decide +kernel
theorem dX9_house_27 : decode cX9_house 27 = .ok (.if_icmp .ne 65, 3) := by decide +kernel
theorem dX9_house_30 : decode cX9_house 30 = .ok (.aload_n 0, 1) := by decide +kernel
theorem dX9_house_31 : decode cX9_house 31 = .ok (.getfield 78, 3) := by decide +kernel
theorem dX9_house_34 : decode cX9_house 34 = .ok (.iconst 3, 1) := by decide +kernel
theorem dX9_house_35 : decode cX9_house 35 = .ok (.if_icmp .eq 57, 3) := by decide +kernel
theorem dX9_house_38 : decode cX9_house 38 = .ok (.aload_n 0, 1) := by decide +kernel
theorem dX9_house_39 : decode cX9_house 39 = .ok (.getfield 78, 3) := by decide +kernel
theorem dX9_house_42 : decode cX9_house 42 = .ok (.istore_n 2, 1) := by decide +kernel
theorem dX9_house_43 : decode cX9_house 43 = .ok (.aload_n 0, 1) := by decide +kernel
theorem dX9_house_44 : decode cX9_house 44 = .ok (.aload_n 0, 1) := by decide +kernel
theorem dX9_house_45 : decode cX9_house 45 = .ok (.iload_n 2, 1) := by decide +kernel
theorem dX9_house_46 : decode cX9_house 46 = .ok (.iload_n 1, 1) := by decide +kernel
theorem dX9_house_47 : decode cX9_house 47 = .ok (.invokevirtual 105, 3) := by decide +kernel
theorem dX9_house_50 : decode cX9_house 50 = .ok (.invokevirtual 87, 3) := by decide +kernel
theorem dX9_house_53 : decode cX9_house 53 = .ok (.pop, 1) := by decide +kernel
theorem dX9_house_54 : decode cX9_house 54 = .ok (.aload_n 0, 1) := by decide +kernel
theorem dX9_house_55 : decode cX9_house 55 = .ok (.getfield 81, 3) := by decide +kernel
theorem dX9_house_58 : decode cX9_house 58 = .ok (.bipush (-9), 2) := by decide +kernel
theorem dX9_house_60 : decode cX9_house 60 = .ok (.if_icmp .ne 29, 3) := by decide +kernel
theorem dX9_house_63 : decode cX9_house 63 = .ok (.aload_n 0, 1) := by decide +kernel
theorem dX9_house_64 : decode cX9_house 64 = .ok (.iload_n 2, 1) := by decide +kernel
theorem dX9_house_65 : decode cX9_house 65 = .ok (.invokevirtual 109, 3) := by decide +kernel
theorem dX9_house_68 : decode cX9_house 68 = .ok (.aload_n 0, 1) := by decide +kernel
theorem dX9_house_69 : decode cX9_house 69 = .ok (.aload_n 0, 1) := by decide +kernel
theorem dX9_house_70 : decode cX9_house 70 = .ok (.getfield 78, 3) := by decide +kernel
theorem dX9_house_73 : decode cX9_house 73 = .ok (.iconst 2, 1) := by decide +kernel
theorem dX9_house_74 : decode cX9_house 74 = .ok (.if_icmp .ne 7, 3) := by decide +kernel
theorem dX9_house_77 : decode cX9_house 77 = .ok (.iconst 1, 1) := by decide +kernel
theorem dX9_house_78 : decode cX9_house 78 = .ok (.goto 4, 3) := by decide +kernel
theorem dX9_house_81 : decode cX9_house 81 = .ok (.iconst 0, 1) := by decide +kernel
theorem dX9_house_82 : decode cX9_house 82 = .ok (.invokevirtual 87, 3) := by decide +kernel
theorem dX9_house_85 : decode cX9_house 85 = .ok (.pop, 1) := by decide +kernel
theorem dX9_house_86 : decode cX9_house 86 = .ok (.iinc 1 1, 3) := by decide +kernel
theorem dX9_house_89 : decode cX9_house 89 = .ok (.goto (-68), 3) := by decide +kernel
theorem dX9_house_92 : decode cX9_house 92 = .ok (.aload_n 0, 1) := by decide +kernel
theorem dX9_house_93 : decode cX9_house 93 = .ok (.getfield 81, 3) := by decide +kernel
theorem dX9_house_96 : decode cX9_house 96 = .ok (.bipush (-9), 2) := by decide +kernel
theorem dX9_house_98 : decode cX9_house 98 = .ok (.if_icmp .eq 11, 3) := by decide +kernel
theorem dX9_house_101 : decode cX9_house 101 = .ok (.bipush (-10), 2) := by decide +kernel
theorem dX9_house_103 : decode cX9_house 103 = .ok (.aload_n 0, 1) := by decide +kernel
theorem dX9_house_104 : decode cX9_house 104 = .ok (.getfield 81, 3) := by decide +kernel
theorem dX9_house_107 : decode cX9_house 107 = .ok (.isub, 1) := by decide +kernel
theorem dX9_house_108 : decode cX9_house 108 = .ok (.ireturn, 1) := by decide +kernel
theorem dX9_house_109 : decode cX9_house 109 = .ok (.aload_n 0, 1) := by decide +kernel
theorem dX9_house_110 : decode cX9_house 110 = .ok (.invokevirtual 54, 3) := by decide +kernel
theorem dX9_house_113 : decode cX9_house 113 = .ok (.aload_n 0, 1) := by decide +kernel
theorem dX9_house_114 : decode cX9_house 114 = .ok (.iconst 0, 1) := by decide +kernel
theorem dX9_house_115 : decode cX9_house 115 = .ok (.putfield 61, 3) := by decide +kernel
theorem dX9_house_118 : decode cX9_house 118 = .ok (.iload_n 1, 1) := by decide +kernel
theorem dX9_house_119 : decode cX9_house 119 = .ok (.ireturn, 1) := by decide +kernel
theorem dX9_isScribe_0 : decode cX9_isScribe 0 = .ok (.iload_n 1, 1) := by decide +kernel
theorem dX9_isScribe_1 : decode cX9_isScribe 1 = .ok (.iconst 0, 1) := by decide +kernel
theorem dX9_isScribe_2 : decode cX9_isScribe 2 = .ok (.aload_n 0, 1) := by decide +kernel
theorem dX9_isScribe_3 : decode cX9_isScribe 3 = .ok (.getfield 23, 3) := by decide +kernel
theorem dX9_isScribe_6 : decode cX9_isScribe 6 = .ok (.iconst 0, 1) := by decide +kernel
theorem dX9_isScribe_7 : decode cX9_isScribe 7 = .ok (.iaload, 1) := by decide +kernel
theorem dX9_isScribe_8 : decode cX9_isScribe 8 = .ok (.iconst 1, 1) := by decide +kernel
theorem dX9_isScribe_9 : decode cX9_isScribe 9 = .ok (.isub, 1) := by decide +kernel
theorem dX9_isScribe_10 : decode cX9_isScribe 10 = .ok (.invokestatic 57, 3) := by decide +kernel
theorem dX9_isScribe_13 : decode cX9_isScribe 13 = .ok (.ireturn, 1) := by decide +kernel
theorem dX9_isLine_0 : decode cX9_isLine 0 = .ok (.iload_n 1, 1) := by decide +kernel
theorem dX9_isLine_1 : decode cX9_isLine 1 = .ok (.iconst 0, 1) := by decide +kernel
theorem dX9_isLine_2 : decode cX9_isLine 2 = .ok (.aload_n 0, 1) := by decide +kernel
theorem dX9_isLine_3 : decode cX9_isLine 3 = .ok (.getfield 17, 3) := by decide +kernel
theorem dX9_isLine_6 : decode cX9_isLine 6 = .ok (.iconst 0, 1) := by decide +kernel
theorem dX9_isLine_7 : decode cX9_isLine 7 = .ok (.iaload, 1) := by decide +kernel
theorem dX9_isLine_8 : decode cX9_isLine 8 = .ok (.iconst 1, 1) := by decide +kernel
theorem dX9_isLine_9 : decode cX9_isLine 9 = .ok (.isub, 1) := by decide +kernel
theorem dX9_isLine_10 : decode cX9_isLine 10 = .ok (.invokestatic 57, 3) := by decide +kernel
theorem dX9_isLine_13 : decode cX9_isLine 13 = .ok (.ireturn, 1) := by decide +kernel
theorem dX9_isOpinion_0 : decode cX9_isOpinion 0 = .ok (.iload_n 1, 1) := by decide +kernel
theorem dX9_isOpinion_1 : decode cX9_isOpinion 1 = .ok (.iconst 0, 1) := by decide +kernel
theorem dX9_isOpinion_2 : decode cX9_isOpinion 2 = .ok (.aload_n 0, 1) := by decide +kernel
theorem dX9_isOpinion_3 : decode cX9_isOpinion 3 = .ok (.getfield 13, 3) := by decide +kernel
theorem dX9_isOpinion_6 : decode cX9_isOpinion 6 = .ok (.iconst 0, 1) := by decide +kernel
theorem dX9_isOpinion_7 : decode cX9_isOpinion 7 = .ok (.iaload, 1) := by decide +kernel
theorem dX9_isOpinion_8 : decode cX9_isOpinion 8 = .ok (.iconst 1, 1) := by decide +kernel
theorem dX9_isOpinion_9 : decode cX9_isOpinion 9 = .ok (.isub, 1) := by decide +kernel
theorem dX9_isOpinion_10 : decode cX9_isOpinion 10 = .ok (.invokestatic 57, 3) := by decide +kernel
theorem dX9_isOpinion_13 : decode cX9_isOpinion 13 = .ok (.ireturn, 1) := by decide +kernel
theorem dX9_books_0 : decode cX9_books 0 = .ok (.iconst 1, 1) := by decide +kernel
theorem dX9_books_1 : decode cX9_books 1 = .ok (.istore_n 1, 1) := by decide +kernel
theorem dX9_books_2 : decode cX9_books 2 = .ok (.iconst 0, 1) := by decide +kernel
theorem dX9_books_3 : decode cX9_books 3 = .ok (.istore_n 2, 1) := by decide +kernel
theorem dX9_books_4 : decode cX9_books 4 = .ok (.iload_n 2, 1) := by decide +kernel
theorem dX9_books_5 : decode cX9_books 5 = .ok (.aload_n 0, 1) := by decide +kernel
theorem dX9_books_6 : decode cX9_books 6 = .ok (.getfield 17, 3) := by decide +kernel
theorem dX9_books_9 : decode cX9_books 9 = .ok (.iconst 0, 1) := by decide +kernel
theorem dX9_books_10 : decode cX9_books 10 = .ok (.iaload, 1) := by decide +kernel
theorem dX9_books_11 : decode cX9_books 11 = .ok (.if_icmp .ge 18, 3) := by decide +kernel
theorem dX9_books_14 : decode cX9_books 14 = .ok (.iload_n 1, 1) := by decide +kernel
theorem dX9_books_15 : decode cX9_books 15 = .ok (.aload_n 0, 1) := by decide +kernel
theorem dX9_books_16 : decode cX9_books 16 = .ok (.getfield 13, 3) := by decide +kernel
theorem dX9_books_19 : decode cX9_books 19 = .ok (.iconst 0, 1) := by decide +kernel
theorem dX9_books_20 : decode cX9_books 20 = .ok (.iaload, 1) := by decide +kernel
theorem dX9_books_21 : decode cX9_books 21 = .ok (.imul, 1) := by decide +kernel
theorem dX9_books_22 : decode cX9_books 22 = .ok (.istore_n 1, 1) := by decide +kernel
theorem dX9_books_23 : decode cX9_books 23 = .ok (.iinc 2 1, 3) := by decide +kernel
theorem dX9_books_26 : decode cX9_books 26 = .ok (.goto (-22), 3) := by decide +kernel
theorem dX9_books_29 : decode cX9_books 29 = .ok (.iload_n 1, 1) := by decide +kernel
theorem dX9_books_30 : decode cX9_books 30 = .ok (.ireturn, 1) := by decide +kernel
theorem dX9_lineOf_0 : decode cX9_lineOf 0 = .ok (.iload_n 1, 1) := by decide +kernel
theorem dX9_lineOf_1 : decode cX9_lineOf 1 = .ok (.istore_n 3, 1) := by decide +kernel
theorem dX9_lineOf_2 : decode cX9_lineOf 2 = .ok (.aload_n 0, 1) := by decide +kernel
theorem dX9_lineOf_3 : decode cX9_lineOf 3 = .ok (.getfield 17, 3) := by decide +kernel
theorem dX9_lineOf_6 : decode cX9_lineOf 6 = .ok (.iconst 0, 1) := by decide +kernel
theorem dX9_lineOf_7 : decode cX9_lineOf 7 = .ok (.iaload, 1) := by decide +kernel
theorem dX9_lineOf_8 : decode cX9_lineOf 8 = .ok (.iconst 1, 1) := by decide +kernel
theorem dX9_lineOf_9 : decode cX9_lineOf 9 = .ok (.isub, 1) := by decide +kernel
theorem dX9_lineOf_10 : decode cX9_lineOf 10 = .ok (.istore 4, 2) := by decide +kernel
theorem dX9_lineOf_12 : decode cX9_lineOf 12 = .ok (.iload 4, 2) := by decide +kernel
theorem dX9_lineOf_14 : decode cX9_lineOf 14 = .ok (.iload_n 2, 1) := by decide +kernel
theorem dX9_lineOf_15 : decode cX9_lineOf 15 = .ok (.if_icmp .le 18, 3) := by decide +kernel
theorem dX9_lineOf_18 : decode cX9_lineOf 18 = .ok (.iload_n 3, 1) := by decide +kernel
theorem dX9_lineOf_19 : decode cX9_lineOf 19 = .ok (.aload_n 0, 1) := by decide +kernel
theorem dX9_lineOf_20 : decode cX9_lineOf 20 = .ok (.getfield 13, 3) := by decide +kernel
theorem dX9_lineOf_23 : decode cX9_lineOf 23 = .ok (.iconst 0, 1) := by decide +kernel
theorem dX9_lineOf_24 : decode cX9_lineOf 24 = .ok (.iaload, 1) := by decide +kernel
theorem dX9_lineOf_25 : decode cX9_lineOf 25 = .ok (.idiv, 1) := by decide +kernel
theorem dX9_lineOf_26 : decode cX9_lineOf 26 = .ok (.istore_n 3, 1) := by decide +kernel
theorem dX9_lineOf_27 : decode cX9_lineOf 27 = .ok (.iinc 4 (-1), 3) := by decide +kernel
theorem dX9_lineOf_30 : decode cX9_lineOf 30 = .ok (.goto (-18), 3) := by decide +kernel
theorem dX9_lineOf_33 : decode cX9_lineOf 33 = .ok (.iload_n 3, 1) := by decide +kernel
theorem dX9_lineOf_34 : decode cX9_lineOf 34 = .ok (.aload_n 0, 1) := by decide +kernel
theorem dX9_lineOf_35 : decode cX9_lineOf 35 = .ok (.getfield 13, 3) := by decide +kernel
theorem dX9_lineOf_38 : decode cX9_lineOf 38 = .ok (.iconst 0, 1) := by decide +kernel
theorem dX9_lineOf_39 : decode cX9_lineOf 39 = .ok (.iaload, 1) := by decide +kernel
theorem dX9_lineOf_40 : decode cX9_lineOf 40 = .ok (.irem, 1) := by decide +kernel
theorem dX9_lineOf_41 : decode cX9_lineOf 41 = .ok (.ireturn, 1) := by decide +kernel
theorem dX9_saysOf_0 : decode cX9_saysOf 0 = .ok (.aload_n 0, 1) := by decide +kernel
theorem dX9_saysOf_1 : decode cX9_saysOf 1 = .ok (.getfield 26, 3) := by decide +kernel
theorem dX9_saysOf_4 : decode cX9_saysOf 4 = .ok (.iload_n 1, 1) := by decide +kernel
theorem dX9_saysOf_5 : decode cX9_saysOf 5 = .ok (.iaload, 1) := by decide +kernel
theorem dX9_saysOf_6 : decode cX9_saysOf 6 = .ok (.iload_n 2, 1) := by decide +kernel
theorem dX9_saysOf_7 : decode cX9_saysOf 7 = .ok (.imul, 1) := by decide +kernel
theorem dX9_saysOf_8 : decode cX9_saysOf 8 = .ok (.aload_n 0, 1) := by decide +kernel
theorem dX9_saysOf_9 : decode cX9_saysOf 9 = .ok (.getfield 29, 3) := by decide +kernel
theorem dX9_saysOf_12 : decode cX9_saysOf 12 = .ok (.iload_n 1, 1) := by decide +kernel
theorem dX9_saysOf_13 : decode cX9_saysOf 13 = .ok (.iaload, 1) := by decide +kernel
theorem dX9_saysOf_14 : decode cX9_saysOf 14 = .ok (.iadd, 1) := by decide +kernel
theorem dX9_saysOf_15 : decode cX9_saysOf 15 = .ok (.aload_n 0, 1) := by decide +kernel
theorem dX9_saysOf_16 : decode cX9_saysOf 16 = .ok (.getfield 13, 3) := by decide +kernel
theorem dX9_saysOf_19 : decode cX9_saysOf 19 = .ok (.iconst 0, 1) := by decide +kernel
theorem dX9_saysOf_20 : decode cX9_saysOf 20 = .ok (.iaload, 1) := by decide +kernel
theorem dX9_saysOf_21 : decode cX9_saysOf 21 = .ok (.irem, 1) := by decide +kernel
theorem dX9_saysOf_22 : decode cX9_saysOf 22 = .ok (.ireturn, 1) := by decide +kernel
theorem dX9_copyOf_0 : decode cX9_copyOf 0 = .ok (.iconst 0, 1) := by decide +kernel
theorem dX9_copyOf_1 : decode cX9_copyOf 1 = .ok (.istore_n 3, 1) := by decide +kernel
theorem dX9_copyOf_2 : decode cX9_copyOf 2 = .ok (.iconst 0, 1) := by decide +kernel
theorem dX9_copyOf_3 : decode cX9_copyOf 3 = .ok (.istore 4, 2) := by decide +kernel
theorem dX9_copyOf_5 : decode cX9_copyOf 5 = .ok (.iload 4, 2) := by decide +kernel
theorem dX9_copyOf_7 : decode cX9_copyOf 7 = .ok (.aload_n 0, 1) := by decide +kernel
theorem dX9_copyOf_8 : decode cX9_copyOf 8 = .ok (.getfield 17, 3) := by decide +kernel
theorem dX9_copyOf_11 : decode cX9_copyOf 11 = .ok (.iconst 0, 1) := by decide +kernel
theorem dX9_copyOf_12 : decode cX9_copyOf 12 = .ok (.iaload, 1) := by decide +kernel
theorem dX9_copyOf_13 : decode cX9_copyOf 13 = .ok (.if_icmp .ge 31, 3) := by decide +kernel
theorem dX9_copyOf_16 : decode cX9_copyOf 16 = .ok (.iload_n 3, 1) := by decide +kernel
theorem dX9_copyOf_17 : decode cX9_copyOf 17 = .ok (.aload_n 0, 1) := by decide +kernel
theorem dX9_copyOf_18 : decode cX9_copyOf 18 = .ok (.getfield 13, 3) := by decide +kernel
theorem dX9_copyOf_21 : decode cX9_copyOf 21 = .ok (.iconst 0, 1) := by decide +kernel
theorem dX9_copyOf_22 : decode cX9_copyOf 22 = .ok (.iaload, 1) := by decide +kernel
theorem dX9_copyOf_23 : decode cX9_copyOf 23 = .ok (.imul, 1) := by decide +kernel
theorem dX9_copyOf_24 : decode cX9_copyOf 24 = .ok (.aload_n 0, 1) := by decide +kernel
theorem dX9_copyOf_25 : decode cX9_copyOf 25 = .ok (.iload_n 1, 1) := by decide +kernel
theorem dX9_copyOf_26 : decode cX9_copyOf 26 = .ok (.aload_n 0, 1) := by decide +kernel
theorem dX9_copyOf_27 : decode cX9_copyOf 27 = .ok (.iload_n 2, 1) := by decide +kernel
theorem dX9_copyOf_28 : decode cX9_copyOf 28 = .ok (.iload 4, 2) := by decide +kernel
theorem dX9_copyOf_30 : decode cX9_copyOf 30 = .ok (.invokevirtual 113, 3) := by decide +kernel
theorem dX9_copyOf_33 : decode cX9_copyOf 33 = .ok (.invokevirtual 116, 3) := by decide +kernel
theorem dX9_copyOf_36 : decode cX9_copyOf 36 = .ok (.iadd, 1) := by decide +kernel
theorem dX9_copyOf_37 : decode cX9_copyOf 37 = .ok (.istore_n 3, 1) := by decide +kernel
theorem dX9_copyOf_38 : decode cX9_copyOf 38 = .ok (.iinc 4 1, 3) := by decide +kernel
theorem dX9_copyOf_41 : decode cX9_copyOf 41 = .ok (.goto (-36), 3) := by decide +kernel
theorem dX9_copyOf_44 : decode cX9_copyOf 44 = .ok (.iload_n 3, 1) := by decide +kernel
theorem dX9_copyOf_45 : decode cX9_copyOf 45 = .ok (.ireturn, 1) := by decide +kernel
theorem dX9_disagrees_0 : decode cX9_disagrees 0 = .ok (.iconst 0, 1) := by decide +kernel
theorem dX9_disagrees_1 : decode cX9_disagrees 1 = .ok (.istore_n 3, 1) := by decide +kernel
theorem dX9_disagrees_2 : decode cX9_disagrees 2 = .ok (.iconst 0, 1) := by decide +kernel
theorem dX9_disagrees_3 : decode cX9_disagrees 3 = .ok (.istore 4, 2) := by decide +kernel
theorem dX9_disagrees_5 : decode cX9_disagrees 5 = .ok (.iload 4, 2) := by decide +kernel
theorem dX9_disagrees_7 : decode cX9_disagrees 7 = .ok (.aload_n 0, 1) := by decide +kernel
theorem dX9_disagrees_8 : decode cX9_disagrees 8 = .ok (.getfield 17, 3) := by decide +kernel
theorem dX9_disagrees_11 : decode cX9_disagrees 11 = .ok (.iconst 0, 1) := by decide +kernel
theorem dX9_disagrees_12 : decode cX9_disagrees 12 = .ok (.iaload, 1) := by decide +kernel
theorem dX9_disagrees_13 : decode cX9_disagrees 13 = .ok (.if_icmp .ge 42, 3) := by decide +kernel
theorem dX9_disagrees_16 : decode cX9_disagrees 16 = .ok (.iload_n 3, 1) := by decide +kernel
theorem dX9_disagrees_17 : decode cX9_disagrees 17 = .ok (.aload_n 0, 1) := by decide +kernel
theorem dX9_disagrees_18 : decode cX9_disagrees 18 = .ok (.iload_n 1, 1) := by decide +kernel
theorem dX9_disagrees_19 : decode cX9_disagrees 19 = .ok (.aload_n 0, 1) := by decide +kernel
theorem dX9_disagrees_20 : decode cX9_disagrees 20 = .ok (.iload_n 2, 1) := by decide +kernel
theorem dX9_disagrees_21 : decode cX9_disagrees 21 = .ok (.iload 4, 2) := by decide +kernel
theorem dX9_disagrees_23 : decode cX9_disagrees 23 = .ok (.invokevirtual 113, 3) := by decide +kernel
theorem dX9_disagrees_26 : decode cX9_disagrees 26 = .ok (.invokevirtual 116, 3) := by decide +kernel
theorem dX9_disagrees_29 : decode cX9_disagrees 29 = .ok (.aload_n 0, 1) := by decide +kernel
theorem dX9_disagrees_30 : decode cX9_disagrees 30 = .ok (.iload_n 2, 1) := by decide +kernel
theorem dX9_disagrees_31 : decode cX9_disagrees 31 = .ok (.iload 4, 2) := by decide +kernel
theorem dX9_disagrees_33 : decode cX9_disagrees 33 = .ok (.invokevirtual 113, 3) := by decide +kernel
theorem dX9_disagrees_36 : decode cX9_disagrees 36 = .ok (.if_icmp .ne 7, 3) := by decide +kernel
theorem dX9_disagrees_39 : decode cX9_disagrees 39 = .ok (.iconst 0, 1) := by decide +kernel
theorem dX9_disagrees_40 : decode cX9_disagrees 40 = .ok (.goto 7, 3) := by decide +kernel
theorem dX9_disagrees_43 : decode cX9_disagrees 43 = .ok (.iconst 1, 1) := by decide +kernel
theorem dX9_disagrees_44 : decode cX9_disagrees 44 = .ok (.iload 4, 2) := by decide +kernel
theorem dX9_disagrees_46 : decode cX9_disagrees 46 = .ok (.ishl, 1) := by decide +kernel
theorem dX9_disagrees_47 : decode cX9_disagrees 47 = .ok (.ior, 1) := by decide +kernel
theorem dX9_disagrees_48 : decode cX9_disagrees 48 = .ok (.istore_n 3, 1) := by decide +kernel
theorem dX9_disagrees_49 : decode cX9_disagrees 49 = .ok (.iinc 4 1, 3) := by decide +kernel
theorem dX9_disagrees_52 : decode cX9_disagrees 52 = .ok (.goto (-47), 3) := by decide +kernel
theorem dX9_disagrees_55 : decode cX9_disagrees 55 = .ok (.iload_n 3, 1) := by decide +kernel
theorem dX9_disagrees_56 : decode cX9_disagrees 56 = .ok (.ireturn, 1) := by decide +kernel
theorem dX9_manyOf_0 : decode cX9_manyOf 0 = .ok (.iconst 0, 1) := by decide +kernel
theorem dX9_manyOf_1 : decode cX9_manyOf 1 = .ok (.istore_n 1, 1) := by decide +kernel
theorem dX9_manyOf_2 : decode cX9_manyOf 2 = .ok (.iconst 0, 1) := by decide +kernel
theorem dX9_manyOf_3 : decode cX9_manyOf 3 = .ok (.istore_n 2, 1) := by decide +kernel
theorem dX9_manyOf_4 : decode cX9_manyOf 4 = .ok (.iload_n 2, 1) := by decide +kernel
theorem dX9_manyOf_5 : decode cX9_manyOf 5 = .ok (.bipush 6, 2) := by decide +kernel
theorem dX9_manyOf_7 : decode cX9_manyOf 7 = .ok (.if_icmp .ge 17, 3) := by decide +kernel
theorem dX9_manyOf_10 : decode cX9_manyOf 10 = .ok (.iload_n 1, 1) := by decide +kernel
theorem dX9_manyOf_11 : decode cX9_manyOf 11 = .ok (.iload_n 0, 1) := by decide +kernel
theorem dX9_manyOf_12 : decode cX9_manyOf 12 = .ok (.iload_n 2, 1) := by decide +kernel
theorem dX9_manyOf_13 : decode cX9_manyOf 13 = .ok (.ishr, 1) := by decide +kernel
theorem dX9_manyOf_14 : decode cX9_manyOf 14 = .ok (.iconst 1, 1) := by decide +kernel
theorem dX9_manyOf_15 : decode cX9_manyOf 15 = .ok (.iand, 1) := by decide +kernel
theorem dX9_manyOf_16 : decode cX9_manyOf 16 = .ok (.iadd, 1) := by decide +kernel
theorem dX9_manyOf_17 : decode cX9_manyOf 17 = .ok (.istore_n 1, 1) := by decide +kernel
theorem dX9_manyOf_18 : decode cX9_manyOf 18 = .ok (.iinc 2 1, 3) := by decide +kernel
theorem dX9_manyOf_21 : decode cX9_manyOf 21 = .ok (.goto (-17), 3) := by decide +kernel
theorem dX9_manyOf_24 : decode cX9_manyOf 24 = .ok (.iload_n 1, 1) := by decide +kernel
theorem dX9_manyOf_25 : decode cX9_manyOf 25 = .ok (.ireturn, 1) := by decide +kernel
theorem dX9_isConvinced_0 : decode cX9_isConvinced 0 = .ok (.aload_n 0, 1) := by decide +kernel
theorem dX9_isConvinced_1 : decode cX9_isConvinced 1 = .ok (.iload_n 1, 1) := by decide +kernel
theorem dX9_isConvinced_2 : decode cX9_isConvinced 2 = .ok (.iload_n 2, 1) := by decide +kernel
theorem dX9_isConvinced_3 : decode cX9_isConvinced 3 = .ok (.invokevirtual 119, 3) := by decide +kernel
theorem dX9_isConvinced_6 : decode cX9_isConvinced 6 = .ok (.invokestatic 122, 3) := by decide +kernel
theorem dX9_isConvinced_9 : decode cX9_isConvinced 9 = .ok (.aload_n 0, 1) := by decide +kernel
theorem dX9_isConvinced_10 : decode cX9_isConvinced 10 = .ok (.getfield 32, 3) := by decide +kernel
theorem dX9_isConvinced_13 : decode cX9_isConvinced 13 = .ok (.iconst 0, 1) := by decide +kernel
theorem dX9_isConvinced_14 : decode cX9_isConvinced 14 = .ok (.iaload, 1) := by decide +kernel
theorem dX9_isConvinced_15 : decode cX9_isConvinced 15 = .ok (.if_icmp .ge 7, 3) := by decide +kernel
theorem dX9_isConvinced_18 : decode cX9_isConvinced 18 = .ok (.iconst 1, 1) := by decide +kernel
theorem dX9_isConvinced_19 : decode cX9_isConvinced 19 = .ok (.goto 4, 3) := by decide +kernel
theorem dX9_isConvinced_22 : decode cX9_isConvinced 22 = .ok (.iconst 0, 1) := by decide +kernel
theorem dX9_isConvinced_23 : decode cX9_isConvinced 23 = .ok (.ireturn, 1) := by decide +kernel
theorem dX9_comes_0 : decode cX9_comes 0 = .ok (.aload_n 0, 1) := by decide +kernel
theorem dX9_comes_1 : decode cX9_comes 1 = .ok (.getfield 35, 3) := by decide +kernel
theorem dX9_comes_4 : decode cX9_comes 4 = .ok (.iconst 0, 1) := by decide +kernel
theorem dX9_comes_5 : decode cX9_comes 5 = .ok (.iaload, 1) := by decide +kernel
theorem dX9_comes_6 : decode cX9_comes 6 = .ok (.istore_n 2, 1) := by decide +kernel
theorem dX9_comes_7 : decode cX9_comes 7 = .ok (.iconst 1, 1) := by decide +kernel
theorem dX9_comes_8 : decode cX9_comes 8 = .ok (.istore_n 3, 1) := by decide +kernel
theorem dX9_comes_9 : decode cX9_comes 9 = .ok (.iload_n 3, 1) := by decide +kernel
theorem dX9_comes_10 : decode cX9_comes 10 = .ok (.sipush 4000, 3) := by decide +kernel
theorem dX9_comes_13 : decode cX9_comes 13 = .ok (.if_icmp .gt 28, 3) := by decide +kernel
theorem dX9_comes_16 : decode cX9_comes 16 = .ok (.aload_n 0, 1) := by decide +kernel
theorem dX9_comes_17 : decode cX9_comes 17 = .ok (.iload_n 1, 1) := by decide +kernel
theorem dX9_comes_18 : decode cX9_comes 18 = .ok (.iload_n 2, 1) := by decide +kernel
theorem dX9_comes_19 : decode cX9_comes 19 = .ok (.invokevirtual 126, 3) := by decide +kernel
theorem dX9_comes_22 : decode cX9_comes 22 = .ok (.istore_n 2, 1) := by decide +kernel
theorem dX9_comes_23 : decode cX9_comes 23 = .ok (.iload_n 2, 1) := by decide +kernel
theorem dX9_comes_24 : decode cX9_comes 24 = .ok (.aload_n 0, 1) := by decide +kernel
theorem dX9_comes_25 : decode cX9_comes 25 = .ok (.getfield 35, 3) := by decide +kernel
theorem dX9_comes_28 : decode cX9_comes 28 = .ok (.iconst 0, 1) := by decide +kernel
theorem dX9_comes_29 : decode cX9_comes 29 = .ok (.iaload, 1) := by decide +kernel
theorem dX9_comes_30 : decode cX9_comes 30 = .ok (.if_icmp .ne 5, 3) := by decide +kernel
theorem dX9_comes_33 : decode cX9_comes 33 = .ok (.iload_n 3, 1) := by decide +kernel
theorem dX9_comes_34 : decode cX9_comes 34 = .ok (.ireturn, 1) := by decide +kernel
theorem dX9_comes_35 : decode cX9_comes 35 = .ok (.iinc 3 1, 3) := by decide +kernel
theorem dX9_comes_38 : decode cX9_comes 38 = .ok (.goto (-29), 3) := by decide +kernel
theorem dX9_comes_41 : decode cX9_comes 41 = .ok (.bipush (-9), 2) := by decide +kernel
theorem dX9_comes_43 : decode cX9_comes 43 = .ok (.ireturn, 1) := by decide +kernel
theorem dX9_line_0 : decode cX9_line 0 = .ok (.aload_n 0, 1) := by decide +kernel
theorem dX9_line_1 : decode cX9_line 1 = .ok (.iload_n 1, 1) := by decide +kernel
theorem dX9_line_2 : decode cX9_line 2 = .ok (.invokevirtual 129, 3) := by decide +kernel
theorem dX9_line_5 : decode cX9_line 5 = .ok (.ifCond .eq 12, 3) := by decide +kernel
theorem dX9_line_8 : decode cX9_line 8 = .ok (.iload_n 2, 1) := by decide +kernel
theorem dX9_line_9 : decode cX9_line 9 = .ok (.iconst 0, 1) := by decide +kernel
theorem dX9_line_10 : decode cX9_line 10 = .ok (.iconst 1, 1) := by decide +kernel
theorem dX9_line_11 : decode cX9_line 11 = .ok (.invokestatic 57, 3) := by decide +kernel
theorem dX9_line_14 : decode cX9_line 14 = .ok (.ifCond .ne 5, 3) := by decide +kernel
theorem dX9_line_17 : decode cX9_line 17 = .ok (.iconst (-1), 1) := by decide +kernel
theorem dX9_line_18 : decode cX9_line 18 = .ok (.ireturn, 1) := by decide +kernel
theorem dX9_line_19 : decode cX9_line 19 = .ok (.aload_n 0, 1) := by decide +kernel
theorem dX9_line_20 : decode cX9_line 20 = .ok (.iload_n 2, 1) := by decide +kernel
theorem dX9_line_21 : decode cX9_line 21 = .ok (.ifCond .ne 12, 3) := by decide +kernel
theorem dX9_line_24 : decode cX9_line 24 = .ok (.aload_n 0, 1) := by decide +kernel
theorem dX9_line_25 : decode cX9_line 25 = .ok (.getfield 35, 3) := by decide +kernel
theorem dX9_line_28 : decode cX9_line 28 = .ok (.iconst 0, 1) := by decide +kernel
theorem dX9_line_29 : decode cX9_line 29 = .ok (.iaload, 1) := by decide +kernel
theorem dX9_line_30 : decode cX9_line 30 = .ok (.goto 7, 3) := by decide +kernel
theorem dX9_line_33 : decode cX9_line 33 = .ok (.aload_n 0, 1) := by decide +kernel
theorem dX9_line_34 : decode cX9_line 34 = .ok (.getfield 99, 3) := by decide +kernel
theorem dX9_line_37 : decode cX9_line 37 = .ok (.iload_n 1, 1) := by decide +kernel
theorem dX9_line_38 : decode cX9_line 38 = .ok (.invokevirtual 113, 3) := by decide +kernel
theorem dX9_line_41 : decode cX9_line 41 = .ok (.ireturn, 1) := by decide +kernel
theorem dX9_scribe_0 : decode cX9_scribe 0 = .ok (.aload_n 0, 1) := by decide +kernel
theorem dX9_scribe_1 : decode cX9_scribe 1 = .ok (.iload_n 1, 1) := by decide +kernel
theorem dX9_scribe_2 : decode cX9_scribe 2 = .ok (.invokevirtual 133, 3) := by decide +kernel
theorem dX9_scribe_5 : decode cX9_scribe 5 = .ok (.ifCond .ne 5, 3) := by decide +kernel
theorem dX9_scribe_8 : decode cX9_scribe 8 = .ok (.iconst (-1), 1) := by decide +kernel
theorem dX9_scribe_9 : decode cX9_scribe 9 = .ok (.ireturn, 1) := by decide +kernel
theorem dX9_scribe_10 : decode cX9_scribe 10 = .ok (.iload_n 2, 1) := by decide +kernel
theorem dX9_scribe_11 : decode cX9_scribe 11 = .ok (.tableswitch 114 0 6 #[41, 48, 55, 67, 76, 88, 108], 41) := by decide +kernel
theorem dX9_scribe_52 : decode cX9_scribe 52 = .ok (.aload_n 0, 1) := by decide +kernel
theorem dX9_scribe_53 : decode cX9_scribe 53 = .ok (.getfield 26, 3) := by decide +kernel
theorem dX9_scribe_56 : decode cX9_scribe 56 = .ok (.iload_n 1, 1) := by decide +kernel
theorem dX9_scribe_57 : decode cX9_scribe 57 = .ok (.iaload, 1) := by decide +kernel
theorem dX9_scribe_58 : decode cX9_scribe 58 = .ok (.ireturn, 1) := by decide +kernel
theorem dX9_scribe_59 : decode cX9_scribe 59 = .ok (.aload_n 0, 1) := by decide +kernel
theorem dX9_scribe_60 : decode cX9_scribe 60 = .ok (.getfield 29, 3) := by decide +kernel
theorem dX9_scribe_63 : decode cX9_scribe 63 = .ok (.iload_n 1, 1) := by decide +kernel
theorem dX9_scribe_64 : decode cX9_scribe 64 = .ok (.iaload, 1) := by decide +kernel
theorem dX9_scribe_65 : decode cX9_scribe 65 = .ok (.ireturn, 1) := by decide +kernel
theorem dX9_scribe_66 : decode cX9_scribe 66 = .ok (.aload_n 0, 1) := by decide +kernel
theorem dX9_scribe_67 : decode cX9_scribe 67 = .ok (.getfield 35, 3) := by decide +kernel
theorem dX9_scribe_70 : decode cX9_scribe 70 = .ok (.bipush 8, 2) := by decide +kernel
theorem dX9_scribe_72 : decode cX9_scribe 72 = .ok (.iaload, 1) := by decide +kernel
theorem dX9_scribe_73 : decode cX9_scribe 73 = .ok (.iload_n 1, 1) := by decide +kernel
theorem dX9_scribe_74 : decode cX9_scribe 74 = .ok (.ishr, 1) := by decide +kernel
theorem dX9_scribe_75 : decode cX9_scribe 75 = .ok (.iconst 1, 1) := by decide +kernel
theorem dX9_scribe_76 : decode cX9_scribe 76 = .ok (.iand, 1) := by decide +kernel
theorem dX9_scribe_77 : decode cX9_scribe 77 = .ok (.ireturn, 1) := by decide +kernel
theorem dX9_scribe_78 : decode cX9_scribe 78 = .ok (.aload_n 0, 1) := by decide +kernel
theorem dX9_scribe_79 : decode cX9_scribe 79 = .ok (.getfield 35, 3) := by decide +kernel
theorem dX9_scribe_82 : decode cX9_scribe 82 = .ok (.iconst 2, 1) := by decide +kernel
theorem dX9_scribe_83 : decode cX9_scribe 83 = .ok (.iload_n 1, 1) := by decide +kernel
theorem dX9_scribe_84 : decode cX9_scribe 84 = .ok (.iadd, 1) := by decide +kernel
theorem dX9_scribe_85 : decode cX9_scribe 85 = .ok (.iaload, 1) := by decide +kernel
theorem dX9_scribe_86 : decode cX9_scribe 86 = .ok (.ireturn, 1) := by decide +kernel
theorem dX9_scribe_87 : decode cX9_scribe 87 = .ok (.aload_n 0, 1) := by decide +kernel
theorem dX9_scribe_88 : decode cX9_scribe 88 = .ok (.iload_n 1, 1) := by decide +kernel
theorem dX9_scribe_89 : decode cX9_scribe 89 = .ok (.aload_n 0, 1) := by decide +kernel
theorem dX9_scribe_90 : decode cX9_scribe 90 = .ok (.getfield 35, 3) := by decide +kernel
theorem dX9_scribe_93 : decode cX9_scribe 93 = .ok (.iconst 0, 1) := by decide +kernel
theorem dX9_scribe_94 : decode cX9_scribe 94 = .ok (.iaload, 1) := by decide +kernel
theorem dX9_scribe_95 : decode cX9_scribe 95 = .ok (.invokevirtual 119, 3) := by decide +kernel
theorem dX9_scribe_98 : decode cX9_scribe 98 = .ok (.ireturn, 1) := by decide +kernel
theorem dX9_scribe_99 : decode cX9_scribe 99 = .ok (.aload_n 0, 1) := by decide +kernel
theorem dX9_scribe_100 : decode cX9_scribe 100 = .ok (.iload_n 1, 1) := by decide +kernel
theorem dX9_scribe_101 : decode cX9_scribe 101 = .ok (.aload_n 0, 1) := by decide +kernel
theorem dX9_scribe_102 : decode cX9_scribe 102 = .ok (.getfield 35, 3) := by decide +kernel
theorem dX9_scribe_105 : decode cX9_scribe 105 = .ok (.iconst 0, 1) := by decide +kernel
theorem dX9_scribe_106 : decode cX9_scribe 106 = .ok (.iaload, 1) := by decide +kernel
theorem dX9_scribe_107 : decode cX9_scribe 107 = .ok (.invokevirtual 136, 3) := by decide +kernel
theorem dX9_scribe_110 : decode cX9_scribe 110 = .ok (.ifCond .eq 7, 3) := by decide +kernel
theorem dX9_scribe_113 : decode cX9_scribe 113 = .ok (.iconst 1, 1) := by decide +kernel
theorem dX9_scribe_114 : decode cX9_scribe 114 = .ok (.goto 4, 3) := by decide +kernel
theorem dX9_scribe_117 : decode cX9_scribe 117 = .ok (.iconst 0, 1) := by decide +kernel
theorem dX9_scribe_118 : decode cX9_scribe 118 = .ok (.ireturn, 1) := by decide +kernel
theorem dX9_scribe_119 : decode cX9_scribe 119 = .ok (.aload_n 0, 1) := by decide +kernel
theorem dX9_scribe_120 : decode cX9_scribe 120 = .ok (.iload_n 1, 1) := by decide +kernel
theorem dX9_scribe_121 : decode cX9_scribe 121 = .ok (.invokevirtual 139, 3) := by decide +kernel
theorem dX9_scribe_124 : decode cX9_scribe 124 = .ok (.ireturn, 1) := by decide +kernel
theorem dX9_scribe_125 : decode cX9_scribe 125 = .ok (.iconst (-1), 1) := by decide +kernel
theorem dX9_scribe_126 : decode cX9_scribe 126 = .ok (.ireturn, 1) := by decide +kernel
theorem dX9_says_0 : decode cX9_says 0 = .ok (.aload_n 0, 1) := by decide +kernel
theorem dX9_says_1 : decode cX9_says 1 = .ok (.iload_n 1, 1) := by decide +kernel
theorem dX9_says_2 : decode cX9_says 2 = .ok (.invokevirtual 133, 3) := by decide +kernel
theorem dX9_says_5 : decode cX9_says 5 = .ok (.ifCond .eq 20, 3) := by decide +kernel
theorem dX9_says_8 : decode cX9_says 8 = .ok (.aload_n 0, 1) := by decide +kernel
theorem dX9_says_9 : decode cX9_says 9 = .ok (.iload_n 2, 1) := by decide +kernel
theorem dX9_says_10 : decode cX9_says 10 = .ok (.invokevirtual 142, 3) := by decide +kernel
theorem dX9_says_13 : decode cX9_says 13 = .ok (.ifCond .eq 12, 3) := by decide +kernel
theorem dX9_says_16 : decode cX9_says 16 = .ok (.aload_n 0, 1) := by decide +kernel
theorem dX9_says_17 : decode cX9_says 17 = .ok (.iload_n 1, 1) := by decide +kernel
theorem dX9_says_18 : decode cX9_says 18 = .ok (.iload_n 2, 1) := by decide +kernel
theorem dX9_says_19 : decode cX9_says 19 = .ok (.invokevirtual 116, 3) := by decide +kernel
theorem dX9_says_22 : decode cX9_says 22 = .ok (.goto 4, 3) := by decide +kernel
theorem dX9_says_25 : decode cX9_says 25 = .ok (.iconst (-1), 1) := by decide +kernel
theorem dX9_says_26 : decode cX9_says 26 = .ok (.ireturn, 1) := by decide +kernel
theorem dX9_know_0 : decode cX9_know 0 = .ok (.aload_n 0, 1) := by decide +kernel
theorem dX9_know_1 : decode cX9_know 1 = .ok (.getfield 35, 3) := by decide +kernel
theorem dX9_know_4 : decode cX9_know 4 = .ok (.bipush 9, 2) := by decide +kernel
theorem dX9_know_6 : decode cX9_know 6 = .ok (.iaload, 1) := by decide +kernel
theorem dX9_know_7 : decode cX9_know 7 = .ok (.bipush 10, 2) := by decide +kernel
theorem dX9_know_9 : decode cX9_know 9 = .ok (.if_icmp .ne 46, 3) := by decide +kernel
theorem dX9_know_12 : decode cX9_know 12 = .ok (.iconst 0, 1) := by decide +kernel
theorem dX9_know_13 : decode cX9_know 13 = .ok (.istore_n 1, 1) := by decide +kernel
theorem dX9_know_14 : decode cX9_know 14 = .ok (.iload_n 1, 1) := by decide +kernel
theorem dX9_know_15 : decode cX9_know 15 = .ok (.bipush 81, 2) := by decide +kernel
theorem dX9_know_17 : decode cX9_know 17 = .ok (.if_icmp .ge 27, 3) := by decide +kernel
theorem dX9_know_20 : decode cX9_know 20 = .ok (.aload_n 0, 1) := by decide +kernel
theorem dX9_know_21 : decode cX9_know 21 = .ok (.getfield 35, 3) := by decide +kernel
theorem dX9_know_24 : decode cX9_know 24 = .ok (.bipush 10, 2) := by decide +kernel
theorem dX9_know_26 : decode cX9_know 26 = .ok (.iload_n 1, 1) := by decide +kernel
theorem dX9_know_27 : decode cX9_know 27 = .ok (.iadd, 1) := by decide +kernel
theorem dX9_know_28 : decode cX9_know 28 = .ok (.aload_n 0, 1) := by decide +kernel
theorem dX9_know_29 : decode cX9_know 29 = .ok (.getfield 35, 3) := by decide +kernel
theorem dX9_know_32 : decode cX9_know 32 = .ok (.bipush 19, 2) := by decide +kernel
theorem dX9_know_34 : decode cX9_know 34 = .ok (.iload_n 1, 1) := by decide +kernel
theorem dX9_know_35 : decode cX9_know 35 = .ok (.iadd, 1) := by decide +kernel
theorem dX9_know_36 : decode cX9_know 36 = .ok (.iaload, 1) := by decide +kernel
theorem dX9_know_37 : decode cX9_know 37 = .ok (.iastore, 1) := by decide +kernel
theorem dX9_know_38 : decode cX9_know 38 = .ok (.iinc 1 1, 3) := by decide +kernel
theorem dX9_know_41 : decode cX9_know 41 = .ok (.goto (-27), 3) := by decide +kernel
theorem dX9_know_44 : decode cX9_know 44 = .ok (.aload_n 0, 1) := by decide +kernel
theorem dX9_know_45 : decode cX9_know 45 = .ok (.getfield 35, 3) := by decide +kernel
theorem dX9_know_48 : decode cX9_know 48 = .ok (.bipush 9, 2) := by decide +kernel
theorem dX9_know_50 : decode cX9_know 50 = .ok (.dup2, 1) := by decide +kernel
theorem dX9_know_51 : decode cX9_know 51 = .ok (.iaload, 1) := by decide +kernel
theorem dX9_know_52 : decode cX9_know 52 = .ok (.iconst 1, 1) := by decide +kernel
theorem dX9_know_53 : decode cX9_know 53 = .ok (.isub, 1) := by decide +kernel
theorem dX9_know_54 : decode cX9_know 54 = .ok (.iastore, 1) := by decide +kernel
theorem dX9_know_55 : decode cX9_know 55 = .ok (.iconst 0, 1) := by decide +kernel
theorem dX9_know_56 : decode cX9_know 56 = .ok (.istore_n 1, 1) := by decide +kernel
theorem dX9_know_57 : decode cX9_know 57 = .ok (.iload_n 1, 1) := by decide +kernel
theorem dX9_know_58 : decode cX9_know 58 = .ok (.bipush 9, 2) := by decide +kernel
theorem dX9_know_60 : decode cX9_know 60 = .ok (.if_icmp .ge 35, 3) := by decide +kernel
theorem dX9_know_63 : decode cX9_know 63 = .ok (.aload_n 0, 1) := by decide +kernel
theorem dX9_know_64 : decode cX9_know 64 = .ok (.getfield 35, 3) := by decide +kernel
theorem dX9_know_67 : decode cX9_know 67 = .ok (.bipush 10, 2) := by decide +kernel
theorem dX9_know_69 : decode cX9_know 69 = .ok (.bipush 9, 2) := by decide +kernel
theorem dX9_know_71 : decode cX9_know 71 = .ok (.aload_n 0, 1) := by decide +kernel
theorem dX9_know_72 : decode cX9_know 72 = .ok (.getfield 35, 3) := by decide +kernel
theorem dX9_know_75 : decode cX9_know 75 = .ok (.bipush 9, 2) := by decide +kernel
theorem dX9_know_77 : decode cX9_know 77 = .ok (.iaload, 1) := by decide +kernel
theorem dX9_know_78 : decode cX9_know 78 = .ok (.imul, 1) := by decide +kernel
theorem dX9_know_79 : decode cX9_know 79 = .ok (.iadd, 1) := by decide +kernel
theorem dX9_know_80 : decode cX9_know 80 = .ok (.iload_n 1, 1) := by decide +kernel
theorem dX9_know_81 : decode cX9_know 81 = .ok (.iadd, 1) := by decide +kernel
theorem dX9_know_82 : decode cX9_know 82 = .ok (.aload_n 0, 1) := by decide +kernel
theorem dX9_know_83 : decode cX9_know 83 = .ok (.getfield 35, 3) := by decide +kernel
theorem dX9_know_86 : decode cX9_know 86 = .ok (.iload_n 1, 1) := by decide +kernel
theorem dX9_know_87 : decode cX9_know 87 = .ok (.iaload, 1) := by decide +kernel
theorem dX9_know_88 : decode cX9_know 88 = .ok (.iastore, 1) := by decide +kernel
theorem dX9_know_89 : decode cX9_know 89 = .ok (.iinc 1 1, 3) := by decide +kernel
theorem dX9_know_92 : decode cX9_know 92 = .ok (.goto (-35), 3) := by decide +kernel
theorem dX9_know_95 : decode cX9_know 95 = .ok (.aload_n 0, 1) := by decide +kernel
theorem dX9_know_96 : decode cX9_know 96 = .ok (.getfield 35, 3) := by decide +kernel
theorem dX9_know_99 : decode cX9_know 99 = .ok (.bipush 9, 2) := by decide +kernel
theorem dX9_know_101 : decode cX9_know 101 = .ok (.dup2, 1) := by decide +kernel
theorem dX9_know_102 : decode cX9_know 102 = .ok (.iaload, 1) := by decide +kernel
theorem dX9_know_103 : decode cX9_know 103 = .ok (.iconst 1, 1) := by decide +kernel
theorem dX9_know_104 : decode cX9_know 104 = .ok (.iadd, 1) := by decide +kernel
theorem dX9_know_105 : decode cX9_know 105 = .ok (.iastore, 1) := by decide +kernel
theorem dX9_know_106 : decode cX9_know 106 = .ok (.return_, 1) := by decide +kernel
theorem dX9_copies_0 : decode cX9_copies 0 = .ok (.aload_n 0, 1) := by decide +kernel
theorem dX9_copies_1 : decode cX9_copies 1 = .ok (.iload_n 1, 1) := by decide +kernel
theorem dX9_copies_2 : decode cX9_copies 2 = .ok (.invokevirtual 133, 3) := by decide +kernel
theorem dX9_copies_5 : decode cX9_copies 5 = .ok (.ifCond .ne 5, 3) := by decide +kernel
theorem dX9_copies_8 : decode cX9_copies 8 = .ok (.iconst (-1), 1) := by decide +kernel
theorem dX9_copies_9 : decode cX9_copies 9 = .ok (.ireturn, 1) := by decide +kernel
theorem dX9_copies_10 : decode cX9_copies 10 = .ok (.aload_n 0, 1) := by decide +kernel
theorem dX9_copies_11 : decode cX9_copies 11 = .ok (.getfield 35, 3) := by decide +kernel
theorem dX9_copies_14 : decode cX9_copies 14 = .ok (.bipush 8, 2) := by decide +kernel
theorem dX9_copies_16 : decode cX9_copies 16 = .ok (.iaload, 1) := by decide +kernel
theorem dX9_copies_17 : decode cX9_copies 17 = .ok (.iload_n 1, 1) := by decide +kernel
theorem dX9_copies_18 : decode cX9_copies 18 = .ok (.ishr, 1) := by decide +kernel
theorem dX9_copies_19 : decode cX9_copies 19 = .ok (.iconst 1, 1) := by decide +kernel
theorem dX9_copies_20 : decode cX9_copies 20 = .ok (.iand, 1) := by decide +kernel
theorem dX9_copies_21 : decode cX9_copies 21 = .ok (.iconst 1, 1) := by decide +kernel
theorem dX9_copies_22 : decode cX9_copies 22 = .ok (.if_icmp .eq 29, 3) := by decide +kernel
theorem dX9_copies_25 : decode cX9_copies 25 = .ok (.aload_n 0, 1) := by decide +kernel
theorem dX9_copies_26 : decode cX9_copies 26 = .ok (.iload_n 1, 1) := by decide +kernel
theorem dX9_copies_27 : decode cX9_copies 27 = .ok (.aload_n 0, 1) := by decide +kernel
theorem dX9_copies_28 : decode cX9_copies 28 = .ok (.getfield 35, 3) := by decide +kernel
theorem dX9_copies_31 : decode cX9_copies 31 = .ok (.iconst 0, 1) := by decide +kernel
theorem dX9_copies_32 : decode cX9_copies 32 = .ok (.iaload, 1) := by decide +kernel
theorem dX9_copies_33 : decode cX9_copies 33 = .ok (.invokevirtual 136, 3) := by decide +kernel
theorem dX9_copies_36 : decode cX9_copies 36 = .ok (.ifCond .ne 15, 3) := by decide +kernel
theorem dX9_copies_39 : decode cX9_copies 39 = .ok (.aload_n 0, 1) := by decide +kernel
theorem dX9_copies_40 : decode cX9_copies 40 = .ok (.getfield 35, 3) := by decide +kernel
theorem dX9_copies_43 : decode cX9_copies 43 = .ok (.iconst 1, 1) := by decide +kernel
theorem dX9_copies_44 : decode cX9_copies 44 = .ok (.iaload, 1) := by decide +kernel
theorem dX9_copies_45 : decode cX9_copies 45 = .ok (.sipush 999, 3) := by decide +kernel
theorem dX9_copies_48 : decode cX9_copies 48 = .ok (.if_icmp .ne 6, 3) := by decide +kernel
theorem dX9_copies_51 : decode cX9_copies 51 = .ok (.bipush (-2), 2) := by decide +kernel
theorem dX9_copies_53 : decode cX9_copies 53 = .ok (.ireturn, 1) := by decide +kernel
theorem dX9_copies_54 : decode cX9_copies 54 = .ok (.aload_n 0, 1) := by decide +kernel
theorem dX9_copies_55 : decode cX9_copies 55 = .ok (.invokevirtual 145, 3) := by decide +kernel
theorem dX9_copies_58 : decode cX9_copies 58 = .ok (.aload_n 0, 1) := by decide +kernel
theorem dX9_copies_59 : decode cX9_copies 59 = .ok (.getfield 35, 3) := by decide +kernel
theorem dX9_copies_62 : decode cX9_copies 62 = .ok (.iconst 0, 1) := by decide +kernel
theorem dX9_copies_63 : decode cX9_copies 63 = .ok (.aload_n 0, 1) := by decide +kernel
theorem dX9_copies_64 : decode cX9_copies 64 = .ok (.iload_n 1, 1) := by decide +kernel
theorem dX9_copies_65 : decode cX9_copies 65 = .ok (.aload_n 0, 1) := by decide +kernel
theorem dX9_copies_66 : decode cX9_copies 66 = .ok (.getfield 35, 3) := by decide +kernel
theorem dX9_copies_69 : decode cX9_copies 69 = .ok (.iconst 0, 1) := by decide +kernel
theorem dX9_copies_70 : decode cX9_copies 70 = .ok (.iaload, 1) := by decide +kernel
theorem dX9_copies_71 : decode cX9_copies 71 = .ok (.invokevirtual 126, 3) := by decide +kernel
theorem dX9_copies_74 : decode cX9_copies 74 = .ok (.iastore, 1) := by decide +kernel
theorem dX9_copies_75 : decode cX9_copies 75 = .ok (.aload_n 0, 1) := by decide +kernel
theorem dX9_copies_76 : decode cX9_copies 76 = .ok (.getfield 35, 3) := by decide +kernel
theorem dX9_copies_79 : decode cX9_copies 79 = .ok (.iconst 1, 1) := by decide +kernel
theorem dX9_copies_80 : decode cX9_copies 80 = .ok (.dup2, 1) := by decide +kernel
theorem dX9_copies_81 : decode cX9_copies 81 = .ok (.iaload, 1) := by decide +kernel
theorem dX9_copies_82 : decode cX9_copies 82 = .ok (.iconst 1, 1) := by decide +kernel
theorem dX9_copies_83 : decode cX9_copies 83 = .ok (.iadd, 1) := by decide +kernel
theorem dX9_copies_84 : decode cX9_copies 84 = .ok (.iastore, 1) := by decide +kernel
theorem dX9_copies_85 : decode cX9_copies 85 = .ok (.aload_n 0, 1) := by decide +kernel
theorem dX9_copies_86 : decode cX9_copies 86 = .ok (.getfield 35, 3) := by decide +kernel
theorem dX9_copies_89 : decode cX9_copies 89 = .ok (.iconst 2, 1) := by decide +kernel
theorem dX9_copies_90 : decode cX9_copies 90 = .ok (.iload_n 1, 1) := by decide +kernel
theorem dX9_copies_91 : decode cX9_copies 91 = .ok (.iadd, 1) := by decide +kernel
theorem dX9_copies_92 : decode cX9_copies 92 = .ok (.dup2, 1) := by decide +kernel
theorem dX9_copies_93 : decode cX9_copies 93 = .ok (.iaload, 1) := by decide +kernel
theorem dX9_copies_94 : decode cX9_copies 94 = .ok (.iconst 1, 1) := by decide +kernel
theorem dX9_copies_95 : decode cX9_copies 95 = .ok (.iadd, 1) := by decide +kernel
theorem dX9_copies_96 : decode cX9_copies 96 = .ok (.iastore, 1) := by decide +kernel
theorem dX9_copies_97 : decode cX9_copies 97 = .ok (.aload_n 0, 1) := by decide +kernel
theorem dX9_copies_98 : decode cX9_copies 98 = .ok (.getfield 35, 3) := by decide +kernel
theorem dX9_copies_101 : decode cX9_copies 101 = .ok (.iconst 1, 1) := by decide +kernel
theorem dX9_copies_102 : decode cX9_copies 102 = .ok (.iaload, 1) := by decide +kernel
theorem dX9_copies_103 : decode cX9_copies 103 = .ok (.ireturn, 1) := by decide +kernel
theorem dX9_put_0 : decode cX9_put 0 = .ok (.iconst 0, 1) := by decide +kernel
theorem dX9_put_1 : decode cX9_put 1 = .ok (.istore 4, 2) := by decide +kernel
theorem dX9_put_3 : decode cX9_put 3 = .ok (.iconst 0, 1) := by decide +kernel
theorem dX9_put_4 : decode cX9_put 4 = .ok (.istore 5, 2) := by decide +kernel
theorem dX9_put_6 : decode cX9_put 6 = .ok (.iload 5, 2) := by decide +kernel
theorem dX9_put_8 : decode cX9_put 8 = .ok (.aload_n 0, 1) := by decide +kernel
theorem dX9_put_9 : decode cX9_put 9 = .ok (.getfield 17, 3) := by decide +kernel
theorem dX9_put_12 : decode cX9_put 12 = .ok (.iconst 0, 1) := by decide +kernel
theorem dX9_put_13 : decode cX9_put 13 = .ok (.iaload, 1) := by decide +kernel
theorem dX9_put_14 : decode cX9_put 14 = .ok (.if_icmp .ge 38, 3) := by decide +kernel
theorem dX9_put_17 : decode cX9_put 17 = .ok (.iload 4, 2) := by decide +kernel
theorem dX9_put_19 : decode cX9_put 19 = .ok (.aload_n 0, 1) := by decide +kernel
theorem dX9_put_20 : decode cX9_put 20 = .ok (.getfield 13, 3) := by decide +kernel
theorem dX9_put_23 : decode cX9_put 23 = .ok (.iconst 0, 1) := by decide +kernel
theorem dX9_put_24 : decode cX9_put 24 = .ok (.iaload, 1) := by decide +kernel
theorem dX9_put_25 : decode cX9_put 25 = .ok (.imul, 1) := by decide +kernel
theorem dX9_put_26 : decode cX9_put 26 = .ok (.iload 5, 2) := by decide +kernel
theorem dX9_put_28 : decode cX9_put 28 = .ok (.iload_n 2, 1) := by decide +kernel
theorem dX9_put_29 : decode cX9_put 29 = .ok (.if_icmp .ne 7, 3) := by decide +kernel
theorem dX9_put_32 : decode cX9_put 32 = .ok (.iload_n 3, 1) := by decide +kernel
theorem dX9_put_33 : decode cX9_put 33 = .ok (.goto 10, 3) := by decide +kernel
theorem dX9_put_36 : decode cX9_put 36 = .ok (.aload_n 0, 1) := by decide +kernel
theorem dX9_put_37 : decode cX9_put 37 = .ok (.iload_n 1, 1) := by decide +kernel
theorem dX9_put_38 : decode cX9_put 38 = .ok (.iload 5, 2) := by decide +kernel
theorem dX9_put_40 : decode cX9_put 40 = .ok (.invokevirtual 113, 3) := by decide +kernel
theorem dX9_put_43 : decode cX9_put 43 = .ok (.iadd, 1) := by decide +kernel
theorem dX9_put_44 : decode cX9_put 44 = .ok (.istore 4, 2) := by decide +kernel
theorem dX9_put_46 : decode cX9_put 46 = .ok (.iinc 5 1, 3) := by decide +kernel
theorem dX9_put_49 : decode cX9_put 49 = .ok (.goto (-43), 3) := by decide +kernel
theorem dX9_put_52 : decode cX9_put 52 = .ok (.iload 4, 2) := by decide +kernel
theorem dX9_put_54 : decode cX9_put 54 = .ok (.ireturn, 1) := by decide +kernel
theorem dX9_errs_0 : decode cX9_errs 0 = .ok (.aload_n 0, 1) := by decide +kernel
theorem dX9_errs_1 : decode cX9_errs 1 = .ok (.iload_n 1, 1) := by decide +kernel
theorem dX9_errs_2 : decode cX9_errs 2 = .ok (.invokevirtual 129, 3) := by decide +kernel
theorem dX9_errs_5 : decode cX9_errs 5 = .ok (.ifCond .eq 11, 3) := by decide +kernel
theorem dX9_errs_8 : decode cX9_errs 8 = .ok (.aload_n 0, 1) := by decide +kernel
theorem dX9_errs_9 : decode cX9_errs 9 = .ok (.iload_n 2, 1) := by decide +kernel
theorem dX9_errs_10 : decode cX9_errs 10 = .ok (.invokevirtual 142, 3) := by decide +kernel
theorem dX9_errs_13 : decode cX9_errs 13 = .ok (.ifCond .ne 5, 3) := by decide +kernel
theorem dX9_errs_16 : decode cX9_errs 16 = .ok (.iconst (-1), 1) := by decide +kernel
theorem dX9_errs_17 : decode cX9_errs 17 = .ok (.ireturn, 1) := by decide +kernel
theorem dX9_errs_18 : decode cX9_errs 18 = .ok (.aload_n 0, 1) := by decide +kernel
theorem dX9_errs_19 : decode cX9_errs 19 = .ok (.aload_n 0, 1) := by decide +kernel
theorem dX9_errs_20 : decode cX9_errs 20 = .ok (.getfield 35, 3) := by decide +kernel
theorem dX9_errs_23 : decode cX9_errs 23 = .ok (.iconst 0, 1) := by decide +kernel
end
section
theorem dX9_errs_24 : decode cX9_errs 24 = .ok (.iaload, 1) := by decide +kernel
theorem dX9_errs_25 : decode cX9_errs 25 = .ok (.iload_n 1, 1) := by decide +kernel
theorem dX9_errs_26 : decode cX9_errs 26 = .ok (.invokevirtual 113, 3) := by decide +kernel
theorem dX9_errs_29 : decode cX9_errs 29 = .ok (.istore_n 3, 1) := by decide +kernel
theorem dX9_errs_30 : decode cX9_errs 30 = .ok (.iload_n 3, 1) := by decide +kernel
theorem dX9_errs_31 : decode cX9_errs 31 = .ok (.iload_n 2, 1) := by decide +kernel
theorem dX9_errs_32 : decode cX9_errs 32 = .ok (.if_icmp .ne 6, 3) := by decide +kernel
theorem dX9_errs_35 : decode cX9_errs 35 = .ok (.bipush (-2), 2) := by decide +kernel
theorem dX9_errs_37 : decode cX9_errs 37 = .ok (.ireturn, 1) := by decide +kernel
theorem dX9_errs_38 : decode cX9_errs 38 = .ok (.aload_n 0, 1) := by decide +kernel
theorem dX9_errs_39 : decode cX9_errs 39 = .ok (.invokevirtual 145, 3) := by decide +kernel
theorem dX9_errs_42 : decode cX9_errs 42 = .ok (.aload_n 0, 1) := by decide +kernel
theorem dX9_errs_43 : decode cX9_errs 43 = .ok (.getfield 35, 3) := by decide +kernel
theorem dX9_errs_46 : decode cX9_errs 46 = .ok (.iconst 0, 1) := by decide +kernel
theorem dX9_errs_47 : decode cX9_errs 47 = .ok (.aload_n 0, 1) := by decide +kernel
theorem dX9_errs_48 : decode cX9_errs 48 = .ok (.aload_n 0, 1) := by decide +kernel
theorem dX9_errs_49 : decode cX9_errs 49 = .ok (.getfield 35, 3) := by decide +kernel
theorem dX9_errs_52 : decode cX9_errs 52 = .ok (.iconst 0, 1) := by decide +kernel
theorem dX9_errs_53 : decode cX9_errs 53 = .ok (.iaload, 1) := by decide +kernel
theorem dX9_errs_54 : decode cX9_errs 54 = .ok (.iload_n 1, 1) := by decide +kernel
theorem dX9_errs_55 : decode cX9_errs 55 = .ok (.iload_n 2, 1) := by decide +kernel
theorem dX9_errs_56 : decode cX9_errs 56 = .ok (.invokevirtual 148, 3) := by decide +kernel
theorem dX9_errs_59 : decode cX9_errs 59 = .ok (.iastore, 1) := by decide +kernel
theorem dX9_errs_60 : decode cX9_errs 60 = .ok (.iload_n 3, 1) := by decide +kernel
theorem dX9_errs_61 : decode cX9_errs 61 = .ok (.ireturn, 1) := by decide +kernel
theorem dX9_releases_0 : decode cX9_releases 0 = .ok (.aload_n 0, 1) := by decide +kernel
theorem dX9_releases_1 : decode cX9_releases 1 = .ok (.iload_n 1, 1) := by decide +kernel
theorem dX9_releases_2 : decode cX9_releases 2 = .ok (.invokevirtual 133, 3) := by decide +kernel
theorem dX9_releases_5 : decode cX9_releases 5 = .ok (.ifCond .eq 12, 3) := by decide +kernel
theorem dX9_releases_8 : decode cX9_releases 8 = .ok (.iload_n 2, 1) := by decide +kernel
theorem dX9_releases_9 : decode cX9_releases 9 = .ok (.iconst 0, 1) := by decide +kernel
theorem dX9_releases_10 : decode cX9_releases 10 = .ok (.iconst 1, 1) := by decide +kernel
theorem dX9_releases_11 : decode cX9_releases 11 = .ok (.invokestatic 57, 3) := by decide +kernel
theorem dX9_releases_14 : decode cX9_releases 14 = .ok (.ifCond .ne 5, 3) := by decide +kernel
theorem dX9_releases_17 : decode cX9_releases 17 = .ok (.iconst (-1), 1) := by decide +kernel
theorem dX9_releases_18 : decode cX9_releases 18 = .ok (.ireturn, 1) := by decide +kernel
theorem dX9_releases_19 : decode cX9_releases 19 = .ok (.aload_n 0, 1) := by decide +kernel
theorem dX9_releases_20 : decode cX9_releases 20 = .ok (.getfield 35, 3) := by decide +kernel
theorem dX9_releases_23 : decode cX9_releases 23 = .ok (.bipush 8, 2) := by decide +kernel
theorem dX9_releases_25 : decode cX9_releases 25 = .ok (.iaload, 1) := by decide +kernel
theorem dX9_releases_26 : decode cX9_releases 26 = .ok (.iload_n 1, 1) := by decide +kernel
theorem dX9_releases_27 : decode cX9_releases 27 = .ok (.ishr, 1) := by decide +kernel
theorem dX9_releases_28 : decode cX9_releases 28 = .ok (.iconst 1, 1) := by decide +kernel
theorem dX9_releases_29 : decode cX9_releases 29 = .ok (.iand, 1) := by decide +kernel
theorem dX9_releases_30 : decode cX9_releases 30 = .ok (.iload_n 2, 1) := by decide +kernel
theorem dX9_releases_31 : decode cX9_releases 31 = .ok (.if_icmp .ne 6, 3) := by decide +kernel
theorem dX9_releases_34 : decode cX9_releases 34 = .ok (.bipush (-2), 2) := by decide +kernel
theorem dX9_releases_36 : decode cX9_releases 36 = .ok (.ireturn, 1) := by decide +kernel
theorem dX9_releases_37 : decode cX9_releases 37 = .ok (.aload_n 0, 1) := by decide +kernel
theorem dX9_releases_38 : decode cX9_releases 38 = .ok (.invokevirtual 145, 3) := by decide +kernel
theorem dX9_releases_41 : decode cX9_releases 41 = .ok (.aload_n 0, 1) := by decide +kernel
theorem dX9_releases_42 : decode cX9_releases 42 = .ok (.getfield 35, 3) := by decide +kernel
theorem dX9_releases_45 : decode cX9_releases 45 = .ok (.bipush 8, 2) := by decide +kernel
theorem dX9_releases_47 : decode cX9_releases 47 = .ok (.dup2, 1) := by decide +kernel
theorem dX9_releases_48 : decode cX9_releases 48 = .ok (.iaload, 1) := by decide +kernel
theorem dX9_releases_49 : decode cX9_releases 49 = .ok (.iconst 1, 1) := by decide +kernel
theorem dX9_releases_50 : decode cX9_releases 50 = .ok (.iload_n 1, 1) := by decide +kernel
theorem dX9_releases_51 : decode cX9_releases 51 = .ok (.ishl, 1) := by decide +kernel
theorem dX9_releases_52 : decode cX9_releases 52 = .ok (.ixor, 1) := by decide +kernel
theorem dX9_releases_53 : decode cX9_releases 53 = .ok (.iastore, 1) := by decide +kernel
theorem dX9_releases_54 : decode cX9_releases 54 = .ok (.aload_n 0, 1) := by decide +kernel
theorem dX9_releases_55 : decode cX9_releases 55 = .ok (.getfield 35, 3) := by decide +kernel
theorem dX9_releases_58 : decode cX9_releases 58 = .ok (.bipush 8, 2) := by decide +kernel
theorem dX9_releases_60 : decode cX9_releases 60 = .ok (.iaload, 1) := by decide +kernel
theorem dX9_releases_61 : decode cX9_releases 61 = .ok (.invokestatic 122, 3) := by decide +kernel
theorem dX9_releases_64 : decode cX9_releases 64 = .ok (.ireturn, 1) := by decide +kernel
theorem dX9_aims_0 : decode cX9_aims 0 = .ok (.aload_n 0, 1) := by decide +kernel
theorem dX9_aims_1 : decode cX9_aims 1 = .ok (.iload_n 1, 1) := by decide +kernel
theorem dX9_aims_2 : decode cX9_aims 2 = .ok (.invokevirtual 129, 3) := by decide +kernel
theorem dX9_aims_5 : decode cX9_aims 5 = .ok (.ifCond .eq 11, 3) := by decide +kernel
theorem dX9_aims_8 : decode cX9_aims 8 = .ok (.aload_n 0, 1) := by decide +kernel
theorem dX9_aims_9 : decode cX9_aims 9 = .ok (.iload_n 2, 1) := by decide +kernel
theorem dX9_aims_10 : decode cX9_aims 10 = .ok (.invokevirtual 142, 3) := by decide +kernel
theorem dX9_aims_13 : decode cX9_aims 13 = .ok (.ifCond .ne 5, 3) := by decide +kernel
theorem dX9_aims_16 : decode cX9_aims 16 = .ok (.iconst (-1), 1) := by decide +kernel
theorem dX9_aims_17 : decode cX9_aims 17 = .ok (.ireturn, 1) := by decide +kernel
theorem dX9_aims_18 : decode cX9_aims 18 = .ok (.aload_n 0, 1) := by decide +kernel
theorem dX9_aims_19 : decode cX9_aims 19 = .ok (.aload_n 0, 1) := by decide +kernel
theorem dX9_aims_20 : decode cX9_aims 20 = .ok (.getfield 99, 3) := by decide +kernel
theorem dX9_aims_23 : decode cX9_aims 23 = .ok (.iload_n 1, 1) := by decide +kernel
theorem dX9_aims_24 : decode cX9_aims 24 = .ok (.invokevirtual 113, 3) := by decide +kernel
theorem dX9_aims_27 : decode cX9_aims 27 = .ok (.istore_n 3, 1) := by decide +kernel
theorem dX9_aims_28 : decode cX9_aims 28 = .ok (.aload_n 0, 1) := by decide +kernel
theorem dX9_aims_29 : decode cX9_aims 29 = .ok (.aload_n 0, 1) := by decide +kernel
theorem dX9_aims_30 : decode cX9_aims 30 = .ok (.aload_n 0, 1) := by decide +kernel
theorem dX9_aims_31 : decode cX9_aims 31 = .ok (.getfield 99, 3) := by decide +kernel
theorem dX9_aims_34 : decode cX9_aims 34 = .ok (.iload_n 1, 1) := by decide +kernel
theorem dX9_aims_35 : decode cX9_aims 35 = .ok (.iload_n 2, 1) := by decide +kernel
theorem dX9_aims_36 : decode cX9_aims 36 = .ok (.invokevirtual 148, 3) := by decide +kernel
theorem dX9_aims_39 : decode cX9_aims 39 = .ok (.putfield 99, 3) := by decide +kernel
theorem dX9_aims_42 : decode cX9_aims 42 = .ok (.iload_n 3, 1) := by decide +kernel
theorem dX9_aims_43 : decode cX9_aims 43 = .ok (.ireturn, 1) := by decide +kernel
theorem dX9_undo_0 : decode cX9_undo 0 = .ok (.aload_n 0, 1) := by decide +kernel
theorem dX9_undo_1 : decode cX9_undo 1 = .ok (.getfield 35, 3) := by decide +kernel
theorem dX9_undo_4 : decode cX9_undo 4 = .ok (.bipush 9, 2) := by decide +kernel
theorem dX9_undo_6 : decode cX9_undo 6 = .ok (.iaload, 1) := by decide +kernel
theorem dX9_undo_7 : decode cX9_undo 7 = .ok (.ifCond .ne 6, 3) := by decide +kernel
theorem dX9_undo_10 : decode cX9_undo 10 = .ok (.bipush (-2), 2) := by decide +kernel
theorem dX9_undo_12 : decode cX9_undo 12 = .ok (.ireturn, 1) := by decide +kernel
theorem dX9_undo_13 : decode cX9_undo 13 = .ok (.aload_n 0, 1) := by decide +kernel
theorem dX9_undo_14 : decode cX9_undo 14 = .ok (.getfield 35, 3) := by decide +kernel
theorem dX9_undo_17 : decode cX9_undo 17 = .ok (.bipush 9, 2) := by decide +kernel
theorem dX9_undo_19 : decode cX9_undo 19 = .ok (.dup2, 1) := by decide +kernel
theorem dX9_undo_20 : decode cX9_undo 20 = .ok (.iaload, 1) := by decide +kernel
theorem dX9_undo_21 : decode cX9_undo 21 = .ok (.iconst 1, 1) := by decide +kernel
theorem dX9_undo_22 : decode cX9_undo 22 = .ok (.isub, 1) := by decide +kernel
theorem dX9_undo_23 : decode cX9_undo 23 = .ok (.iastore, 1) := by decide +kernel
theorem dX9_undo_24 : decode cX9_undo 24 = .ok (.iconst 0, 1) := by decide +kernel
theorem dX9_undo_25 : decode cX9_undo 25 = .ok (.istore_n 1, 1) := by decide +kernel
theorem dX9_undo_26 : decode cX9_undo 26 = .ok (.iload_n 1, 1) := by decide +kernel
theorem dX9_undo_27 : decode cX9_undo 27 = .ok (.bipush 9, 2) := by decide +kernel
theorem dX9_undo_29 : decode cX9_undo 29 = .ok (.if_icmp .ge 35, 3) := by decide +kernel
theorem dX9_undo_32 : decode cX9_undo 32 = .ok (.aload_n 0, 1) := by decide +kernel
theorem dX9_undo_33 : decode cX9_undo 33 = .ok (.getfield 35, 3) := by decide +kernel
theorem dX9_undo_36 : decode cX9_undo 36 = .ok (.iload_n 1, 1) := by decide +kernel
theorem dX9_undo_37 : decode cX9_undo 37 = .ok (.aload_n 0, 1) := by decide +kernel
theorem dX9_undo_38 : decode cX9_undo 38 = .ok (.getfield 35, 3) := by decide +kernel
theorem dX9_undo_41 : decode cX9_undo 41 = .ok (.bipush 10, 2) := by decide +kernel
theorem dX9_undo_43 : decode cX9_undo 43 = .ok (.bipush 9, 2) := by decide +kernel
theorem dX9_undo_45 : decode cX9_undo 45 = .ok (.aload_n 0, 1) := by decide +kernel
theorem dX9_undo_46 : decode cX9_undo 46 = .ok (.getfield 35, 3) := by decide +kernel
theorem dX9_undo_49 : decode cX9_undo 49 = .ok (.bipush 9, 2) := by decide +kernel
theorem dX9_undo_51 : decode cX9_undo 51 = .ok (.iaload, 1) := by decide +kernel
theorem dX9_undo_52 : decode cX9_undo 52 = .ok (.imul, 1) := by decide +kernel
theorem dX9_undo_53 : decode cX9_undo 53 = .ok (.iadd, 1) := by decide +kernel
theorem dX9_undo_54 : decode cX9_undo 54 = .ok (.iload_n 1, 1) := by decide +kernel
theorem dX9_undo_55 : decode cX9_undo 55 = .ok (.iadd, 1) := by decide +kernel
theorem dX9_undo_56 : decode cX9_undo 56 = .ok (.iaload, 1) := by decide +kernel
theorem dX9_undo_57 : decode cX9_undo 57 = .ok (.iastore, 1) := by decide +kernel
theorem dX9_undo_58 : decode cX9_undo 58 = .ok (.iinc 1 1, 3) := by decide +kernel
theorem dX9_undo_61 : decode cX9_undo 61 = .ok (.goto (-35), 3) := by decide +kernel
theorem dX9_undo_64 : decode cX9_undo 64 = .ok (.aload_n 0, 1) := by decide +kernel
theorem dX9_undo_65 : decode cX9_undo 65 = .ok (.getfield 35, 3) := by decide +kernel
theorem dX9_undo_68 : decode cX9_undo 68 = .ok (.bipush 9, 2) := by decide +kernel
theorem dX9_undo_70 : decode cX9_undo 70 = .ok (.iaload, 1) := by decide +kernel
theorem dX9_undo_71 : decode cX9_undo 71 = .ok (.ireturn, 1) := by decide +kernel
theorem dX9_mayCome_0 : decode cX9_mayCome 0 = .ok (.aload_n 0, 1) := by decide +kernel
theorem dX9_mayCome_1 : decode cX9_mayCome 1 = .ok (.iload_n 1, 1) := by decide +kernel
theorem dX9_mayCome_2 : decode cX9_mayCome 2 = .ok (.iload_n 2, 1) := by decide +kernel
theorem dX9_mayCome_3 : decode cX9_mayCome 3 = .ok (.invokevirtual 136, 3) := by decide +kernel
theorem dX9_mayCome_6 : decode cX9_mayCome 6 = .ok (.ifCond .ne 22, 3) := by decide +kernel
theorem dX9_mayCome_9 : decode cX9_mayCome 9 = .ok (.aload_n 0, 1) := by decide +kernel
theorem dX9_mayCome_10 : decode cX9_mayCome 10 = .ok (.iload_n 1, 1) := by decide +kernel
theorem dX9_mayCome_11 : decode cX9_mayCome 11 = .ok (.iload_n 2, 1) := by decide +kernel
theorem dX9_mayCome_12 : decode cX9_mayCome 12 = .ok (.invokevirtual 126, 3) := by decide +kernel
theorem dX9_mayCome_15 : decode cX9_mayCome 15 = .ok (.aload_n 0, 1) := by decide +kernel
theorem dX9_mayCome_16 : decode cX9_mayCome 16 = .ok (.getfield 35, 3) := by decide +kernel
theorem dX9_mayCome_19 : decode cX9_mayCome 19 = .ok (.iconst 0, 1) := by decide +kernel
theorem dX9_mayCome_20 : decode cX9_mayCome 20 = .ok (.iaload, 1) := by decide +kernel
theorem dX9_mayCome_21 : decode cX9_mayCome 21 = .ok (.if_icmp .ne 7, 3) := by decide +kernel
theorem dX9_mayCome_24 : decode cX9_mayCome 24 = .ok (.iconst 1, 1) := by decide +kernel
theorem dX9_mayCome_25 : decode cX9_mayCome 25 = .ok (.goto 4, 3) := by decide +kernel
theorem dX9_mayCome_28 : decode cX9_mayCome 28 = .ok (.iconst 0, 1) := by decide +kernel
theorem dX9_mayCome_29 : decode cX9_mayCome 29 = .ok (.ireturn, 1) := by decide +kernel
theorem dX9_fromOf_0 : decode cX9_fromOf 0 = .ok (.iconst 0, 1) := by decide +kernel
theorem dX9_fromOf_1 : decode cX9_fromOf 1 = .ok (.istore_n 2, 1) := by decide +kernel
theorem dX9_fromOf_2 : decode cX9_fromOf 2 = .ok (.iconst 0, 1) := by decide +kernel
theorem dX9_fromOf_3 : decode cX9_fromOf 3 = .ok (.istore_n 3, 1) := by decide +kernel
theorem dX9_fromOf_4 : decode cX9_fromOf 4 = .ok (.iload_n 3, 1) := by decide +kernel
theorem dX9_fromOf_5 : decode cX9_fromOf 5 = .ok (.aload_n 0, 1) := by decide +kernel
theorem dX9_fromOf_6 : decode cX9_fromOf 6 = .ok (.invokevirtual 152, 3) := by decide +kernel
theorem dX9_fromOf_9 : decode cX9_fromOf 9 = .ok (.if_icmp .ge 26, 3) := by decide +kernel
theorem dX9_fromOf_12 : decode cX9_fromOf 12 = .ok (.iload_n 2, 1) := by decide +kernel
theorem dX9_fromOf_13 : decode cX9_fromOf 13 = .ok (.aload_n 0, 1) := by decide +kernel
theorem dX9_fromOf_14 : decode cX9_fromOf 14 = .ok (.iload_n 1, 1) := by decide +kernel
theorem dX9_fromOf_15 : decode cX9_fromOf 15 = .ok (.iload_n 3, 1) := by decide +kernel
theorem dX9_fromOf_16 : decode cX9_fromOf 16 = .ok (.invokevirtual 155, 3) := by decide +kernel
theorem dX9_fromOf_19 : decode cX9_fromOf 19 = .ok (.ifCond .eq 7, 3) := by decide +kernel
theorem dX9_fromOf_22 : decode cX9_fromOf 22 = .ok (.iconst 1, 1) := by decide +kernel
theorem dX9_fromOf_23 : decode cX9_fromOf 23 = .ok (.goto 4, 3) := by decide +kernel
theorem dX9_fromOf_26 : decode cX9_fromOf 26 = .ok (.iconst 0, 1) := by decide +kernel
theorem dX9_fromOf_27 : decode cX9_fromOf 27 = .ok (.iadd, 1) := by decide +kernel
theorem dX9_fromOf_28 : decode cX9_fromOf 28 = .ok (.istore_n 2, 1) := by decide +kernel
theorem dX9_fromOf_29 : decode cX9_fromOf 29 = .ok (.iinc 3 1, 3) := by decide +kernel
theorem dX9_fromOf_32 : decode cX9_fromOf 32 = .ok (.goto (-28), 3) := by decide +kernel
theorem dX9_fromOf_35 : decode cX9_fromOf 35 = .ok (.iload_n 2, 1) := by decide +kernel
theorem dX9_fromOf_36 : decode cX9_fromOf 36 = .ok (.ireturn, 1) := by decide +kernel
theorem dX9_same_0 : decode cX9_same 0 = .ok (.bipush (-9), 2) := by decide +kernel
theorem dX9_same_2 : decode cX9_same 2 = .ok (.istore_n 1, 1) := by decide +kernel
theorem dX9_same_3 : decode cX9_same 3 = .ok (.iconst 1, 1) := by decide +kernel
theorem dX9_same_4 : decode cX9_same 4 = .ok (.aload_n 0, 1) := by decide +kernel
theorem dX9_same_5 : decode cX9_same 5 = .ok (.getfield 17, 3) := by decide +kernel
theorem dX9_same_8 : decode cX9_same 8 = .ok (.iconst 0, 1) := by decide +kernel
theorem dX9_same_9 : decode cX9_same 9 = .ok (.iaload, 1) := by decide +kernel
theorem dX9_same_10 : decode cX9_same 10 = .ok (.ishl, 1) := by decide +kernel
theorem dX9_same_11 : decode cX9_same 11 = .ok (.iconst 1, 1) := by decide +kernel
theorem dX9_same_12 : decode cX9_same 12 = .ok (.isub, 1) := by decide +kernel
theorem dX9_same_13 : decode cX9_same 13 = .ok (.istore_n 2, 1) := by decide +kernel
theorem dX9_same_14 : decode cX9_same 14 = .ok (.iconst 0, 1) := by decide +kernel
theorem dX9_same_15 : decode cX9_same 15 = .ok (.istore_n 3, 1) := by decide +kernel
theorem dX9_same_16 : decode cX9_same 16 = .ok (.iload_n 3, 1) := by decide +kernel
theorem dX9_same_17 : decode cX9_same 17 = .ok (.aload_n 0, 1) := by decide +kernel
theorem dX9_same_18 : decode cX9_same 18 = .ok (.invokevirtual 152, 3) := by decide +kernel
theorem dX9_same_21 : decode cX9_same 21 = .ok (.if_icmp .ge 126, 3) := by decide +kernel
theorem dX9_same_24 : decode cX9_same 24 = .ok (.iconst 0, 1) := by decide +kernel
theorem dX9_same_25 : decode cX9_same 25 = .ok (.istore 4, 2) := by decide +kernel
theorem dX9_same_27 : decode cX9_same 27 = .ok (.iconst 0, 1) := by decide +kernel
theorem dX9_same_28 : decode cX9_same 28 = .ok (.istore 5, 2) := by decide +kernel
theorem dX9_same_30 : decode cX9_same 30 = .ok (.iload 5, 2) := by decide +kernel
theorem dX9_same_32 : decode cX9_same 32 = .ok (.aload_n 0, 1) := by decide +kernel
theorem dX9_same_33 : decode cX9_same 33 = .ok (.getfield 23, 3) := by decide +kernel
theorem dX9_same_36 : decode cX9_same 36 = .ok (.iconst 0, 1) := by decide +kernel
theorem dX9_same_37 : decode cX9_same 37 = .ok (.iaload, 1) := by decide +kernel
theorem dX9_same_38 : decode cX9_same 38 = .ok (.if_icmp .ge 31, 3) := by decide +kernel
theorem dX9_same_41 : decode cX9_same 41 = .ok (.iload 4, 2) := by decide +kernel
theorem dX9_same_43 : decode cX9_same 43 = .ok (.ifCond .ne 13, 3) := by decide +kernel
theorem dX9_same_46 : decode cX9_same 46 = .ok (.aload_n 0, 1) := by decide +kernel
theorem dX9_same_47 : decode cX9_same 47 = .ok (.iload 5, 2) := by decide +kernel
theorem dX9_same_49 : decode cX9_same 49 = .ok (.iload_n 3, 1) := by decide +kernel
theorem dX9_same_50 : decode cX9_same 50 = .ok (.invokevirtual 155, 3) := by decide +kernel
theorem dX9_same_53 : decode cX9_same 53 = .ok (.ifCond .eq 7, 3) := by decide +kernel
theorem dX9_same_56 : decode cX9_same 56 = .ok (.iconst 1, 1) := by decide +kernel
theorem dX9_same_57 : decode cX9_same 57 = .ok (.goto 4, 3) := by decide +kernel
theorem dX9_same_60 : decode cX9_same 60 = .ok (.iconst 0, 1) := by decide +kernel
theorem dX9_same_61 : decode cX9_same 61 = .ok (.istore 4, 2) := by decide +kernel
theorem dX9_same_63 : decode cX9_same 63 = .ok (.iinc 5 1, 3) := by decide +kernel
theorem dX9_same_66 : decode cX9_same 66 = .ok (.goto (-36), 3) := by decide +kernel
theorem dX9_same_69 : decode cX9_same 69 = .ok (.iload 4, 2) := by decide +kernel
theorem dX9_same_71 : decode cX9_same 71 = .ok (.ifCond .eq 13, 3) := by decide +kernel
theorem dX9_same_74 : decode cX9_same 74 = .ok (.iload_n 1, 1) := by decide +kernel
theorem dX9_same_75 : decode cX9_same 75 = .ok (.bipush (-9), 2) := by decide +kernel
theorem dX9_same_77 : decode cX9_same 77 = .ok (.if_icmp .ne 7, 3) := by decide +kernel
theorem dX9_same_80 : decode cX9_same 80 = .ok (.iload_n 3, 1) := by decide +kernel
theorem dX9_same_81 : decode cX9_same 81 = .ok (.goto 4, 3) := by decide +kernel
theorem dX9_same_84 : decode cX9_same 84 = .ok (.iload_n 1, 1) := by decide +kernel
theorem dX9_same_85 : decode cX9_same 85 = .ok (.istore_n 1, 1) := by decide +kernel
theorem dX9_same_86 : decode cX9_same 86 = .ok (.iconst 0, 1) := by decide +kernel
theorem dX9_same_87 : decode cX9_same 87 = .ok (.istore 5, 2) := by decide +kernel
theorem dX9_same_89 : decode cX9_same 89 = .ok (.iload 5, 2) := by decide +kernel
theorem dX9_same_91 : decode cX9_same 91 = .ok (.aload_n 0, 1) := by decide +kernel
theorem dX9_same_92 : decode cX9_same 92 = .ok (.getfield 17, 3) := by decide +kernel
theorem dX9_same_95 : decode cX9_same 95 = .ok (.iconst 0, 1) := by decide +kernel
theorem dX9_same_96 : decode cX9_same 96 = .ok (.iaload, 1) := by decide +kernel
theorem dX9_same_97 : decode cX9_same 97 = .ok (.if_icmp .ge 44, 3) := by decide +kernel
theorem dX9_same_100 : decode cX9_same 100 = .ok (.iload 4, 2) := by decide +kernel
theorem dX9_same_102 : decode cX9_same 102 = .ok (.ifCond .eq 39, 3) := by decide +kernel
theorem dX9_same_105 : decode cX9_same 105 = .ok (.iload_n 2, 1) := by decide +kernel
theorem dX9_same_106 : decode cX9_same 106 = .ok (.aload_n 0, 1) := by decide +kernel
theorem dX9_same_107 : decode cX9_same 107 = .ok (.iload_n 3, 1) := by decide +kernel
theorem dX9_same_108 : decode cX9_same 108 = .ok (.iload 5, 2) := by decide +kernel
theorem dX9_same_110 : decode cX9_same 110 = .ok (.invokevirtual 113, 3) := by decide +kernel
theorem dX9_same_113 : decode cX9_same 113 = .ok (.aload_n 0, 1) := by decide +kernel
theorem dX9_same_114 : decode cX9_same 114 = .ok (.iload_n 1, 1) := by decide +kernel
theorem dX9_same_115 : decode cX9_same 115 = .ok (.iload 5, 2) := by decide +kernel
theorem dX9_same_117 : decode cX9_same 117 = .ok (.invokevirtual 113, 3) := by decide +kernel
theorem dX9_same_120 : decode cX9_same 120 = .ok (.if_icmp .ne 7, 3) := by decide +kernel
theorem dX9_same_123 : decode cX9_same 123 = .ok (.iconst (-1), 1) := by decide +kernel
theorem dX9_same_124 : decode cX9_same 124 = .ok (.goto 9, 3) := by decide +kernel
theorem dX9_same_127 : decode cX9_same 127 = .ok (.iconst 1, 1) := by decide +kernel
theorem dX9_same_128 : decode cX9_same 128 = .ok (.iload 5, 2) := by decide +kernel
theorem dX9_same_130 : decode cX9_same 130 = .ok (.ishl, 1) := by decide +kernel
theorem dX9_same_131 : decode cX9_same 131 = .ok (.iconst (-1), 1) := by decide +kernel
theorem dX9_same_132 : decode cX9_same 132 = .ok (.ixor, 1) := by decide +kernel
theorem dX9_same_133 : decode cX9_same 133 = .ok (.iand, 1) := by decide +kernel
theorem dX9_same_134 : decode cX9_same 134 = .ok (.istore_n 2, 1) := by decide +kernel
theorem dX9_same_135 : decode cX9_same 135 = .ok (.iinc 5 1, 3) := by decide +kernel
theorem dX9_same_138 : decode cX9_same 138 = .ok (.goto (-49), 3) := by decide +kernel
theorem dX9_same_141 : decode cX9_same 141 = .ok (.iinc 3 1, 3) := by decide +kernel
theorem dX9_same_144 : decode cX9_same 144 = .ok (.goto (-128), 3) := by decide +kernel
theorem dX9_same_147 : decode cX9_same 147 = .ok (.iload_n 1, 1) := by decide +kernel
theorem dX9_same_148 : decode cX9_same 148 = .ok (.bipush (-9), 2) := by decide +kernel
theorem dX9_same_150 : decode cX9_same 150 = .ok (.if_icmp .ne 7, 3) := by decide +kernel
theorem dX9_same_153 : decode cX9_same 153 = .ok (.iconst 0, 1) := by decide +kernel
theorem dX9_same_154 : decode cX9_same 154 = .ok (.goto 4, 3) := by decide +kernel
theorem dX9_same_157 : decode cX9_same 157 = .ok (.iload_n 2, 1) := by decide +kernel
theorem dX9_same_158 : decode cX9_same 158 = .ok (.ireturn, 1) := by decide +kernel
theorem dX9_now_0 : decode cX9_now 0 = .ok (.iconst 0, 1) := by decide +kernel
theorem dX9_now_1 : decode cX9_now 1 = .ok (.istore_n 2, 1) := by decide +kernel
theorem dX9_now_2 : decode cX9_now 2 = .ok (.iload_n 1, 1) := by decide +kernel
theorem dX9_now_3 : decode cX9_now 3 = .ok (.tableswitch 188 0 5 #[37, 44, 52, 96, 134, 139], 37) := by decide +kernel
theorem dX9_now_40 : decode cX9_now 40 = .ok (.aload_n 0, 1) := by decide +kernel
theorem dX9_now_41 : decode cX9_now 41 = .ok (.getfield 35, 3) := by decide +kernel
theorem dX9_now_44 : decode cX9_now 44 = .ok (.iconst 1, 1) := by decide +kernel
theorem dX9_now_45 : decode cX9_now 45 = .ok (.iaload, 1) := by decide +kernel
theorem dX9_now_46 : decode cX9_now 46 = .ok (.ireturn, 1) := by decide +kernel
theorem dX9_now_47 : decode cX9_now 47 = .ok (.aload_n 0, 1) := by decide +kernel
theorem dX9_now_48 : decode cX9_now 48 = .ok (.getfield 35, 3) := by decide +kernel
theorem dX9_now_51 : decode cX9_now 51 = .ok (.bipush 8, 2) := by decide +kernel
theorem dX9_now_53 : decode cX9_now 53 = .ok (.iaload, 1) := by decide +kernel
theorem dX9_now_54 : decode cX9_now 54 = .ok (.ireturn, 1) := by decide +kernel
theorem dX9_now_55 : decode cX9_now 55 = .ok (.iconst 0, 1) := by decide +kernel
theorem dX9_now_56 : decode cX9_now 56 = .ok (.istore_n 3, 1) := by decide +kernel
theorem dX9_now_57 : decode cX9_now 57 = .ok (.iload_n 3, 1) := by decide +kernel
theorem dX9_now_58 : decode cX9_now 58 = .ok (.aload_n 0, 1) := by decide +kernel
theorem dX9_now_59 : decode cX9_now 59 = .ok (.getfield 23, 3) := by decide +kernel
theorem dX9_now_62 : decode cX9_now 62 = .ok (.iconst 0, 1) := by decide +kernel
theorem dX9_now_63 : decode cX9_now 63 = .ok (.iaload, 1) := by decide +kernel
theorem dX9_now_64 : decode cX9_now 64 = .ok (.if_icmp .ge 33, 3) := by decide +kernel
theorem dX9_now_67 : decode cX9_now 67 = .ok (.iload_n 2, 1) := by decide +kernel
theorem dX9_now_68 : decode cX9_now 68 = .ok (.aload_n 0, 1) := by decide +kernel
theorem dX9_now_69 : decode cX9_now 69 = .ok (.iload_n 3, 1) := by decide +kernel
theorem dX9_now_70 : decode cX9_now 70 = .ok (.aload_n 0, 1) := by decide +kernel
theorem dX9_now_71 : decode cX9_now 71 = .ok (.getfield 35, 3) := by decide +kernel
theorem dX9_now_74 : decode cX9_now 74 = .ok (.iconst 0, 1) := by decide +kernel
theorem dX9_now_75 : decode cX9_now 75 = .ok (.iaload, 1) := by decide +kernel
theorem dX9_now_76 : decode cX9_now 76 = .ok (.invokevirtual 136, 3) := by decide +kernel
theorem dX9_now_79 : decode cX9_now 79 = .ok (.ifCond .eq 9, 3) := by decide +kernel
theorem dX9_now_82 : decode cX9_now 82 = .ok (.iconst 1, 1) := by decide +kernel
theorem dX9_now_83 : decode cX9_now 83 = .ok (.iload_n 3, 1) := by decide +kernel
theorem dX9_now_84 : decode cX9_now 84 = .ok (.ishl, 1) := by decide +kernel
theorem dX9_now_85 : decode cX9_now 85 = .ok (.goto 4, 3) := by decide +kernel
theorem dX9_now_88 : decode cX9_now 88 = .ok (.iconst 0, 1) := by decide +kernel
theorem dX9_now_89 : decode cX9_now 89 = .ok (.ior, 1) := by decide +kernel
theorem dX9_now_90 : decode cX9_now 90 = .ok (.istore_n 2, 1) := by decide +kernel
theorem dX9_now_91 : decode cX9_now 91 = .ok (.iinc 3 1, 3) := by decide +kernel
theorem dX9_now_94 : decode cX9_now 94 = .ok (.goto (-37), 3) := by decide +kernel
theorem dX9_now_97 : decode cX9_now 97 = .ok (.iload_n 2, 1) := by decide +kernel
theorem dX9_now_98 : decode cX9_now 98 = .ok (.ireturn, 1) := by decide +kernel
theorem dX9_now_99 : decode cX9_now 99 = .ok (.iconst 0, 1) := by decide +kernel
theorem dX9_now_100 : decode cX9_now 100 = .ok (.istore_n 3, 1) := by decide +kernel
theorem dX9_now_101 : decode cX9_now 101 = .ok (.iload_n 3, 1) := by decide +kernel
theorem dX9_now_102 : decode cX9_now 102 = .ok (.aload_n 0, 1) := by decide +kernel
theorem dX9_now_103 : decode cX9_now 103 = .ok (.getfield 23, 3) := by decide +kernel
theorem dX9_now_106 : decode cX9_now 106 = .ok (.iconst 0, 1) := by decide +kernel
theorem dX9_now_107 : decode cX9_now 107 = .ok (.iaload, 1) := by decide +kernel
theorem dX9_now_108 : decode cX9_now 108 = .ok (.if_icmp .ge 27, 3) := by decide +kernel
theorem dX9_now_111 : decode cX9_now 111 = .ok (.iload_n 2, 1) := by decide +kernel
theorem dX9_now_112 : decode cX9_now 112 = .ok (.aload_n 0, 1) := by decide +kernel
theorem dX9_now_113 : decode cX9_now 113 = .ok (.iload_n 3, 1) := by decide +kernel
theorem dX9_now_114 : decode cX9_now 114 = .ok (.invokevirtual 158, 3) := by decide +kernel
theorem dX9_now_117 : decode cX9_now 117 = .ok (.ifCond .le 9, 3) := by decide +kernel
theorem dX9_now_120 : decode cX9_now 120 = .ok (.iconst 1, 1) := by decide +kernel
theorem dX9_now_121 : decode cX9_now 121 = .ok (.iload_n 3, 1) := by decide +kernel
theorem dX9_now_122 : decode cX9_now 122 = .ok (.ishl, 1) := by decide +kernel
theorem dX9_now_123 : decode cX9_now 123 = .ok (.goto 4, 3) := by decide +kernel
theorem dX9_now_126 : decode cX9_now 126 = .ok (.iconst 0, 1) := by decide +kernel
theorem dX9_now_127 : decode cX9_now 127 = .ok (.ior, 1) := by decide +kernel
theorem dX9_now_128 : decode cX9_now 128 = .ok (.istore_n 2, 1) := by decide +kernel
theorem dX9_now_129 : decode cX9_now 129 = .ok (.iinc 3 1, 3) := by decide +kernel
theorem dX9_now_132 : decode cX9_now 132 = .ok (.goto (-31), 3) := by decide +kernel
theorem dX9_now_135 : decode cX9_now 135 = .ok (.iload_n 2, 1) := by decide +kernel
theorem dX9_now_136 : decode cX9_now 136 = .ok (.ireturn, 1) := by decide +kernel
theorem dX9_now_137 : decode cX9_now 137 = .ok (.aload_n 0, 1) := by decide +kernel
theorem dX9_now_138 : decode cX9_now 138 = .ok (.invokevirtual 161, 3) := by decide +kernel
theorem dX9_now_141 : decode cX9_now 141 = .ok (.ireturn, 1) := by decide +kernel
theorem dX9_now_142 : decode cX9_now 142 = .ok (.iconst 0, 1) := by decide +kernel
theorem dX9_now_143 : decode cX9_now 143 = .ok (.istore_n 3, 1) := by decide +kernel
theorem dX9_now_144 : decode cX9_now 144 = .ok (.iload_n 3, 1) := by decide +kernel
theorem dX9_now_145 : decode cX9_now 145 = .ok (.aload_n 0, 1) := by decide +kernel
theorem dX9_now_146 : decode cX9_now 146 = .ok (.getfield 23, 3) := by decide +kernel
theorem dX9_now_149 : decode cX9_now 149 = .ok (.iconst 0, 1) := by decide +kernel
theorem dX9_now_150 : decode cX9_now 150 = .ok (.iaload, 1) := by decide +kernel
theorem dX9_now_151 : decode cX9_now 151 = .ok (.if_icmp .ge 38, 3) := by decide +kernel
theorem dX9_now_154 : decode cX9_now 154 = .ok (.iload_n 2, 1) := by decide +kernel
theorem dX9_now_155 : decode cX9_now 155 = .ok (.aload_n 0, 1) := by decide +kernel
theorem dX9_now_156 : decode cX9_now 156 = .ok (.aload_n 0, 1) := by decide +kernel
theorem dX9_now_157 : decode cX9_now 157 = .ok (.getfield 26, 3) := by decide +kernel
theorem dX9_now_160 : decode cX9_now 160 = .ok (.iload_n 3, 1) := by decide +kernel
theorem dX9_now_161 : decode cX9_now 161 = .ok (.iaload, 1) := by decide +kernel
theorem dX9_now_162 : decode cX9_now 162 = .ok (.aload_n 0, 1) := by decide +kernel
theorem dX9_now_163 : decode cX9_now 163 = .ok (.getfield 29, 3) := by decide +kernel
theorem dX9_now_166 : decode cX9_now 166 = .ok (.iload_n 3, 1) := by decide +kernel
theorem dX9_now_167 : decode cX9_now 167 = .ok (.iaload, 1) := by decide +kernel
theorem dX9_now_168 : decode cX9_now 168 = .ok (.invokevirtual 164, 3) := by decide +kernel
theorem dX9_now_171 : decode cX9_now 171 = .ok (.ifCond .eq 9, 3) := by decide +kernel
theorem dX9_now_174 : decode cX9_now 174 = .ok (.iconst 1, 1) := by decide +kernel
theorem dX9_now_175 : decode cX9_now 175 = .ok (.iload_n 3, 1) := by decide +kernel
theorem dX9_now_176 : decode cX9_now 176 = .ok (.ishl, 1) := by decide +kernel
theorem dX9_now_177 : decode cX9_now 177 = .ok (.goto 4, 3) := by decide +kernel
theorem dX9_now_180 : decode cX9_now 180 = .ok (.iconst 0, 1) := by decide +kernel
theorem dX9_now_181 : decode cX9_now 181 = .ok (.ior, 1) := by decide +kernel
theorem dX9_now_182 : decode cX9_now 182 = .ok (.istore_n 2, 1) := by decide +kernel
theorem dX9_now_183 : decode cX9_now 183 = .ok (.iinc 3 1, 3) := by decide +kernel
theorem dX9_now_186 : decode cX9_now 186 = .ok (.goto (-42), 3) := by decide +kernel
theorem dX9_now_189 : decode cX9_now 189 = .ok (.iload_n 2, 1) := by decide +kernel
theorem dX9_now_190 : decode cX9_now 190 = .ok (.ireturn, 1) := by decide +kernel
theorem dX9_now_191 : decode cX9_now 191 = .ok (.iconst (-1), 1) := by decide +kernel
theorem dX9_now_192 : decode cX9_now 192 = .ok (.ireturn, 1) := by decide +kernel
theorem dX9_go_0 : decode cX9_go 0 = .ok (.aload_n 0, 1) := by decide +kernel
theorem dX9_go_1 : decode cX9_go 1 = .ok (.iload_n 1, 1) := by decide +kernel
theorem dX9_go_2 : decode cX9_go 2 = .ok (.putfield 167, 3) := by decide +kernel
theorem dX9_go_5 : decode cX9_go 5 = .ok (.aload_n 0, 1) := by decide +kernel
theorem dX9_go_6 : decode cX9_go 6 = .ok (.bipush (-9), 2) := by decide +kernel
theorem dX9_go_8 : decode cX9_go 8 = .ok (.putfield 170, 3) := by decide +kernel
theorem dX9_go_11 : decode cX9_go 11 = .ok (.aload_n 0, 1) := by decide +kernel
theorem dX9_go_12 : decode cX9_go 12 = .ok (.iconst 0, 1) := by decide +kernel
theorem dX9_go_13 : decode cX9_go 13 = .ok (.putfield 173, 3) := by decide +kernel
theorem dX9_go_16 : decode cX9_go 16 = .ok (.iconst (-1), 1) := by decide +kernel
theorem dX9_go_17 : decode cX9_go 17 = .ok (.istore 4, 2) := by decide +kernel
theorem dX9_go_19 : decode cX9_go 19 = .ok (.aload_n 0, 1) := by decide +kernel
theorem dX9_go_20 : decode cX9_go 20 = .ok (.getfield 170, 3) := by decide +kernel
theorem dX9_go_23 : decode cX9_go 23 = .ok (.bipush (-9), 2) := by decide +kernel
theorem dX9_go_25 : decode cX9_go 25 = .ok (.if_icmp .ne 83, 3) := by decide +kernel
theorem dX9_go_28 : decode cX9_go 28 = .ok (.aload_n 0, 1) := by decide +kernel
theorem dX9_go_29 : decode cX9_go 29 = .ok (.getfield 173, 3) := by decide +kernel
theorem dX9_go_32 : decode cX9_go 32 = .ok (.iload_n 3, 1) := by decide +kernel
theorem dX9_go_33 : decode cX9_go 33 = .ok (.if_icmp .ge 75, 3) := by decide +kernel
theorem dX9_go_36 : decode cX9_go 36 = .ok (.iload_n 2, 1) := by decide +kernel
theorem dX9_go_37 : decode cX9_go 37 = .ok (.ifCond .eq 71, 3) := by decide +kernel
theorem dX9_go_40 : decode cX9_go 40 = .ok (.iload 4, 2) := by decide +kernel
theorem dX9_go_42 : decode cX9_go 42 = .ok (.iconst 1, 1) := by decide +kernel
theorem dX9_go_43 : decode cX9_go 43 = .ok (.iadd, 1) := by decide +kernel
theorem dX9_go_44 : decode cX9_go 44 = .ok (.bipush 6, 2) := by decide +kernel
theorem dX9_go_46 : decode cX9_go 46 = .ok (.irem, 1) := by decide +kernel
theorem dX9_go_47 : decode cX9_go 47 = .ok (.istore 4, 2) := by decide +kernel
theorem dX9_go_49 : decode cX9_go 49 = .ok (.iload_n 2, 1) := by decide +kernel
theorem dX9_go_50 : decode cX9_go 50 = .ok (.iload 4, 2) := by decide +kernel
theorem dX9_go_52 : decode cX9_go 52 = .ok (.ishr, 1) := by decide +kernel
theorem dX9_go_53 : decode cX9_go 53 = .ok (.iconst 1, 1) := by decide +kernel
theorem dX9_go_54 : decode cX9_go 54 = .ok (.iand, 1) := by decide +kernel
theorem dX9_go_55 : decode cX9_go 55 = .ok (.iconst 1, 1) := by decide +kernel
theorem dX9_go_56 : decode cX9_go 56 = .ok (.if_icmp .ne (-37), 3) := by decide +kernel
theorem dX9_go_59 : decode cX9_go 59 = .ok (.aload_n 0, 1) := by decide +kernel
theorem dX9_go_60 : decode cX9_go 60 = .ok (.iload 4, 2) := by decide +kernel
theorem dX9_go_62 : decode cX9_go 62 = .ok (.aload_n 0, 1) := by decide +kernel
theorem dX9_go_63 : decode cX9_go 63 = .ok (.getfield 167, 3) := by decide +kernel
theorem dX9_go_66 : decode cX9_go 66 = .ok (.invokevirtual 136, 3) := by decide +kernel
theorem dX9_go_69 : decode cX9_go 69 = .ok (.ifCond .eq 12, 3) := by decide +kernel
theorem dX9_go_72 : decode cX9_go 72 = .ok (.aload_n 0, 1) := by decide +kernel
theorem dX9_go_73 : decode cX9_go 73 = .ok (.iload 4, 2) := by decide +kernel
theorem dX9_go_75 : decode cX9_go 75 = .ok (.putfield 170, 3) := by decide +kernel
theorem dX9_go_78 : decode cX9_go 78 = .ok (.goto (-59), 3) := by decide +kernel
theorem dX9_go_81 : decode cX9_go 81 = .ok (.aload_n 0, 1) := by decide +kernel
theorem dX9_go_82 : decode cX9_go 82 = .ok (.aload_n 0, 1) := by decide +kernel
theorem dX9_go_83 : decode cX9_go 83 = .ok (.iload 4, 2) := by decide +kernel
theorem dX9_go_85 : decode cX9_go 85 = .ok (.aload_n 0, 1) := by decide +kernel
theorem dX9_go_86 : decode cX9_go 86 = .ok (.getfield 167, 3) := by decide +kernel
theorem dX9_go_89 : decode cX9_go 89 = .ok (.invokevirtual 126, 3) := by decide +kernel
theorem dX9_go_92 : decode cX9_go 92 = .ok (.putfield 167, 3) := by decide +kernel
theorem dX9_go_95 : decode cX9_go 95 = .ok (.aload_n 0, 1) := by decide +kernel
theorem dX9_go_96 : decode cX9_go 96 = .ok (.dup, 1) := by decide +kernel
theorem dX9_go_97 : decode cX9_go 97 = .ok (.getfield 173, 3) := by decide +kernel
theorem dX9_go_100 : decode cX9_go 100 = .ok (.iconst 1, 1) := by decide +kernel
theorem dX9_go_101 : decode cX9_go 101 = .ok (.iadd, 1) := by decide +kernel
theorem dX9_go_102 : decode cX9_go 102 = .ok (.putfield 173, 3) := by decide +kernel
theorem dX9_go_105 : decode cX9_go 105 = .ok (.goto (-86), 3) := by decide +kernel
theorem dX9_go_108 : decode cX9_go 108 = .ok (.return_, 1) := by decide +kernel
theorem dX9_boughtIn_0 : decode cX9_boughtIn 0 = .ok (.iconst 1, 1) := by decide +kernel
theorem dX9_boughtIn_1 : decode cX9_boughtIn 1 = .ok (.aload_n 0, 1) := by decide +kernel
theorem dX9_boughtIn_2 : decode cX9_boughtIn 2 = .ok (.getfield 23, 3) := by decide +kernel
theorem dX9_boughtIn_5 : decode cX9_boughtIn 5 = .ok (.iconst 0, 1) := by decide +kernel
theorem dX9_boughtIn_6 : decode cX9_boughtIn 6 = .ok (.iaload, 1) := by decide +kernel
theorem dX9_boughtIn_7 : decode cX9_boughtIn 7 = .ok (.ishl, 1) := by decide +kernel
theorem dX9_boughtIn_8 : decode cX9_boughtIn 8 = .ok (.iconst 1, 1) := by decide +kernel
theorem dX9_boughtIn_9 : decode cX9_boughtIn 9 = .ok (.isub, 1) := by decide +kernel
theorem dX9_boughtIn_10 : decode cX9_boughtIn 10 = .ok (.aload_n 0, 1) := by decide +kernel
theorem dX9_boughtIn_11 : decode cX9_boughtIn 11 = .ok (.getfield 35, 3) := by decide +kernel
theorem dX9_boughtIn_14 : decode cX9_boughtIn 14 = .ok (.bipush 8, 2) := by decide +kernel
theorem dX9_boughtIn_16 : decode cX9_boughtIn 16 = .ok (.iaload, 1) := by decide +kernel
theorem dX9_boughtIn_17 : decode cX9_boughtIn 17 = .ok (.iconst (-1), 1) := by decide +kernel
theorem dX9_boughtIn_18 : decode cX9_boughtIn 18 = .ok (.ixor, 1) := by decide +kernel
theorem dX9_boughtIn_19 : decode cX9_boughtIn 19 = .ok (.iand, 1) := by decide +kernel
theorem dX9_boughtIn_20 : decode cX9_boughtIn 20 = .ok (.ireturn, 1) := by decide +kernel
theorem dX9_behind_0 : decode cX9_behind 0 = .ok (.iload_n 1, 1) := by decide +kernel
theorem dX9_behind_1 : decode cX9_behind 1 = .ok (.iconst 0, 1) := by decide +kernel
theorem dX9_behind_2 : decode cX9_behind 2 = .ok (.bipush 99, 2) := by decide +kernel
theorem dX9_behind_4 : decode cX9_behind 4 = .ok (.invokestatic 57, 3) := by decide +kernel
theorem dX9_behind_7 : decode cX9_behind 7 = .ok (.ifCond .eq 11, 3) := by decide +kernel
theorem dX9_behind_10 : decode cX9_behind 10 = .ok (.aload_n 0, 1) := by decide +kernel
theorem dX9_behind_11 : decode cX9_behind 11 = .ok (.iload_n 2, 1) := by decide +kernel
theorem dX9_behind_12 : decode cX9_behind 12 = .ok (.invokevirtual 129, 3) := by decide +kernel
theorem dX9_behind_15 : decode cX9_behind 15 = .ok (.ifCond .ne 5, 3) := by decide +kernel
theorem dX9_behind_18 : decode cX9_behind 18 = .ok (.iconst (-1), 1) := by decide +kernel
theorem dX9_behind_19 : decode cX9_behind 19 = .ok (.ireturn, 1) := by decide +kernel
theorem dX9_behind_20 : decode cX9_behind 20 = .ok (.aload_n 0, 1) := by decide +kernel
theorem dX9_behind_21 : decode cX9_behind 21 = .ok (.aload_n 0, 1) := by decide +kernel
theorem dX9_behind_22 : decode cX9_behind 22 = .ok (.getfield 35, 3) := by decide +kernel
theorem dX9_behind_25 : decode cX9_behind 25 = .ok (.iconst 0, 1) := by decide +kernel
theorem dX9_behind_26 : decode cX9_behind 26 = .ok (.iaload, 1) := by decide +kernel
theorem dX9_behind_27 : decode cX9_behind 27 = .ok (.aload_n 0, 1) := by decide +kernel
theorem dX9_behind_28 : decode cX9_behind 28 = .ok (.invokevirtual 176, 3) := by decide +kernel
theorem dX9_behind_31 : decode cX9_behind 31 = .ok (.iload_n 1, 1) := by decide +kernel
theorem dX9_behind_32 : decode cX9_behind 32 = .ok (.invokevirtual 179, 3) := by decide +kernel
theorem dX9_behind_35 : decode cX9_behind 35 = .ok (.aload_n 0, 1) := by decide +kernel
theorem dX9_behind_36 : decode cX9_behind 36 = .ok (.aload_n 0, 1) := by decide +kernel
theorem dX9_behind_37 : decode cX9_behind 37 = .ok (.getfield 167, 3) := by decide +kernel
theorem dX9_behind_40 : decode cX9_behind 40 = .ok (.iload_n 2, 1) := by decide +kernel
theorem dX9_behind_41 : decode cX9_behind 41 = .ok (.invokevirtual 113, 3) := by decide +kernel
theorem dX9_behind_44 : decode cX9_behind 44 = .ok (.ireturn, 1) := by decide +kernel
theorem dX9_ends_0 : decode cX9_ends 0 = .ok (.iload_n 1, 1) := by decide +kernel
theorem dX9_ends_1 : decode cX9_ends 1 = .ok (.iconst 0, 1) := by decide +kernel
theorem dX9_ends_2 : decode cX9_ends 2 = .ok (.iconst 1, 1) := by decide +kernel
theorem dX9_ends_3 : decode cX9_ends 3 = .ok (.invokestatic 57, 3) := by decide +kernel
theorem dX9_ends_6 : decode cX9_ends 6 = .ok (.ifCond .ne 5, 3) := by decide +kernel
theorem dX9_ends_9 : decode cX9_ends 9 = .ok (.iconst (-1), 1) := by decide +kernel
theorem dX9_ends_10 : decode cX9_ends 10 = .ok (.ireturn, 1) := by decide +kernel
theorem dX9_ends_11 : decode cX9_ends 11 = .ok (.aload_n 0, 1) := by decide +kernel
theorem dX9_ends_12 : decode cX9_ends 12 = .ok (.aload_n 0, 1) := by decide +kernel
theorem dX9_ends_13 : decode cX9_ends 13 = .ok (.getfield 35, 3) := by decide +kernel
theorem dX9_ends_16 : decode cX9_ends 16 = .ok (.iconst 0, 1) := by decide +kernel
theorem dX9_ends_17 : decode cX9_ends 17 = .ok (.iaload, 1) := by decide +kernel
theorem dX9_ends_18 : decode cX9_ends 18 = .ok (.aload_n 0, 1) := by decide +kernel
theorem dX9_ends_19 : decode cX9_ends 19 = .ok (.invokevirtual 176, 3) := by decide +kernel
theorem dX9_ends_22 : decode cX9_ends 22 = .ok (.sipush 4000, 3) := by decide +kernel
theorem dX9_ends_25 : decode cX9_ends 25 = .ok (.invokevirtual 179, 3) := by decide +kernel
theorem dX9_ends_28 : decode cX9_ends 28 = .ok (.iload_n 1, 1) := by decide +kernel
theorem dX9_ends_29 : decode cX9_ends 29 = .ok (.ifCond .ne 10, 3) := by decide +kernel
theorem dX9_ends_32 : decode cX9_ends 32 = .ok (.aload_n 0, 1) := by decide +kernel
theorem dX9_ends_33 : decode cX9_ends 33 = .ok (.getfield 170, 3) := by decide +kernel
theorem dX9_ends_36 : decode cX9_ends 36 = .ok (.goto 22, 3) := by decide +kernel
theorem dX9_ends_39 : decode cX9_ends 39 = .ok (.aload_n 0, 1) := by decide +kernel
theorem dX9_ends_40 : decode cX9_ends 40 = .ok (.getfield 173, 3) := by decide +kernel
theorem dX9_ends_43 : decode cX9_ends 43 = .ok (.sipush 4000, 3) := by decide +kernel
theorem dX9_ends_46 : decode cX9_ends 46 = .ok (.if_icmp .ne 8, 3) := by decide +kernel
theorem dX9_ends_49 : decode cX9_ends 49 = .ok (.bipush (-9), 2) := by decide +kernel
theorem dX9_ends_51 : decode cX9_ends 51 = .ok (.goto 7, 3) := by decide +kernel
theorem dX9_ends_54 : decode cX9_ends 54 = .ok (.aload_n 0, 1) := by decide +kernel
theorem dX9_ends_55 : decode cX9_ends 55 = .ok (.getfield 173, 3) := by decide +kernel
theorem dX9_ends_58 : decode cX9_ends 58 = .ok (.ireturn, 1) := by decide +kernel
theorem dX9_lasts_0 : decode cX9_lasts 0 = .ok (.iload_n 1, 1) := by decide +kernel
theorem dX9_lasts_1 : decode cX9_lasts 1 = .ok (.iconst 0, 1) := by decide +kernel
theorem dX9_lasts_2 : decode cX9_lasts 2 = .ok (.iconst 1, 1) := by decide +kernel
theorem dX9_lasts_3 : decode cX9_lasts 3 = .ok (.invokestatic 57, 3) := by decide +kernel
theorem dX9_lasts_6 : decode cX9_lasts 6 = .ok (.ifCond .ne 5, 3) := by decide +kernel
theorem dX9_lasts_9 : decode cX9_lasts 9 = .ok (.iconst (-1), 1) := by decide +kernel
theorem dX9_lasts_10 : decode cX9_lasts 10 = .ok (.ireturn, 1) := by decide +kernel
theorem dX9_lasts_11 : decode cX9_lasts 11 = .ok (.aload_n 0, 1) := by decide +kernel
theorem dX9_lasts_12 : decode cX9_lasts 12 = .ok (.getfield 17, 3) := by decide +kernel
theorem dX9_lasts_15 : decode cX9_lasts 15 = .ok (.iconst 0, 1) := by decide +kernel
theorem dX9_lasts_16 : decode cX9_lasts 16 = .ok (.iaload, 1) := by decide +kernel
theorem dX9_lasts_17 : decode cX9_lasts 17 = .ok (.ifCond .eq 10, 3) := by decide +kernel
theorem dX9_lasts_20 : decode cX9_lasts 20 = .ok (.aload_n 0, 1) := by decide +kernel
theorem dX9_lasts_21 : decode cX9_lasts 21 = .ok (.invokevirtual 176, 3) := by decide +kernel
theorem dX9_lasts_24 : decode cX9_lasts 24 = .ok (.ifCond .ne 6, 3) := by decide +kernel
theorem dX9_lasts_27 : decode cX9_lasts 27 = .ok (.bipush (-9), 2) := by decide +kernel
theorem dX9_lasts_29 : decode cX9_lasts 29 = .ok (.ireturn, 1) := by decide +kernel
theorem dX9_lasts_30 : decode cX9_lasts 30 = .ok (.bipush (-9), 2) := by decide +kernel
theorem dX9_lasts_32 : decode cX9_lasts 32 = .ok (.istore_n 2, 1) := by decide +kernel
theorem dX9_lasts_33 : decode cX9_lasts 33 = .ok (.iconst (-1), 1) := by decide +kernel
theorem dX9_lasts_34 : decode cX9_lasts 34 = .ok (.istore_n 3, 1) := by decide +kernel
theorem dX9_lasts_35 : decode cX9_lasts 35 = .ok (.iconst 0, 1) := by decide +kernel
theorem dX9_lasts_36 : decode cX9_lasts 36 = .ok (.istore 4, 2) := by decide +kernel
theorem dX9_lasts_38 : decode cX9_lasts 38 = .ok (.iload 4, 2) := by decide +kernel
theorem dX9_lasts_40 : decode cX9_lasts 40 = .ok (.aload_n 0, 1) := by decide +kernel
theorem dX9_lasts_41 : decode cX9_lasts 41 = .ok (.invokevirtual 152, 3) := by decide +kernel
theorem dX9_lasts_44 : decode cX9_lasts 44 = .ok (.if_icmp .ge 51, 3) := by decide +kernel
theorem dX9_lasts_47 : decode cX9_lasts 47 = .ok (.aload_n 0, 1) := by decide +kernel
theorem dX9_lasts_48 : decode cX9_lasts 48 = .ok (.iload 4, 2) := by decide +kernel
theorem dX9_lasts_50 : decode cX9_lasts 50 = .ok (.aload_n 0, 1) := by decide +kernel
theorem dX9_lasts_51 : decode cX9_lasts 51 = .ok (.invokevirtual 176, 3) := by decide +kernel
theorem dX9_lasts_54 : decode cX9_lasts 54 = .ok (.sipush 4000, 3) := by decide +kernel
theorem dX9_lasts_57 : decode cX9_lasts 57 = .ok (.invokevirtual 179, 3) := by decide +kernel
theorem dX9_lasts_60 : decode cX9_lasts 60 = .ok (.aload_n 0, 1) := by decide +kernel
theorem dX9_lasts_61 : decode cX9_lasts 61 = .ok (.getfield 173, 3) := by decide +kernel
theorem dX9_lasts_64 : decode cX9_lasts 64 = .ok (.sipush 4000, 3) := by decide +kernel
theorem dX9_lasts_67 : decode cX9_lasts 67 = .ok (.if_icmp .ne 6, 3) := by decide +kernel
theorem dX9_lasts_70 : decode cX9_lasts 70 = .ok (.bipush (-9), 2) := by decide +kernel
theorem dX9_lasts_72 : decode cX9_lasts 72 = .ok (.ireturn, 1) := by decide +kernel
theorem dX9_lasts_73 : decode cX9_lasts 73 = .ok (.aload_n 0, 1) := by decide +kernel
theorem dX9_lasts_74 : decode cX9_lasts 74 = .ok (.getfield 173, 3) := by decide +kernel
theorem dX9_lasts_77 : decode cX9_lasts 77 = .ok (.iload_n 3, 1) := by decide +kernel
theorem dX9_lasts_78 : decode cX9_lasts 78 = .ok (.if_icmp .le 11, 3) := by decide +kernel
theorem dX9_lasts_81 : decode cX9_lasts 81 = .ok (.iload 4, 2) := by decide +kernel
theorem dX9_lasts_83 : decode cX9_lasts 83 = .ok (.istore_n 2, 1) := by decide +kernel
theorem dX9_lasts_84 : decode cX9_lasts 84 = .ok (.aload_n 0, 1) := by decide +kernel
theorem dX9_lasts_85 : decode cX9_lasts 85 = .ok (.getfield 173, 3) := by decide +kernel
theorem dX9_lasts_88 : decode cX9_lasts 88 = .ok (.istore_n 3, 1) := by decide +kernel
theorem dX9_lasts_89 : decode cX9_lasts 89 = .ok (.iinc 4 1, 3) := by decide +kernel
theorem dX9_lasts_92 : decode cX9_lasts 92 = .ok (.goto (-54), 3) := by decide +kernel
theorem dX9_lasts_95 : decode cX9_lasts 95 = .ok (.iload_n 1, 1) := by decide +kernel
theorem dX9_lasts_96 : decode cX9_lasts 96 = .ok (.ifCond .ne 7, 3) := by decide +kernel
theorem dX9_lasts_99 : decode cX9_lasts 99 = .ok (.iload_n 2, 1) := by decide +kernel
theorem dX9_lasts_100 : decode cX9_lasts 100 = .ok (.goto 4, 3) := by decide +kernel
theorem dX9_lasts_103 : decode cX9_lasts 103 = .ok (.iload_n 3, 1) := by decide +kernel
theorem dX9_lasts_104 : decode cX9_lasts 104 = .ok (.ireturn, 1) := by decide +kernel
theorem dX9_buy_0 : decode cX9_buy 0 = .ok (.iload_n 1, 1) := by decide +kernel
theorem dX9_buy_1 : decode cX9_buy 1 = .ok (.iconst 1, 1) := by decide +kernel
theorem dX9_buy_2 : decode cX9_buy 2 = .ok (.bipush 99, 2) := by decide +kernel
theorem dX9_buy_4 : decode cX9_buy 4 = .ok (.invokestatic 57, 3) := by decide +kernel
theorem dX9_buy_7 : decode cX9_buy 7 = .ok (.ifCond .ne 5, 3) := by decide +kernel
theorem dX9_buy_10 : decode cX9_buy 10 = .ok (.iconst (-1), 1) := by decide +kernel
theorem dX9_buy_11 : decode cX9_buy 11 = .ok (.ireturn, 1) := by decide +kernel
theorem dX9_buy_12 : decode cX9_buy 12 = .ok (.bipush (-9), 2) := by decide +kernel
theorem dX9_buy_14 : decode cX9_buy 14 = .ok (.istore_n 2, 1) := by decide +kernel
theorem dX9_buy_15 : decode cX9_buy 15 = .ok (.iconst 0, 1) := by decide +kernel
theorem dX9_buy_16 : decode cX9_buy 16 = .ok (.istore_n 3, 1) := by decide +kernel
theorem dX9_buy_17 : decode cX9_buy 17 = .ok (.iload_n 3, 1) := by decide +kernel
theorem dX9_buy_18 : decode cX9_buy 18 = .ok (.aload_n 0, 1) := by decide +kernel
theorem dX9_buy_19 : decode cX9_buy 19 = .ok (.getfield 35, 3) := by decide +kernel
theorem dX9_buy_22 : decode cX9_buy 22 = .ok (.bipush 8, 2) := by decide +kernel
theorem dX9_buy_24 : decode cX9_buy 24 = .ok (.iaload, 1) := by decide +kernel
theorem dX9_buy_25 : decode cX9_buy 25 = .ok (.if_icmp .gt 71, 3) := by decide +kernel
theorem dX9_buy_28 : decode cX9_buy 28 = .ok (.iload_n 3, 1) := by decide +kernel
theorem dX9_buy_29 : decode cX9_buy 29 = .ok (.aload_n 0, 1) := by decide +kernel
theorem dX9_buy_30 : decode cX9_buy 30 = .ok (.getfield 35, 3) := by decide +kernel
theorem dX9_buy_33 : decode cX9_buy 33 = .ok (.bipush 8, 2) := by decide +kernel
theorem dX9_buy_35 : decode cX9_buy 35 = .ok (.iaload, 1) := by decide +kernel
theorem dX9_buy_36 : decode cX9_buy 36 = .ok (.iconst (-1), 1) := by decide +kernel
theorem dX9_buy_37 : decode cX9_buy 37 = .ok (.ixor, 1) := by decide +kernel
theorem dX9_buy_38 : decode cX9_buy 38 = .ok (.iand, 1) := by decide +kernel
theorem dX9_buy_39 : decode cX9_buy 39 = .ok (.ifCond .ne 51, 3) := by decide +kernel
theorem dX9_buy_42 : decode cX9_buy 42 = .ok (.iload_n 2, 1) := by decide +kernel
theorem dX9_buy_43 : decode cX9_buy 43 = .ok (.bipush (-9), 2) := by decide +kernel
theorem dX9_buy_45 : decode cX9_buy 45 = .ok (.if_icmp .eq 14, 3) := by decide +kernel
theorem dX9_buy_48 : decode cX9_buy 48 = .ok (.iload_n 3, 1) := by decide +kernel
theorem dX9_buy_49 : decode cX9_buy 49 = .ok (.invokestatic 122, 3) := by decide +kernel
theorem dX9_buy_52 : decode cX9_buy 52 = .ok (.iload_n 2, 1) := by decide +kernel
theorem dX9_buy_53 : decode cX9_buy 53 = .ok (.invokestatic 122, 3) := by decide +kernel
theorem dX9_buy_56 : decode cX9_buy 56 = .ok (.if_icmp .ge 34, 3) := by decide +kernel
theorem dX9_buy_59 : decode cX9_buy 59 = .ok (.aload_n 0, 1) := by decide +kernel
theorem dX9_buy_60 : decode cX9_buy 60 = .ok (.aload_n 0, 1) := by decide +kernel
theorem dX9_buy_61 : decode cX9_buy 61 = .ok (.getfield 35, 3) := by decide +kernel
theorem dX9_buy_64 : decode cX9_buy 64 = .ok (.iconst 0, 1) := by decide +kernel
theorem dX9_buy_65 : decode cX9_buy 65 = .ok (.iaload, 1) := by decide +kernel
theorem dX9_buy_66 : decode cX9_buy 66 = .ok (.aload_n 0, 1) := by decide +kernel
theorem dX9_buy_67 : decode cX9_buy 67 = .ok (.invokevirtual 176, 3) := by decide +kernel
theorem dX9_buy_70 : decode cX9_buy 70 = .ok (.iload_n 3, 1) := by decide +kernel
theorem dX9_buy_71 : decode cX9_buy 71 = .ok (.ior, 1) := by decide +kernel
theorem dX9_buy_72 : decode cX9_buy 72 = .ok (.iload_n 1, 1) := by decide +kernel
theorem dX9_buy_73 : decode cX9_buy 73 = .ok (.invokevirtual 179, 3) := by decide +kernel
theorem dX9_buy_76 : decode cX9_buy 76 = .ok (.aload_n 0, 1) := by decide +kernel
theorem dX9_buy_77 : decode cX9_buy 77 = .ok (.getfield 173, 3) := by decide +kernel
theorem dX9_buy_80 : decode cX9_buy 80 = .ok (.iload_n 1, 1) := by decide +kernel
theorem dX9_buy_81 : decode cX9_buy 81 = .ok (.if_icmp .ne 7, 3) := by decide +kernel
theorem dX9_buy_84 : decode cX9_buy 84 = .ok (.iload_n 3, 1) := by decide +kernel
theorem dX9_buy_85 : decode cX9_buy 85 = .ok (.goto 4, 3) := by decide +kernel
theorem dX9_buy_88 : decode cX9_buy 88 = .ok (.iload_n 2, 1) := by decide +kernel
theorem dX9_buy_89 : decode cX9_buy 89 = .ok (.istore_n 2, 1) := by decide +kernel
theorem dX9_buy_90 : decode cX9_buy 90 = .ok (.iinc 3 1, 3) := by decide +kernel
theorem dX9_buy_93 : decode cX9_buy 93 = .ok (.goto (-76), 3) := by decide +kernel
theorem dX9_buy_96 : decode cX9_buy 96 = .ok (.iload_n 2, 1) := by decide +kernel
theorem dX9_buy_97 : decode cX9_buy 97 = .ok (.ireturn, 1) := by decide +kernel
theorem dX9_odds_0 : decode cX9_odds 0 = .ok (.iload_n 1, 1) := by decide +kernel
theorem dX9_odds_1 : decode cX9_odds 1 = .ok (.iconst 0, 1) := by decide +kernel
theorem dX9_odds_2 : decode cX9_odds 2 = .ok (.bipush 10, 2) := by decide +kernel
theorem dX9_odds_4 : decode cX9_odds 4 = .ok (.invokestatic 57, 3) := by decide +kernel
theorem dX9_odds_7 : decode cX9_odds 7 = .ok (.ifCond .eq 22, 3) := by decide +kernel
theorem dX9_odds_10 : decode cX9_odds 10 = .ok (.iload_n 2, 1) := by decide +kernel
theorem dX9_odds_11 : decode cX9_odds 11 = .ok (.iconst 0, 1) := by decide +kernel
theorem dX9_odds_12 : decode cX9_odds 12 = .ok (.bipush 9, 2) := by decide +kernel
theorem dX9_odds_14 : decode cX9_odds 14 = .ok (.invokestatic 57, 3) := by decide +kernel
theorem dX9_odds_17 : decode cX9_odds 17 = .ok (.ifCond .eq 12, 3) := by decide +kernel
theorem dX9_odds_20 : decode cX9_odds 20 = .ok (.iload_n 3, 1) := by decide +kernel
theorem dX9_odds_21 : decode cX9_odds 21 = .ok (.iconst 0, 1) := by decide +kernel
theorem dX9_odds_22 : decode cX9_odds 22 = .ok (.iconst 1, 1) := by decide +kernel
theorem dX9_odds_23 : decode cX9_odds 23 = .ok (.invokestatic 57, 3) := by decide +kernel
theorem dX9_odds_26 : decode cX9_odds 26 = .ok (.ifCond .ne 5, 3) := by decide +kernel
theorem dX9_odds_29 : decode cX9_odds 29 = .ok (.iconst (-1), 1) := by decide +kernel
theorem dX9_odds_30 : decode cX9_odds 30 = .ok (.ireturn, 1) := by decide +kernel
theorem dX9_odds_31 : decode cX9_odds 31 = .ok (.aload_n 0, 1) := by decide +kernel
theorem dX9_odds_32 : decode cX9_odds 32 = .ok (.aload_n 0, 1) := by decide +kernel
theorem dX9_odds_33 : decode cX9_odds 33 = .ok (.getfield 35, 3) := by decide +kernel
theorem dX9_odds_36 : decode cX9_odds 36 = .ok (.iconst 0, 1) := by decide +kernel
theorem dX9_odds_37 : decode cX9_odds 37 = .ok (.iaload, 1) := by decide +kernel
theorem dX9_odds_38 : decode cX9_odds 38 = .ok (.aload_n 0, 1) := by decide +kernel
theorem dX9_odds_39 : decode cX9_odds 39 = .ok (.invokevirtual 176, 3) := by decide +kernel
theorem dX9_odds_42 : decode cX9_odds 42 = .ok (.iload_n 2, 1) := by decide +kernel
theorem dX9_odds_43 : decode cX9_odds 43 = .ok (.invokevirtual 179, 3) := by decide +kernel
theorem dX9_odds_46 : decode cX9_odds 46 = .ok (.aload_n 0, 1) := by decide +kernel
theorem dX9_odds_47 : decode cX9_odds 47 = .ok (.getfield 173, 3) := by decide +kernel
theorem dX9_odds_50 : decode cX9_odds 50 = .ok (.iload_n 2, 1) := by decide +kernel
theorem dX9_odds_51 : decode cX9_odds 51 = .ok (.if_icmp .ne 7, 3) := by decide +kernel
theorem dX9_odds_54 : decode cX9_odds 54 = .ok (.iconst 1, 1) := by decide +kernel
theorem dX9_odds_55 : decode cX9_odds 55 = .ok (.goto 4, 3) := by decide +kernel
theorem dX9_odds_58 : decode cX9_odds 58 = .ok (.iconst 0, 1) := by decide +kernel
theorem dX9_odds_59 : decode cX9_odds 59 = .ok (.istore 4, 2) := by decide +kernel
theorem dX9_odds_61 : decode cX9_odds 61 = .ok (.iconst 1, 1) := by decide +kernel
theorem dX9_odds_62 : decode cX9_odds 62 = .ok (.istore 5, 2) := by decide +kernel
theorem dX9_odds_64 : decode cX9_odds 64 = .ok (.iconst 0, 1) := by decide +kernel
theorem dX9_odds_65 : decode cX9_odds 65 = .ok (.istore 6, 2) := by decide +kernel
theorem dX9_odds_67 : decode cX9_odds 67 = .ok (.iload 6, 2) := by decide +kernel
theorem dX9_odds_69 : decode cX9_odds 69 = .ok (.iload_n 2, 1) := by decide +kernel
theorem dX9_odds_70 : decode cX9_odds 70 = .ok (.if_icmp .ge 25, 3) := by decide +kernel
theorem dX9_odds_73 : decode cX9_odds 73 = .ok (.iload 4, 2) := by decide +kernel
theorem dX9_odds_75 : decode cX9_odds 75 = .ok (.bipush 10, 2) := by decide +kernel
theorem dX9_odds_77 : decode cX9_odds 77 = .ok (.iload_n 1, 1) := by decide +kernel
theorem dX9_odds_78 : decode cX9_odds 78 = .ok (.isub, 1) := by decide +kernel
theorem dX9_odds_79 : decode cX9_odds 79 = .ok (.imul, 1) := by decide +kernel
theorem dX9_odds_80 : decode cX9_odds 80 = .ok (.istore 4, 2) := by decide +kernel
theorem dX9_odds_82 : decode cX9_odds 82 = .ok (.iload 5, 2) := by decide +kernel
theorem dX9_odds_84 : decode cX9_odds 84 = .ok (.bipush 10, 2) := by decide +kernel
theorem dX9_odds_86 : decode cX9_odds 86 = .ok (.imul, 1) := by decide +kernel
theorem dX9_odds_87 : decode cX9_odds 87 = .ok (.istore 5, 2) := by decide +kernel
theorem dX9_odds_89 : decode cX9_odds 89 = .ok (.iinc 6 1, 3) := by decide +kernel
theorem dX9_odds_92 : decode cX9_odds 92 = .ok (.goto (-25), 3) := by decide +kernel
theorem dX9_odds_95 : decode cX9_odds 95 = .ok (.iload 4, 2) := by decide +kernel
theorem dX9_odds_97 : decode cX9_odds 97 = .ok (.istore 6, 2) := by decide +kernel
theorem dX9_odds_99 : decode cX9_odds 99 = .ok (.iload 5, 2) := by decide +kernel
theorem dX9_odds_101 : decode cX9_odds 101 = .ok (.istore 7, 2) := by decide +kernel
theorem dX9_odds_103 : decode cX9_odds 103 = .ok (.iload 7, 2) := by decide +kernel
theorem dX9_odds_105 : decode cX9_odds 105 = .ok (.ifCond .eq 21, 3) := by decide +kernel
theorem dX9_odds_108 : decode cX9_odds 108 = .ok (.iload 6, 2) := by decide +kernel
theorem dX9_odds_110 : decode cX9_odds 110 = .ok (.iload 7, 2) := by decide +kernel
theorem dX9_odds_112 : decode cX9_odds 112 = .ok (.irem, 1) := by decide +kernel
theorem dX9_odds_113 : decode cX9_odds 113 = .ok (.istore 8, 2) := by decide +kernel
theorem dX9_odds_115 : decode cX9_odds 115 = .ok (.iload 7, 2) := by decide +kernel
theorem dX9_odds_117 : decode cX9_odds 117 = .ok (.istore 6, 2) := by decide +kernel
theorem dX9_odds_119 : decode cX9_odds 119 = .ok (.iload 8, 2) := by decide +kernel
theorem dX9_odds_121 : decode cX9_odds 121 = .ok (.istore 7, 2) := by decide +kernel
theorem dX9_odds_123 : decode cX9_odds 123 = .ok (.goto (-20), 3) := by decide +kernel
theorem dX9_odds_126 : decode cX9_odds 126 = .ok (.iload_n 3, 1) := by decide +kernel
theorem dX9_odds_127 : decode cX9_odds 127 = .ok (.ifCond .ne 11, 3) := by decide +kernel
theorem dX9_odds_130 : decode cX9_odds 130 = .ok (.iload 4, 2) := by decide +kernel
theorem dX9_odds_132 : decode cX9_odds 132 = .ok (.iload 6, 2) := by decide +kernel
theorem dX9_odds_134 : decode cX9_odds 134 = .ok (.idiv, 1) := by decide +kernel
theorem dX9_odds_135 : decode cX9_odds 135 = .ok (.goto 8, 3) := by decide +kernel
theorem dX9_odds_138 : decode cX9_odds 138 = .ok (.iload 5, 2) := by decide +kernel
theorem dX9_odds_140 : decode cX9_odds 140 = .ok (.iload 6, 2) := by decide +kernel
theorem dX9_odds_142 : decode cX9_odds 142 = .ok (.idiv, 1) := by decide +kernel
theorem dX9_odds_143 : decode cX9_odds 143 = .ok (.ireturn, 1) := by decide +kernel
theorem dX9_measure_0 : decode cX9_measure 0 = .ok (.iconst 0, 1) := by decide +kernel
theorem dX9_measure_1 : decode cX9_measure 1 = .ok (.istore_n 1, 1) := by decide +kernel
theorem dX9_measure_2 : decode cX9_measure 2 = .ok (.iload_n 1, 1) := by decide +kernel
theorem dX9_measure_3 : decode cX9_measure 3 = .ok (.sipush 625, 3) := by decide +kernel
theorem dX9_measure_6 : decode cX9_measure 6 = .ok (.if_icmp .ge 29, 3) := by decide +kernel
theorem dX9_measure_9 : decode cX9_measure 9 = .ok (.aload_n 0, 1) := by decide +kernel
theorem dX9_measure_10 : decode cX9_measure 10 = .ok (.getfield 42, 3) := by decide +kernel
theorem dX9_measure_13 : decode cX9_measure 13 = .ok (.iload_n 1, 1) := by decide +kernel
theorem dX9_measure_14 : decode cX9_measure 14 = .ok (.iload_n 1, 1) := by decide +kernel
theorem dX9_measure_15 : decode cX9_measure 15 = .ok (.aload_n 0, 1) := by decide +kernel
theorem dX9_measure_16 : decode cX9_measure 16 = .ok (.getfield 99, 3) := by decide +kernel
theorem dX9_measure_19 : decode cX9_measure 19 = .ok (.if_icmp .ne 7, 3) := by decide +kernel
theorem dX9_measure_22 : decode cX9_measure 22 = .ok (.iconst 0, 1) := by decide +kernel
theorem dX9_measure_23 : decode cX9_measure 23 = .ok (.goto 5, 3) := by decide +kernel
theorem dX9_measure_26 : decode cX9_measure 26 = .ok (.bipush (-9), 2) := by decide +kernel
theorem dX9_measure_28 : decode cX9_measure 28 = .ok (.iastore, 1) := by decide +kernel
theorem dX9_measure_29 : decode cX9_measure 29 = .ok (.iinc 1 1, 3) := by decide +kernel
theorem dX9_measure_32 : decode cX9_measure 32 = .ok (.goto (-30), 3) := by decide +kernel
theorem dX9_measure_35 : decode cX9_measure 35 = .ok (.iconst 1, 1) := by decide +kernel
theorem dX9_measure_36 : decode cX9_measure 36 = .ok (.istore_n 1, 1) := by decide +kernel
theorem dX9_measure_37 : decode cX9_measure 37 = .ok (.iconst 0, 1) := by decide +kernel
theorem dX9_measure_38 : decode cX9_measure 38 = .ok (.istore_n 2, 1) := by decide +kernel
theorem dX9_measure_39 : decode cX9_measure 39 = .ok (.iload_n 1, 1) := by decide +kernel
theorem dX9_measure_40 : decode cX9_measure 40 = .ok (.ifCond .eq 120, 3) := by decide +kernel
theorem dX9_measure_43 : decode cX9_measure 43 = .ok (.iconst 0, 1) := by decide +kernel
theorem dX9_measure_44 : decode cX9_measure 44 = .ok (.istore_n 1, 1) := by decide +kernel
theorem dX9_measure_45 : decode cX9_measure 45 = .ok (.iconst 0, 1) := by decide +kernel
theorem dX9_measure_46 : decode cX9_measure 46 = .ok (.istore_n 3, 1) := by decide +kernel
theorem dX9_measure_47 : decode cX9_measure 47 = .ok (.iload_n 3, 1) := by decide +kernel
theorem dX9_measure_48 : decode cX9_measure 48 = .ok (.aload_n 0, 1) := by decide +kernel
theorem dX9_measure_49 : decode cX9_measure 49 = .ok (.invokevirtual 152, 3) := by decide +kernel
theorem dX9_measure_52 : decode cX9_measure 52 = .ok (.if_icmp .ge 102, 3) := by decide +kernel
theorem dX9_measure_55 : decode cX9_measure 55 = .ok (.iconst 0, 1) := by decide +kernel
theorem dX9_measure_56 : decode cX9_measure 56 = .ok (.istore 4, 2) := by decide +kernel
theorem dX9_measure_58 : decode cX9_measure 58 = .ok (.iload 4, 2) := by decide +kernel
theorem dX9_measure_60 : decode cX9_measure 60 = .ok (.aload_n 0, 1) := by decide +kernel
theorem dX9_measure_61 : decode cX9_measure 61 = .ok (.getfield 23, 3) := by decide +kernel
theorem dX9_measure_64 : decode cX9_measure 64 = .ok (.iconst 0, 1) := by decide +kernel
theorem dX9_measure_65 : decode cX9_measure 65 = .ok (.iaload, 1) := by decide +kernel
theorem dX9_measure_66 : decode cX9_measure 66 = .ok (.if_icmp .ge 82, 3) := by decide +kernel
theorem dX9_measure_69 : decode cX9_measure 69 = .ok (.aload_n 0, 1) := by decide +kernel
theorem dX9_measure_70 : decode cX9_measure 70 = .ok (.getfield 42, 3) := by decide +kernel
theorem dX9_measure_73 : decode cX9_measure 73 = .ok (.iload_n 3, 1) := by decide +kernel
theorem dX9_measure_74 : decode cX9_measure 74 = .ok (.iaload, 1) := by decide +kernel
theorem dX9_measure_75 : decode cX9_measure 75 = .ok (.bipush (-9), 2) := by decide +kernel
theorem dX9_measure_77 : decode cX9_measure 77 = .ok (.if_icmp .ne 71, 3) := by decide +kernel
theorem dX9_measure_80 : decode cX9_measure 80 = .ok (.aload_n 0, 1) := by decide +kernel
theorem dX9_measure_81 : decode cX9_measure 81 = .ok (.invokevirtual 176, 3) := by decide +kernel
theorem dX9_measure_84 : decode cX9_measure 84 = .ok (.iload 4, 2) := by decide +kernel
theorem dX9_measure_86 : decode cX9_measure 86 = .ok (.ishr, 1) := by decide +kernel
theorem dX9_measure_87 : decode cX9_measure 87 = .ok (.iconst 1, 1) := by decide +kernel
theorem dX9_measure_88 : decode cX9_measure 88 = .ok (.iand, 1) := by decide +kernel
theorem dX9_measure_89 : decode cX9_measure 89 = .ok (.iconst 1, 1) := by decide +kernel
theorem dX9_measure_90 : decode cX9_measure 90 = .ok (.if_icmp .ne 33, 3) := by decide +kernel
theorem dX9_measure_93 : decode cX9_measure 93 = .ok (.aload_n 0, 1) := by decide +kernel
theorem dX9_measure_94 : decode cX9_measure 94 = .ok (.iload 4, 2) := by decide +kernel
theorem dX9_measure_96 : decode cX9_measure 96 = .ok (.iload_n 3, 1) := by decide +kernel
theorem dX9_measure_97 : decode cX9_measure 97 = .ok (.invokevirtual 136, 3) := by decide +kernel
theorem dX9_measure_100 : decode cX9_measure 100 = .ok (.ifCond .ne 23, 3) := by decide +kernel
theorem dX9_measure_103 : decode cX9_measure 103 = .ok (.aload_n 0, 1) := by decide +kernel
theorem dX9_measure_104 : decode cX9_measure 104 = .ok (.getfield 42, 3) := by decide +kernel
theorem dX9_measure_107 : decode cX9_measure 107 = .ok (.aload_n 0, 1) := by decide +kernel
theorem dX9_measure_108 : decode cX9_measure 108 = .ok (.iload 4, 2) := by decide +kernel
theorem dX9_measure_110 : decode cX9_measure 110 = .ok (.iload_n 3, 1) := by decide +kernel
theorem dX9_measure_111 : decode cX9_measure 111 = .ok (.invokevirtual 126, 3) := by decide +kernel
theorem dX9_measure_114 : decode cX9_measure 114 = .ok (.iaload, 1) := by decide +kernel
theorem dX9_measure_115 : decode cX9_measure 115 = .ok (.iload_n 2, 1) := by decide +kernel
theorem dX9_measure_116 : decode cX9_measure 116 = .ok (.if_icmp .ne 7, 3) := by decide +kernel
theorem dX9_measure_119 : decode cX9_measure 119 = .ok (.iconst 1, 1) := by decide +kernel
theorem dX9_measure_120 : decode cX9_measure 120 = .ok (.goto 4, 3) := by decide +kernel
theorem dX9_measure_123 : decode cX9_measure 123 = .ok (.iconst 0, 1) := by decide +kernel
theorem dX9_measure_124 : decode cX9_measure 124 = .ok (.istore 5, 2) := by decide +kernel
theorem dX9_measure_126 : decode cX9_measure 126 = .ok (.iload 5, 2) := by decide +kernel
theorem dX9_measure_128 : decode cX9_measure 128 = .ok (.ifCond .eq 14, 3) := by decide +kernel
theorem dX9_measure_131 : decode cX9_measure 131 = .ok (.aload_n 0, 1) := by decide +kernel
theorem dX9_measure_132 : decode cX9_measure 132 = .ok (.getfield 42, 3) := by decide +kernel
theorem dX9_measure_135 : decode cX9_measure 135 = .ok (.iload_n 3, 1) := by decide +kernel
theorem dX9_measure_136 : decode cX9_measure 136 = .ok (.iload_n 2, 1) := by decide +kernel
theorem dX9_measure_137 : decode cX9_measure 137 = .ok (.iconst 1, 1) := by decide +kernel
theorem dX9_measure_138 : decode cX9_measure 138 = .ok (.iadd, 1) := by decide +kernel
theorem dX9_measure_139 : decode cX9_measure 139 = .ok (.iastore, 1) := by decide +kernel
theorem dX9_measure_140 : decode cX9_measure 140 = .ok (.iconst 1, 1) := by decide +kernel
theorem dX9_measure_141 : decode cX9_measure 141 = .ok (.istore_n 1, 1) := by decide +kernel
theorem dX9_measure_142 : decode cX9_measure 142 = .ok (.iinc 4 1, 3) := by decide +kernel
theorem dX9_measure_145 : decode cX9_measure 145 = .ok (.goto (-87), 3) := by decide +kernel
theorem dX9_measure_148 : decode cX9_measure 148 = .ok (.iinc 3 1, 3) := by decide +kernel
theorem dX9_measure_151 : decode cX9_measure 151 = .ok (.goto (-104), 3) := by decide +kernel
theorem dX9_measure_154 : decode cX9_measure 154 = .ok (.iinc 2 1, 3) := by decide +kernel
theorem dX9_measure_157 : decode cX9_measure 157 = .ok (.goto (-118), 3) := by decide +kernel
theorem dX9_measure_160 : decode cX9_measure 160 = .ok (.return_, 1) := by decide +kernel
theorem dX9_way_0 : decode cX9_way 0 = .ok (.iload_n 1, 1) := by decide +kernel
theorem dX9_way_1 : decode cX9_way 1 = .ok (.iconst (-1), 1) := by decide +kernel
theorem dX9_way_2 : decode cX9_way 2 = .ok (.if_icmp .ge 5, 3) := by decide +kernel
theorem dX9_way_5 : decode cX9_way 5 = .ok (.iconst (-1), 1) := by decide +kernel
theorem dX9_way_6 : decode cX9_way 6 = .ok (.ireturn, 1) := by decide +kernel
theorem dX9_way_7 : decode cX9_way 7 = .ok (.aload_n 0, 1) := by decide +kernel
theorem dX9_way_8 : decode cX9_way 8 = .ok (.invokevirtual 183, 3) := by decide +kernel
theorem dX9_way_11 : decode cX9_way 11 = .ok (.aload_n 0, 1) := by decide +kernel
theorem dX9_way_12 : decode cX9_way 12 = .ok (.getfield 42, 3) := by decide +kernel
theorem dX9_way_15 : decode cX9_way 15 = .ok (.aload_n 0, 1) := by decide +kernel
theorem dX9_way_16 : decode cX9_way 16 = .ok (.getfield 35, 3) := by decide +kernel
theorem dX9_way_19 : decode cX9_way 19 = .ok (.iconst 0, 1) := by decide +kernel
theorem dX9_way_20 : decode cX9_way 20 = .ok (.iaload, 1) := by decide +kernel
theorem dX9_way_21 : decode cX9_way 21 = .ok (.iaload, 1) := by decide +kernel
theorem dX9_way_22 : decode cX9_way 22 = .ok (.istore_n 2, 1) := by decide +kernel
theorem dX9_way_23 : decode cX9_way 23 = .ok (.iload_n 1, 1) := by decide +kernel
theorem dX9_way_24 : decode cX9_way 24 = .ok (.iconst (-1), 1) := by decide +kernel
theorem dX9_way_25 : decode cX9_way 25 = .ok (.if_icmp .eq 8, 3) := by decide +kernel
theorem dX9_way_28 : decode cX9_way 28 = .ok (.iload_n 1, 1) := by decide +kernel
theorem dX9_way_29 : decode cX9_way 29 = .ok (.iload_n 2, 1) := by decide +kernel
theorem dX9_way_30 : decode cX9_way 30 = .ok (.if_icmp .lt 15, 3) := by decide +kernel
theorem dX9_way_33 : decode cX9_way 33 = .ok (.iload_n 1, 1) := by decide +kernel
theorem dX9_way_34 : decode cX9_way 34 = .ok (.iconst (-1), 1) := by decide +kernel
theorem dX9_way_35 : decode cX9_way 35 = .ok (.if_icmp .ne 7, 3) := by decide +kernel
theorem dX9_way_38 : decode cX9_way 38 = .ok (.iload_n 2, 1) := by decide +kernel
theorem dX9_way_39 : decode cX9_way 39 = .ok (.goto 5, 3) := by decide +kernel
theorem dX9_way_42 : decode cX9_way 42 = .ok (.bipush (-9), 2) := by decide +kernel
theorem dX9_way_44 : decode cX9_way 44 = .ok (.ireturn, 1) := by decide +kernel
theorem dX9_way_45 : decode cX9_way 45 = .ok (.aload_n 0, 1) := by decide +kernel
theorem dX9_way_46 : decode cX9_way 46 = .ok (.getfield 35, 3) := by decide +kernel
theorem dX9_way_49 : decode cX9_way 49 = .ok (.iconst 0, 1) := by decide +kernel
theorem dX9_way_50 : decode cX9_way 50 = .ok (.iaload, 1) := by decide +kernel
theorem dX9_way_51 : decode cX9_way 51 = .ok (.istore_n 3, 1) := by decide +kernel
theorem dX9_way_52 : decode cX9_way 52 = .ok (.bipush (-9), 2) := by decide +kernel
theorem dX9_way_54 : decode cX9_way 54 = .ok (.istore 4, 2) := by decide +kernel
theorem dX9_way_56 : decode cX9_way 56 = .ok (.iconst 0, 1) := by decide +kernel
theorem dX9_way_57 : decode cX9_way 57 = .ok (.istore 5, 2) := by decide +kernel
theorem dX9_way_59 : decode cX9_way 59 = .ok (.iload 5, 2) := by decide +kernel
theorem dX9_way_61 : decode cX9_way 61 = .ok (.iload_n 1, 1) := by decide +kernel
theorem dX9_way_62 : decode cX9_way 62 = .ok (.if_icmp .gt 69, 3) := by decide +kernel
theorem dX9_way_65 : decode cX9_way 65 = .ok (.iconst 0, 1) := by decide +kernel
theorem dX9_way_66 : decode cX9_way 66 = .ok (.istore 4, 2) := by decide +kernel
theorem dX9_way_68 : decode cX9_way 68 = .ok (.aload_n 0, 1) := by decide +kernel
theorem dX9_way_69 : decode cX9_way 69 = .ok (.invokevirtual 176, 3) := by decide +kernel
theorem dX9_way_72 : decode cX9_way 72 = .ok (.iload 4, 2) := by decide +kernel
theorem dX9_way_74 : decode cX9_way 74 = .ok (.ishr, 1) := by decide +kernel
theorem dX9_way_75 : decode cX9_way 75 = .ok (.iconst 1, 1) := by decide +kernel
theorem dX9_way_76 : decode cX9_way 76 = .ok (.iand, 1) := by decide +kernel
theorem dX9_way_77 : decode cX9_way 77 = .ok (.ifCond .eq 34, 3) := by decide +kernel
theorem dX9_way_80 : decode cX9_way 80 = .ok (.aload_n 0, 1) := by decide +kernel
theorem dX9_way_81 : decode cX9_way 81 = .ok (.iload 4, 2) := by decide +kernel
theorem dX9_way_83 : decode cX9_way 83 = .ok (.iload_n 3, 1) := by decide +kernel
theorem dX9_way_84 : decode cX9_way 84 = .ok (.invokevirtual 136, 3) := by decide +kernel
theorem dX9_way_87 : decode cX9_way 87 = .ok (.ifCond .ne 24, 3) := by decide +kernel
theorem dX9_way_90 : decode cX9_way 90 = .ok (.aload_n 0, 1) := by decide +kernel
theorem dX9_way_91 : decode cX9_way 91 = .ok (.getfield 42, 3) := by decide +kernel
theorem dX9_way_94 : decode cX9_way 94 = .ok (.aload_n 0, 1) := by decide +kernel
theorem dX9_way_95 : decode cX9_way 95 = .ok (.iload 4, 2) := by decide +kernel
theorem dX9_way_97 : decode cX9_way 97 = .ok (.iload_n 3, 1) := by decide +kernel
theorem dX9_way_98 : decode cX9_way 98 = .ok (.invokevirtual 126, 3) := by decide +kernel
theorem dX9_way_101 : decode cX9_way 101 = .ok (.iaload, 1) := by decide +kernel
theorem dX9_way_102 : decode cX9_way 102 = .ok (.iload_n 2, 1) := by decide +kernel
theorem dX9_way_103 : decode cX9_way 103 = .ok (.iload 5, 2) := by decide +kernel
theorem dX9_way_105 : decode cX9_way 105 = .ok (.isub, 1) := by decide +kernel
theorem dX9_way_106 : decode cX9_way 106 = .ok (.iconst 1, 1) := by decide +kernel
theorem dX9_way_107 : decode cX9_way 107 = .ok (.isub, 1) := by decide +kernel
theorem dX9_way_108 : decode cX9_way 108 = .ok (.if_icmp .eq 9, 3) := by decide +kernel
theorem dX9_way_111 : decode cX9_way 111 = .ok (.iinc 4 1, 3) := by decide +kernel
theorem dX9_way_114 : decode cX9_way 114 = .ok (.goto (-46), 3) := by decide +kernel
theorem dX9_way_117 : decode cX9_way 117 = .ok (.aload_n 0, 1) := by decide +kernel
theorem dX9_way_118 : decode cX9_way 118 = .ok (.iload 4, 2) := by decide +kernel
theorem dX9_way_120 : decode cX9_way 120 = .ok (.iload_n 3, 1) := by decide +kernel
theorem dX9_way_121 : decode cX9_way 121 = .ok (.invokevirtual 126, 3) := by decide +kernel
theorem dX9_way_124 : decode cX9_way 124 = .ok (.istore_n 3, 1) := by decide +kernel
theorem dX9_way_125 : decode cX9_way 125 = .ok (.iinc 5 1, 3) := by decide +kernel
theorem dX9_way_128 : decode cX9_way 128 = .ok (.goto (-69), 3) := by decide +kernel
theorem dX9_way_131 : decode cX9_way 131 = .ok (.iload 4, 2) := by decide +kernel
theorem dX9_way_133 : decode cX9_way 133 = .ok (.ireturn, 1) := by decide +kernel
theorem dX9_from_0 : decode cX9_from 0 = .ok (.aload_n 0, 1) := by decide +kernel
theorem dX9_from_1 : decode cX9_from 1 = .ok (.iload_n 1, 1) := by decide +kernel
theorem dX9_from_2 : decode cX9_from 2 = .ok (.invokevirtual 133, 3) := by decide +kernel
theorem dX9_from_5 : decode cX9_from 5 = .ok (.ifCond .eq 11, 3) := by decide +kernel
theorem dX9_from_8 : decode cX9_from 8 = .ok (.aload_n 0, 1) := by decide +kernel
theorem dX9_from_9 : decode cX9_from 9 = .ok (.iload_n 1, 1) := by decide +kernel
theorem dX9_from_10 : decode cX9_from 10 = .ok (.invokevirtual 158, 3) := by decide +kernel
theorem dX9_from_13 : decode cX9_from 13 = .ok (.goto 4, 3) := by decide +kernel
theorem dX9_from_16 : decode cX9_from 16 = .ok (.iconst (-1), 1) := by decide +kernel
theorem dX9_from_17 : decode cX9_from 17 = .ok (.ireturn, 1) := by decide +kernel
theorem dX9_saw_0 : decode cX9_saw 0 = .ok (.aload_n 0, 1) := by decide +kernel
theorem dX9_saw_1 : decode cX9_saw 1 = .ok (.iload_n 1, 1) := by decide +kernel
theorem dX9_saw_2 : decode cX9_saw 2 = .ok (.invokevirtual 142, 3) := by decide +kernel
theorem dX9_saw_5 : decode cX9_saw 5 = .ok (.ifCond .eq 11, 3) := by decide +kernel
theorem dX9_saw_8 : decode cX9_saw 8 = .ok (.aload_n 0, 1) := by decide +kernel
theorem dX9_saw_9 : decode cX9_saw 9 = .ok (.iload_n 2, 1) := by decide +kernel
theorem dX9_saw_10 : decode cX9_saw 10 = .ok (.invokevirtual 142, 3) := by decide +kernel
theorem dX9_saw_13 : decode cX9_saw 13 = .ok (.ifCond .ne 5, 3) := by decide +kernel
theorem dX9_saw_16 : decode cX9_saw 16 = .ok (.iconst (-1), 1) := by decide +kernel
theorem dX9_saw_17 : decode cX9_saw 17 = .ok (.ireturn, 1) := by decide +kernel
theorem dX9_saw_18 : decode cX9_saw 18 = .ok (.aload_n 0, 1) := by decide +kernel
theorem dX9_saw_19 : decode cX9_saw 19 = .ok (.getfield 102, 3) := by decide +kernel
theorem dX9_saw_22 : decode cX9_saw 22 = .ok (.bipush 6, 2) := by decide +kernel
theorem dX9_saw_24 : decode cX9_saw 24 = .ok (.if_icmp .ne 6, 3) := by decide +kernel
theorem dX9_saw_27 : decode cX9_saw 27 = .ok (.bipush (-3), 2) := by decide +kernel
theorem dX9_saw_29 : decode cX9_saw 29 = .ok (.ireturn, 1) := by decide +kernel
theorem dX9_saw_30 : decode cX9_saw 30 = .ok (.aload_n 0, 1) := by decide +kernel
theorem dX9_saw_31 : decode cX9_saw 31 = .ok (.getfield 45, 3) := by decide +kernel
theorem dX9_saw_34 : decode cX9_saw 34 = .ok (.aload_n 0, 1) := by decide +kernel
theorem dX9_saw_35 : decode cX9_saw 35 = .ok (.getfield 102, 3) := by decide +kernel
theorem dX9_saw_38 : decode cX9_saw 38 = .ok (.iload_n 1, 1) := by decide +kernel
theorem dX9_saw_39 : decode cX9_saw 39 = .ok (.iastore, 1) := by decide +kernel
theorem dX9_saw_40 : decode cX9_saw 40 = .ok (.aload_n 0, 1) := by decide +kernel
theorem dX9_saw_41 : decode cX9_saw 41 = .ok (.getfield 48, 3) := by decide +kernel
theorem dX9_saw_44 : decode cX9_saw 44 = .ok (.aload_n 0, 1) := by decide +kernel
theorem dX9_saw_45 : decode cX9_saw 45 = .ok (.getfield 102, 3) := by decide +kernel
theorem dX9_saw_48 : decode cX9_saw 48 = .ok (.iload_n 2, 1) := by decide +kernel
theorem dX9_saw_49 : decode cX9_saw 49 = .ok (.iastore, 1) := by decide +kernel
theorem dX9_saw_50 : decode cX9_saw 50 = .ok (.aload_n 0, 1) := by decide +kernel
theorem dX9_saw_51 : decode cX9_saw 51 = .ok (.dup, 1) := by decide +kernel
theorem dX9_saw_52 : decode cX9_saw 52 = .ok (.getfield 102, 3) := by decide +kernel
theorem dX9_saw_55 : decode cX9_saw 55 = .ok (.iconst 1, 1) := by decide +kernel
theorem dX9_saw_56 : decode cX9_saw 56 = .ok (.iadd, 1) := by decide +kernel
theorem dX9_saw_57 : decode cX9_saw 57 = .ok (.putfield 102, 3) := by decide +kernel
theorem dX9_saw_60 : decode cX9_saw 60 = .ok (.aload_n 0, 1) := by decide +kernel
theorem dX9_saw_61 : decode cX9_saw 61 = .ok (.getfield 102, 3) := by decide +kernel
theorem dX9_saw_64 : decode cX9_saw 64 = .ok (.ireturn, 1) := by decide +kernel
theorem dX9_forget_0 : decode cX9_forget 0 = .ok (.aload_n 0, 1) := by decide +kernel
theorem dX9_forget_1 : decode cX9_forget 1 = .ok (.getfield 102, 3) := by decide +kernel
theorem dX9_forget_4 : decode cX9_forget 4 = .ok (.istore_n 1, 1) := by decide +kernel
theorem dX9_forget_5 : decode cX9_forget 5 = .ok (.aload_n 0, 1) := by decide +kernel
theorem dX9_forget_6 : decode cX9_forget 6 = .ok (.iconst 0, 1) := by decide +kernel
theorem dX9_forget_7 : decode cX9_forget 7 = .ok (.putfield 102, 3) := by decide +kernel
theorem dX9_forget_10 : decode cX9_forget 10 = .ok (.iload_n 1, 1) := by decide +kernel
theorem dX9_forget_11 : decode cX9_forget 11 = .ok (.ireturn, 1) := by decide +kernel
theorem dX9_isSo_0 : decode cX9_isSo 0 = .ok (.iconst 1, 1) := by decide +kernel
theorem dX9_isSo_1 : decode cX9_isSo 1 = .ok (.istore_n 3, 1) := by decide +kernel
theorem dX9_isSo_2 : decode cX9_isSo 2 = .ok (.iconst 0, 1) := by decide +kernel
theorem dX9_isSo_3 : decode cX9_isSo 3 = .ok (.istore 4, 2) := by decide +kernel
theorem dX9_isSo_5 : decode cX9_isSo 5 = .ok (.iload 4, 2) := by decide +kernel
theorem dX9_isSo_7 : decode cX9_isSo 7 = .ok (.aload_n 0, 1) := by decide +kernel
theorem dX9_isSo_8 : decode cX9_isSo 8 = .ok (.getfield 102, 3) := by decide +kernel
theorem dX9_isSo_11 : decode cX9_isSo 11 = .ok (.if_icmp .ge 47, 3) := by decide +kernel
theorem dX9_isSo_14 : decode cX9_isSo 14 = .ok (.iload_n 3, 1) := by decide +kernel
theorem dX9_isSo_15 : decode cX9_isSo 15 = .ok (.ifCond .eq 35, 3) := by decide +kernel
theorem dX9_isSo_18 : decode cX9_isSo 18 = .ok (.iload_n 1, 1) := by decide +kernel
theorem dX9_isSo_19 : decode cX9_isSo 19 = .ok (.aload_n 0, 1) := by decide +kernel
theorem dX9_isSo_20 : decode cX9_isSo 20 = .ok (.getfield 45, 3) := by decide +kernel
theorem dX9_isSo_23 : decode cX9_isSo 23 = .ok (.iload 4, 2) := by decide +kernel
theorem dX9_isSo_25 : decode cX9_isSo 25 = .ok (.iaload, 1) := by decide +kernel
theorem dX9_isSo_26 : decode cX9_isSo 26 = .ok (.imul, 1) := by decide +kernel
theorem dX9_isSo_27 : decode cX9_isSo 27 = .ok (.iload_n 2, 1) := by decide +kernel
theorem dX9_isSo_28 : decode cX9_isSo 28 = .ok (.iadd, 1) := by decide +kernel
theorem dX9_isSo_29 : decode cX9_isSo 29 = .ok (.aload_n 0, 1) := by decide +kernel
theorem dX9_isSo_30 : decode cX9_isSo 30 = .ok (.getfield 13, 3) := by decide +kernel
theorem dX9_isSo_33 : decode cX9_isSo 33 = .ok (.iconst 0, 1) := by decide +kernel
theorem dX9_isSo_34 : decode cX9_isSo 34 = .ok (.iaload, 1) := by decide +kernel
theorem dX9_isSo_35 : decode cX9_isSo 35 = .ok (.irem, 1) := by decide +kernel
theorem dX9_isSo_36 : decode cX9_isSo 36 = .ok (.aload_n 0, 1) := by decide +kernel
theorem dX9_isSo_37 : decode cX9_isSo 37 = .ok (.getfield 48, 3) := by decide +kernel
theorem dX9_isSo_40 : decode cX9_isSo 40 = .ok (.iload 4, 2) := by decide +kernel
theorem dX9_isSo_42 : decode cX9_isSo 42 = .ok (.iaload, 1) := by decide +kernel
theorem dX9_isSo_43 : decode cX9_isSo 43 = .ok (.if_icmp .ne 7, 3) := by decide +kernel
theorem dX9_isSo_46 : decode cX9_isSo 46 = .ok (.iconst 1, 1) := by decide +kernel
theorem dX9_isSo_47 : decode cX9_isSo 47 = .ok (.goto 4, 3) := by decide +kernel
theorem dX9_isSo_50 : decode cX9_isSo 50 = .ok (.iconst 0, 1) := by decide +kernel
theorem dX9_isSo_51 : decode cX9_isSo 51 = .ok (.istore_n 3, 1) := by decide +kernel
theorem dX9_isSo_52 : decode cX9_isSo 52 = .ok (.iinc 4 1, 3) := by decide +kernel
theorem dX9_isSo_55 : decode cX9_isSo 55 = .ok (.goto (-50), 3) := by decide +kernel
theorem dX9_isSo_58 : decode cX9_isSo 58 = .ok (.iload_n 3, 1) := by decide +kernel
theorem dX9_isSo_59 : decode cX9_isSo 59 = .ok (.ireturn, 1) := by decide +kernel
theorem dX9_fit_0 : decode cX9_fit 0 = .ok (.iload_n 1, 1) := by decide +kernel
theorem dX9_fit_1 : decode cX9_fit 1 = .ok (.iconst 0, 1) := by decide +kernel
theorem dX9_fit_2 : decode cX9_fit 2 = .ok (.iconst 2, 1) := by decide +kernel
theorem dX9_fit_3 : decode cX9_fit 3 = .ok (.invokestatic 57, 3) := by decide +kernel
theorem dX9_fit_6 : decode cX9_fit 6 = .ok (.ifCond .ne 5, 3) := by decide +kernel
theorem dX9_fit_9 : decode cX9_fit 9 = .ok (.iconst (-1), 1) := by decide +kernel
theorem dX9_fit_10 : decode cX9_fit 10 = .ok (.ireturn, 1) := by decide +kernel
theorem dX9_fit_11 : decode cX9_fit 11 = .ok (.aload_n 0, 1) := by decide +kernel
theorem dX9_fit_12 : decode cX9_fit 12 = .ok (.getfield 13, 3) := by decide +kernel
theorem dX9_fit_15 : decode cX9_fit 15 = .ok (.iconst 0, 1) := by decide +kernel
theorem dX9_fit_16 : decode cX9_fit 16 = .ok (.iaload, 1) := by decide +kernel
theorem dX9_fit_17 : decode cX9_fit 17 = .ok (.istore_n 2, 1) := by decide +kernel
theorem dX9_fit_18 : decode cX9_fit 18 = .ok (.iconst 0, 1) := by decide +kernel
theorem dX9_fit_19 : decode cX9_fit 19 = .ok (.istore_n 3, 1) := by decide +kernel
theorem dX9_fit_20 : decode cX9_fit 20 = .ok (.bipush (-9), 2) := by decide +kernel
theorem dX9_fit_22 : decode cX9_fit 22 = .ok (.istore 4, 2) := by decide +kernel
theorem dX9_fit_24 : decode cX9_fit 24 = .ok (.bipush (-9), 2) := by decide +kernel
theorem dX9_fit_26 : decode cX9_fit 26 = .ok (.istore 5, 2) := by decide +kernel
theorem dX9_fit_28 : decode cX9_fit 28 = .ok (.iconst 0, 1) := by decide +kernel
theorem dX9_fit_29 : decode cX9_fit 29 = .ok (.istore 6, 2) := by decide +kernel
theorem dX9_fit_31 : decode cX9_fit 31 = .ok (.iload_n 2, 1) := by decide +kernel
theorem dX9_fit_32 : decode cX9_fit 32 = .ok (.iconst 1, 1) := by decide +kernel
theorem dX9_fit_33 : decode cX9_fit 33 = .ok (.isub, 1) := by decide +kernel
theorem dX9_fit_34 : decode cX9_fit 34 = .ok (.istore 7, 2) := by decide +kernel
theorem dX9_fit_36 : decode cX9_fit 36 = .ok (.iload 7, 2) := by decide +kernel
theorem dX9_fit_38 : decode cX9_fit 38 = .ok (.ifCond .lt 110, 3) := by decide +kernel
theorem dX9_fit_41 : decode cX9_fit 41 = .ok (.iconst 0, 1) := by decide +kernel
theorem dX9_fit_42 : decode cX9_fit 42 = .ok (.istore 8, 2) := by decide +kernel
theorem dX9_fit_44 : decode cX9_fit 44 = .ok (.iconst 0, 1) := by decide +kernel
theorem dX9_fit_45 : decode cX9_fit 45 = .ok (.istore_n 3, 1) := by decide +kernel
theorem dX9_fit_46 : decode cX9_fit 46 = .ok (.iload_n 2, 1) := by decide +kernel
theorem dX9_fit_47 : decode cX9_fit 47 = .ok (.iload_n 2, 1) := by decide +kernel
theorem dX9_fit_48 : decode cX9_fit 48 = .ok (.imul, 1) := by decide +kernel
theorem dX9_fit_49 : decode cX9_fit 49 = .ok (.iconst 1, 1) := by decide +kernel
theorem dX9_fit_50 : decode cX9_fit 50 = .ok (.isub, 1) := by decide +kernel
theorem dX9_fit_51 : decode cX9_fit 51 = .ok (.istore 9, 2) := by decide +kernel
theorem dX9_fit_53 : decode cX9_fit 53 = .ok (.iload 9, 2) := by decide +kernel
theorem dX9_fit_55 : decode cX9_fit 55 = .ok (.ifCond .lt 62, 3) := by decide +kernel
theorem dX9_fit_58 : decode cX9_fit 58 = .ok (.aload_n 0, 1) := by decide +kernel
theorem dX9_fit_59 : decode cX9_fit 59 = .ok (.iload 9, 2) := by decide +kernel
theorem dX9_fit_61 : decode cX9_fit 61 = .ok (.iload_n 2, 1) := by decide +kernel
theorem dX9_fit_62 : decode cX9_fit 62 = .ok (.idiv, 1) := by decide +kernel
theorem dX9_fit_63 : decode cX9_fit 63 = .ok (.iload 9, 2) := by decide +kernel
theorem dX9_fit_65 : decode cX9_fit 65 = .ok (.iload_n 2, 1) := by decide +kernel
theorem dX9_fit_66 : decode cX9_fit 66 = .ok (.irem, 1) := by decide +kernel
theorem dX9_fit_67 : decode cX9_fit 67 = .ok (.invokevirtual 164, 3) := by decide +kernel
theorem dX9_fit_70 : decode cX9_fit 70 = .ok (.ifCond .eq 41, 3) := by decide +kernel
theorem dX9_fit_73 : decode cX9_fit 73 = .ok (.iload 8, 2) := by decide +kernel
theorem dX9_fit_75 : decode cX9_fit 75 = .ok (.iconst 1, 1) := by decide +kernel
theorem dX9_fit_76 : decode cX9_fit 76 = .ok (.iload 9, 2) := by decide +kernel
theorem dX9_fit_78 : decode cX9_fit 78 = .ok (.iload_n 2, 1) := by decide +kernel
end
section
theorem dX9_fit_79 : decode cX9_fit 79 = .ok (.idiv, 1) := by decide +kernel
theorem dX9_fit_80 : decode cX9_fit 80 = .ok (.iload 7, 2) := by decide +kernel
theorem dX9_fit_82 : decode cX9_fit 82 = .ok (.imul, 1) := by decide +kernel
theorem dX9_fit_83 : decode cX9_fit 83 = .ok (.iload 9, 2) := by decide +kernel
theorem dX9_fit_85 : decode cX9_fit 85 = .ok (.iload_n 2, 1) := by decide +kernel
theorem dX9_fit_86 : decode cX9_fit 86 = .ok (.irem, 1) := by decide +kernel
theorem dX9_fit_87 : decode cX9_fit 87 = .ok (.iadd, 1) := by decide +kernel
theorem dX9_fit_88 : decode cX9_fit 88 = .ok (.iload_n 2, 1) := by decide +kernel
theorem dX9_fit_89 : decode cX9_fit 89 = .ok (.irem, 1) := by decide +kernel
theorem dX9_fit_90 : decode cX9_fit 90 = .ok (.ishl, 1) := by decide +kernel
theorem dX9_fit_91 : decode cX9_fit 91 = .ok (.ior, 1) := by decide +kernel
theorem dX9_fit_92 : decode cX9_fit 92 = .ok (.istore 8, 2) := by decide +kernel
theorem dX9_fit_94 : decode cX9_fit 94 = .ok (.bipush 10, 2) := by decide +kernel
theorem dX9_fit_96 : decode cX9_fit 96 = .ok (.iload 9, 2) := by decide +kernel
theorem dX9_fit_98 : decode cX9_fit 98 = .ok (.iload_n 2, 1) := by decide +kernel
theorem dX9_fit_99 : decode cX9_fit 99 = .ok (.idiv, 1) := by decide +kernel
theorem dX9_fit_100 : decode cX9_fit 100 = .ok (.imul, 1) := by decide +kernel
theorem dX9_fit_101 : decode cX9_fit 101 = .ok (.iload 9, 2) := by decide +kernel
theorem dX9_fit_103 : decode cX9_fit 103 = .ok (.iload_n 2, 1) := by decide +kernel
theorem dX9_fit_104 : decode cX9_fit 104 = .ok (.irem, 1) := by decide +kernel
theorem dX9_fit_105 : decode cX9_fit 105 = .ok (.iadd, 1) := by decide +kernel
theorem dX9_fit_106 : decode cX9_fit 106 = .ok (.istore 4, 2) := by decide +kernel
theorem dX9_fit_108 : decode cX9_fit 108 = .ok (.iinc 3 1, 3) := by decide +kernel
theorem dX9_fit_111 : decode cX9_fit 111 = .ok (.iinc 9 (-1), 3) := by decide +kernel
theorem dX9_fit_114 : decode cX9_fit 114 = .ok (.goto (-61), 3) := by decide +kernel
theorem dX9_fit_117 : decode cX9_fit 117 = .ok (.iload_n 3, 1) := by decide +kernel
theorem dX9_fit_118 : decode cX9_fit 118 = .ok (.ifCond .le 24, 3) := by decide +kernel
theorem dX9_fit_121 : decode cX9_fit 121 = .ok (.iload 8, 2) := by decide +kernel
theorem dX9_fit_123 : decode cX9_fit 123 = .ok (.invokestatic 122, 3) := by decide +kernel
theorem dX9_fit_126 : decode cX9_fit 126 = .ok (.iload 6, 2) := by decide +kernel
theorem dX9_fit_128 : decode cX9_fit 128 = .ok (.if_icmp .lt 14, 3) := by decide +kernel
theorem dX9_fit_131 : decode cX9_fit 131 = .ok (.iload 7, 2) := by decide +kernel
theorem dX9_fit_133 : decode cX9_fit 133 = .ok (.istore 5, 2) := by decide +kernel
theorem dX9_fit_135 : decode cX9_fit 135 = .ok (.iload 8, 2) := by decide +kernel
theorem dX9_fit_137 : decode cX9_fit 137 = .ok (.invokestatic 122, 3) := by decide +kernel
theorem dX9_fit_140 : decode cX9_fit 140 = .ok (.istore 6, 2) := by decide +kernel
theorem dX9_fit_142 : decode cX9_fit 142 = .ok (.iinc 7 (-1), 3) := by decide +kernel
theorem dX9_fit_145 : decode cX9_fit 145 = .ok (.goto (-109), 3) := by decide +kernel
theorem dX9_fit_148 : decode cX9_fit 148 = .ok (.iload_n 1, 1) := by decide +kernel
theorem dX9_fit_149 : decode cX9_fit 149 = .ok (.ifCond .ne 7, 3) := by decide +kernel
theorem dX9_fit_152 : decode cX9_fit 152 = .ok (.iload_n 3, 1) := by decide +kernel
theorem dX9_fit_153 : decode cX9_fit 153 = .ok (.goto 15, 3) := by decide +kernel
theorem dX9_fit_156 : decode cX9_fit 156 = .ok (.iload_n 1, 1) := by decide +kernel
theorem dX9_fit_157 : decode cX9_fit 157 = .ok (.iconst 1, 1) := by decide +kernel
theorem dX9_fit_158 : decode cX9_fit 158 = .ok (.if_icmp .ne 8, 3) := by decide +kernel
theorem dX9_fit_161 : decode cX9_fit 161 = .ok (.iload 4, 2) := by decide +kernel
theorem dX9_fit_163 : decode cX9_fit 163 = .ok (.goto 5, 3) := by decide +kernel
theorem dX9_fit_166 : decode cX9_fit 166 = .ok (.iload 5, 2) := by decide +kernel
theorem dX9_fit_168 : decode cX9_fit 168 = .ok (.ireturn, 1) := by decide +kernel
theorem dX9_mark_0 : decode cX9_mark 0 = .ok (.iload_n 1, 1) := by decide +kernel
theorem dX9_mark_1 : decode cX9_mark 1 = .ok (.iconst 0, 1) := by decide +kernel
theorem dX9_mark_2 : decode cX9_mark 2 = .ok (.iconst 5, 1) := by decide +kernel
theorem dX9_mark_3 : decode cX9_mark 3 = .ok (.invokestatic 57, 3) := by decide +kernel
theorem dX9_mark_6 : decode cX9_mark 6 = .ok (.ifCond .eq 11, 3) := by decide +kernel
theorem dX9_mark_9 : decode cX9_mark 9 = .ok (.aload_n 0, 1) := by decide +kernel
theorem dX9_mark_10 : decode cX9_mark 10 = .ok (.iload_n 2, 1) := by decide +kernel
theorem dX9_mark_11 : decode cX9_mark 11 = .ok (.invokevirtual 133, 3) := by decide +kernel
theorem dX9_mark_14 : decode cX9_mark 14 = .ok (.ifCond .ne 6, 3) := by decide +kernel
theorem dX9_mark_17 : decode cX9_mark 17 = .ok (.ldc 186, 2) := by decide +kernel
theorem dX9_mark_19 : decode cX9_mark 19 = .ok (.ireturn, 1) := by decide +kernel
theorem dX9_mark_20 : decode cX9_mark 20 = .ok (.aload_n 0, 1) := by decide +kernel
theorem dX9_mark_21 : decode cX9_mark 21 = .ok (.iload_n 2, 1) := by decide +kernel
theorem dX9_mark_22 : decode cX9_mark 22 = .ok (.aload_n 0, 1) := by decide +kernel
theorem dX9_mark_23 : decode cX9_mark 23 = .ok (.getfield 35, 3) := by decide +kernel
theorem dX9_mark_26 : decode cX9_mark 26 = .ok (.iconst 0, 1) := by decide +kernel
theorem dX9_mark_27 : decode cX9_mark 27 = .ok (.iaload, 1) := by decide +kernel
theorem dX9_mark_28 : decode cX9_mark 28 = .ok (.invokevirtual 119, 3) := by decide +kernel
theorem dX9_mark_31 : decode cX9_mark 31 = .ok (.invokestatic 122, 3) := by decide +kernel
theorem dX9_mark_34 : decode cX9_mark 34 = .ok (.istore_n 3, 1) := by decide +kernel
theorem dX9_mark_35 : decode cX9_mark 35 = .ok (.iload_n 3, 1) := by decide +kernel
theorem dX9_mark_36 : decode cX9_mark 36 = .ok (.aload_n 0, 1) := by decide +kernel
theorem dX9_mark_37 : decode cX9_mark 37 = .ok (.getfield 35, 3) := by decide +kernel
theorem dX9_mark_40 : decode cX9_mark 40 = .ok (.iconst 2, 1) := by decide +kernel
theorem dX9_mark_41 : decode cX9_mark 41 = .ok (.iload_n 2, 1) := by decide +kernel
theorem dX9_mark_42 : decode cX9_mark 42 = .ok (.iadd, 1) := by decide +kernel
theorem dX9_mark_43 : decode cX9_mark 43 = .ok (.iaload, 1) := by decide +kernel
theorem dX9_mark_44 : decode cX9_mark 44 = .ok (.isub, 1) := by decide +kernel
theorem dX9_mark_45 : decode cX9_mark 45 = .ok (.istore 4, 2) := by decide +kernel
theorem dX9_mark_47 : decode cX9_mark 47 = .ok (.iload_n 1, 1) := by decide +kernel
theorem dX9_mark_48 : decode cX9_mark 48 = .ok (.tableswitch 129 0 4 #[36, 48, 69, 84, 107], 36) := by decide +kernel
theorem dX9_mark_84 : decode cX9_mark 84 = .ok (.aload_n 0, 1) := by decide +kernel
theorem dX9_mark_85 : decode cX9_mark 85 = .ok (.dup, 1) := by decide +kernel
theorem dX9_mark_86 : decode cX9_mark 86 = .ok (.getfield 187, 3) := by decide +kernel
theorem dX9_mark_89 : decode cX9_mark 89 = .ok (.lconst 1, 1) := by decide +kernel
theorem dX9_mark_90 : decode cX9_mark 90 = .ok (.ladd, 1) := by decide +kernel
theorem dX9_mark_91 : decode cX9_mark 91 = .ok (.putfield 187, 3) := by decide +kernel
theorem dX9_mark_94 : decode cX9_mark 94 = .ok (.iload_n 3, 1) := by decide +kernel
theorem dX9_mark_95 : decode cX9_mark 95 = .ok (.ireturn, 1) := by decide +kernel
theorem dX9_mark_96 : decode cX9_mark 96 = .ok (.aload_n 0, 1) := by decide +kernel
theorem dX9_mark_97 : decode cX9_mark 97 = .ok (.dup, 1) := by decide +kernel
theorem dX9_mark_98 : decode cX9_mark 98 = .ok (.getfield 187, 3) := by decide +kernel
theorem dX9_mark_101 : decode cX9_mark 101 = .ok (.ldc2_w 191, 3) := by decide +kernel
theorem dX9_mark_104 : decode cX9_mark 104 = .ok (.ladd, 1) := by decide +kernel
theorem dX9_mark_105 : decode cX9_mark 105 = .ok (.putfield 187, 3) := by decide +kernel
theorem dX9_mark_108 : decode cX9_mark 108 = .ok (.iload_n 3, 1) := by decide +kernel
theorem dX9_mark_109 : decode cX9_mark 109 = .ok (.aload_n 0, 1) := by decide +kernel
theorem dX9_mark_110 : decode cX9_mark 110 = .ok (.getfield 26, 3) := by decide +kernel
theorem dX9_mark_113 : decode cX9_mark 113 = .ok (.iload_n 2, 1) := by decide +kernel
theorem dX9_mark_114 : decode cX9_mark 114 = .ok (.iaload, 1) := by decide +kernel
theorem dX9_mark_115 : decode cX9_mark 115 = .ok (.iadd, 1) := by decide +kernel
theorem dX9_mark_116 : decode cX9_mark 116 = .ok (.ireturn, 1) := by decide +kernel
theorem dX9_mark_117 : decode cX9_mark 117 = .ok (.aload_n 0, 1) := by decide +kernel
theorem dX9_mark_118 : decode cX9_mark 118 = .ok (.dup, 1) := by decide +kernel
theorem dX9_mark_119 : decode cX9_mark 119 = .ok (.getfield 187, 3) := by decide +kernel
theorem dX9_mark_122 : decode cX9_mark 122 = .ok (.ldc2_w 193, 3) := by decide +kernel
theorem dX9_mark_125 : decode cX9_mark 125 = .ok (.ladd, 1) := by decide +kernel
theorem dX9_mark_126 : decode cX9_mark 126 = .ok (.putfield 187, 3) := by decide +kernel
theorem dX9_mark_129 : decode cX9_mark 129 = .ok (.iload 4, 2) := by decide +kernel
theorem dX9_mark_131 : decode cX9_mark 131 = .ok (.ireturn, 1) := by decide +kernel
theorem dX9_mark_132 : decode cX9_mark 132 = .ok (.aload_n 0, 1) := by decide +kernel
theorem dX9_mark_133 : decode cX9_mark 133 = .ok (.dup, 1) := by decide +kernel
theorem dX9_mark_134 : decode cX9_mark 134 = .ok (.getfield 187, 3) := by decide +kernel
theorem dX9_mark_137 : decode cX9_mark 137 = .ok (.ldc2_w 195, 3) := by decide +kernel
theorem dX9_mark_140 : decode cX9_mark 140 = .ok (.ladd, 1) := by decide +kernel
theorem dX9_mark_141 : decode cX9_mark 141 = .ok (.putfield 187, 3) := by decide +kernel
theorem dX9_mark_144 : decode cX9_mark 144 = .ok (.iconst 2, 1) := by decide +kernel
theorem dX9_mark_145 : decode cX9_mark 145 = .ok (.iload_n 3, 1) := by decide +kernel
theorem dX9_mark_146 : decode cX9_mark 146 = .ok (.aload_n 0, 1) := by decide +kernel
theorem dX9_mark_147 : decode cX9_mark 147 = .ok (.getfield 26, 3) := by decide +kernel
theorem dX9_mark_150 : decode cX9_mark 150 = .ok (.iload_n 2, 1) := by decide +kernel
theorem dX9_mark_151 : decode cX9_mark 151 = .ok (.iaload, 1) := by decide +kernel
theorem dX9_mark_152 : decode cX9_mark 152 = .ok (.iadd, 1) := by decide +kernel
theorem dX9_mark_153 : decode cX9_mark 153 = .ok (.imul, 1) := by decide +kernel
theorem dX9_mark_154 : decode cX9_mark 154 = .ok (.ireturn, 1) := by decide +kernel
theorem dX9_mark_155 : decode cX9_mark 155 = .ok (.aload_n 0, 1) := by decide +kernel
theorem dX9_mark_156 : decode cX9_mark 156 = .ok (.dup, 1) := by decide +kernel
theorem dX9_mark_157 : decode cX9_mark 157 = .ok (.getfield 187, 3) := by decide +kernel
theorem dX9_mark_160 : decode cX9_mark 160 = .ok (.ldc2_w 197, 3) := by decide +kernel
theorem dX9_mark_163 : decode cX9_mark 163 = .ok (.ladd, 1) := by decide +kernel
theorem dX9_mark_164 : decode cX9_mark 164 = .ok (.putfield 187, 3) := by decide +kernel
theorem dX9_mark_167 : decode cX9_mark 167 = .ok (.iload 4, 2) := by decide +kernel
theorem dX9_mark_169 : decode cX9_mark 169 = .ok (.aload_n 0, 1) := by decide +kernel
theorem dX9_mark_170 : decode cX9_mark 170 = .ok (.getfield 29, 3) := by decide +kernel
theorem dX9_mark_173 : decode cX9_mark 173 = .ok (.iload_n 2, 1) := by decide +kernel
theorem dX9_mark_174 : decode cX9_mark 174 = .ok (.iaload, 1) := by decide +kernel
theorem dX9_mark_175 : decode cX9_mark 175 = .ok (.iadd, 1) := by decide +kernel
theorem dX9_mark_176 : decode cX9_mark 176 = .ok (.ireturn, 1) := by decide +kernel
theorem dX9_mark_177 : decode cX9_mark 177 = .ok (.aload_n 0, 1) := by decide +kernel
theorem dX9_mark_178 : decode cX9_mark 178 = .ok (.dup, 1) := by decide +kernel
theorem dX9_mark_179 : decode cX9_mark 179 = .ok (.getfield 187, 3) := by decide +kernel
theorem dX9_mark_182 : decode cX9_mark 182 = .ok (.ldc2_w 199, 3) := by decide +kernel
theorem dX9_mark_185 : decode cX9_mark 185 = .ok (.ladd, 1) := by decide +kernel
theorem dX9_mark_186 : decode cX9_mark 186 = .ok (.putfield 187, 3) := by decide +kernel
theorem dX9_mark_189 : decode cX9_mark 189 = .ok (.iload_n 3, 1) := by decide +kernel
theorem dX9_mark_190 : decode cX9_mark 190 = .ok (.aload_n 0, 1) := by decide +kernel
theorem dX9_mark_191 : decode cX9_mark 191 = .ok (.getfield 35, 3) := by decide +kernel
theorem dX9_mark_194 : decode cX9_mark 194 = .ok (.iconst 1, 1) := by decide +kernel
theorem dX9_mark_195 : decode cX9_mark 195 = .ok (.iaload, 1) := by decide +kernel
theorem dX9_mark_196 : decode cX9_mark 196 = .ok (.iadd, 1) := by decide +kernel
theorem dX9_mark_197 : decode cX9_mark 197 = .ok (.ireturn, 1) := by decide +kernel
theorem dX9_keep_0 : decode cX9_keep 0 = .ok (.iload_n 1, 1) := by decide +kernel
theorem dX9_keep_1 : decode cX9_keep 1 = .ok (.iconst 0, 1) := by decide +kernel
theorem dX9_keep_2 : decode cX9_keep 2 = .ok (.iconst 1, 1) := by decide +kernel
theorem dX9_keep_3 : decode cX9_keep 3 = .ok (.invokestatic 57, 3) := by decide +kernel
theorem dX9_keep_6 : decode cX9_keep 6 = .ok (.ifCond .ne 5, 3) := by decide +kernel
theorem dX9_keep_9 : decode cX9_keep 9 = .ok (.iconst (-1), 1) := by decide +kernel
theorem dX9_keep_10 : decode cX9_keep 10 = .ok (.ireturn, 1) := by decide +kernel
theorem dX9_keep_11 : decode cX9_keep 11 = .ok (.iconst 0, 1) := by decide +kernel
theorem dX9_keep_12 : decode cX9_keep 12 = .ok (.istore_n 2, 1) := by decide +kernel
theorem dX9_keep_13 : decode cX9_keep 13 = .ok (.iload_n 2, 1) := by decide +kernel
theorem dX9_keep_14 : decode cX9_keep 14 = .ok (.bipush 100, 2) := by decide +kernel
theorem dX9_keep_16 : decode cX9_keep 16 = .ok (.if_icmp .ge 28, 3) := by decide +kernel
theorem dX9_keep_19 : decode cX9_keep 19 = .ok (.aload_n 0, 1) := by decide +kernel
theorem dX9_keep_20 : decode cX9_keep 20 = .ok (.getfield 35, 3) := by decide +kernel
theorem dX9_keep_23 : decode cX9_keep 23 = .ok (.bipush 100, 2) := by decide +kernel
theorem dX9_keep_25 : decode cX9_keep 25 = .ok (.iconst 1, 1) := by decide +kernel
theorem dX9_keep_26 : decode cX9_keep 26 = .ok (.iload_n 1, 1) := by decide +kernel
theorem dX9_keep_27 : decode cX9_keep 27 = .ok (.iadd, 1) := by decide +kernel
theorem dX9_keep_28 : decode cX9_keep 28 = .ok (.imul, 1) := by decide +kernel
theorem dX9_keep_29 : decode cX9_keep 29 = .ok (.iload_n 2, 1) := by decide +kernel
theorem dX9_keep_30 : decode cX9_keep 30 = .ok (.iadd, 1) := by decide +kernel
theorem dX9_keep_31 : decode cX9_keep 31 = .ok (.aload_n 0, 1) := by decide +kernel
theorem dX9_keep_32 : decode cX9_keep 32 = .ok (.getfield 35, 3) := by decide +kernel
theorem dX9_keep_35 : decode cX9_keep 35 = .ok (.iload_n 2, 1) := by decide +kernel
theorem dX9_keep_36 : decode cX9_keep 36 = .ok (.iaload, 1) := by decide +kernel
theorem dX9_keep_37 : decode cX9_keep 37 = .ok (.iastore, 1) := by decide +kernel
theorem dX9_keep_38 : decode cX9_keep 38 = .ok (.iinc 2 1, 3) := by decide +kernel
theorem dX9_keep_41 : decode cX9_keep 41 = .ok (.goto (-28), 3) := by decide +kernel
theorem dX9_keep_44 : decode cX9_keep 44 = .ok (.aload_n 0, 1) := by decide +kernel
theorem dX9_keep_45 : decode cX9_keep 45 = .ok (.getfield 38, 3) := by decide +kernel
theorem dX9_keep_48 : decode cX9_keep 48 = .ok (.iload_n 1, 1) := by decide +kernel
theorem dX9_keep_49 : decode cX9_keep 49 = .ok (.iconst 1, 1) := by decide +kernel
theorem dX9_keep_50 : decode cX9_keep 50 = .ok (.bastore, 1) := by decide +kernel
theorem dX9_keep_51 : decode cX9_keep 51 = .ok (.aload_n 0, 1) := by decide +kernel
theorem dX9_keep_52 : decode cX9_keep 52 = .ok (.getfield 35, 3) := by decide +kernel
theorem dX9_keep_55 : decode cX9_keep 55 = .ok (.iconst 1, 1) := by decide +kernel
theorem dX9_keep_56 : decode cX9_keep 56 = .ok (.iaload, 1) := by decide +kernel
theorem dX9_keep_57 : decode cX9_keep 57 = .ok (.ireturn, 1) := by decide +kernel
theorem dX9_back_0 : decode cX9_back 0 = .ok (.iload_n 1, 1) := by decide +kernel
theorem dX9_back_1 : decode cX9_back 1 = .ok (.iconst 0, 1) := by decide +kernel
theorem dX9_back_2 : decode cX9_back 2 = .ok (.iconst 1, 1) := by decide +kernel
theorem dX9_back_3 : decode cX9_back 3 = .ok (.invokestatic 57, 3) := by decide +kernel
theorem dX9_back_6 : decode cX9_back 6 = .ok (.ifCond .ne 5, 3) := by decide +kernel
theorem dX9_back_9 : decode cX9_back 9 = .ok (.iconst (-1), 1) := by decide +kernel
theorem dX9_back_10 : decode cX9_back 10 = .ok (.ireturn, 1) := by decide +kernel
theorem dX9_back_11 : decode cX9_back 11 = .ok (.aload_n 0, 1) := by decide +kernel
theorem dX9_back_12 : decode cX9_back 12 = .ok (.getfield 38, 3) := by decide +kernel
theorem dX9_back_15 : decode cX9_back 15 = .ok (.iload_n 1, 1) := by decide +kernel
theorem dX9_back_16 : decode cX9_back 16 = .ok (.baload, 1) := by decide +kernel
theorem dX9_back_17 : decode cX9_back 17 = .ok (.ifCond .ne 6, 3) := by decide +kernel
theorem dX9_back_20 : decode cX9_back 20 = .ok (.bipush (-2), 2) := by decide +kernel
theorem dX9_back_22 : decode cX9_back 22 = .ok (.ireturn, 1) := by decide +kernel
theorem dX9_back_23 : decode cX9_back 23 = .ok (.iconst 0, 1) := by decide +kernel
theorem dX9_back_24 : decode cX9_back 24 = .ok (.istore_n 2, 1) := by decide +kernel
theorem dX9_back_25 : decode cX9_back 25 = .ok (.iload_n 2, 1) := by decide +kernel
theorem dX9_back_26 : decode cX9_back 26 = .ok (.bipush 100, 2) := by decide +kernel
theorem dX9_back_28 : decode cX9_back 28 = .ok (.if_icmp .ge 28, 3) := by decide +kernel
theorem dX9_back_31 : decode cX9_back 31 = .ok (.aload_n 0, 1) := by decide +kernel
theorem dX9_back_32 : decode cX9_back 32 = .ok (.getfield 35, 3) := by decide +kernel
theorem dX9_back_35 : decode cX9_back 35 = .ok (.iload_n 2, 1) := by decide +kernel
theorem dX9_back_36 : decode cX9_back 36 = .ok (.aload_n 0, 1) := by decide +kernel
theorem dX9_back_37 : decode cX9_back 37 = .ok (.getfield 35, 3) := by decide +kernel
theorem dX9_back_40 : decode cX9_back 40 = .ok (.bipush 100, 2) := by decide +kernel
theorem dX9_back_42 : decode cX9_back 42 = .ok (.iconst 1, 1) := by decide +kernel
theorem dX9_back_43 : decode cX9_back 43 = .ok (.iload_n 1, 1) := by decide +kernel
theorem dX9_back_44 : decode cX9_back 44 = .ok (.iadd, 1) := by decide +kernel
theorem dX9_back_45 : decode cX9_back 45 = .ok (.imul, 1) := by decide +kernel
theorem dX9_back_46 : decode cX9_back 46 = .ok (.iload_n 2, 1) := by decide +kernel
theorem dX9_back_47 : decode cX9_back 47 = .ok (.iadd, 1) := by decide +kernel
theorem dX9_back_48 : decode cX9_back 48 = .ok (.iaload, 1) := by decide +kernel
theorem dX9_back_49 : decode cX9_back 49 = .ok (.iastore, 1) := by decide +kernel
theorem dX9_back_50 : decode cX9_back 50 = .ok (.iinc 2 1, 3) := by decide +kernel
theorem dX9_back_53 : decode cX9_back 53 = .ok (.goto (-28), 3) := by decide +kernel
theorem dX9_back_56 : decode cX9_back 56 = .ok (.aload_n 0, 1) := by decide +kernel
theorem dX9_back_57 : decode cX9_back 57 = .ok (.getfield 35, 3) := by decide +kernel
theorem dX9_back_60 : decode cX9_back 60 = .ok (.iconst 1, 1) := by decide +kernel
theorem dX9_back_61 : decode cX9_back 61 = .ok (.iaload, 1) := by decide +kernel
theorem dX9_back_62 : decode cX9_back 62 = .ok (.ireturn, 1) := by decide +kernel
theorem dX9_count_0 : decode cX9_count 0 = .ok (.iload_n 1, 1) := by decide +kernel
theorem dX9_count_1 : decode cX9_count 1 = .ok (.tableswitch 89 0 6 #[43, 50, 57, 64, 71, 76, 84], 43) := by decide +kernel
theorem dX9_count_44 : decode cX9_count 44 = .ok (.aload_n 0, 1) := by decide +kernel
theorem dX9_count_45 : decode cX9_count 45 = .ok (.getfield 13, 3) := by decide +kernel
theorem dX9_count_48 : decode cX9_count 48 = .ok (.iconst 0, 1) := by decide +kernel
theorem dX9_count_49 : decode cX9_count 49 = .ok (.iaload, 1) := by decide +kernel
theorem dX9_count_50 : decode cX9_count 50 = .ok (.ireturn, 1) := by decide +kernel
theorem dX9_count_51 : decode cX9_count 51 = .ok (.aload_n 0, 1) := by decide +kernel
theorem dX9_count_52 : decode cX9_count 52 = .ok (.getfield 17, 3) := by decide +kernel
theorem dX9_count_55 : decode cX9_count 55 = .ok (.iconst 0, 1) := by decide +kernel
theorem dX9_count_56 : decode cX9_count 56 = .ok (.iaload, 1) := by decide +kernel
theorem dX9_count_57 : decode cX9_count 57 = .ok (.ireturn, 1) := by decide +kernel
theorem dX9_count_58 : decode cX9_count 58 = .ok (.aload_n 0, 1) := by decide +kernel
theorem dX9_count_59 : decode cX9_count 59 = .ok (.getfield 23, 3) := by decide +kernel
theorem dX9_count_62 : decode cX9_count 62 = .ok (.iconst 0, 1) := by decide +kernel
theorem dX9_count_63 : decode cX9_count 63 = .ok (.iaload, 1) := by decide +kernel
theorem dX9_count_64 : decode cX9_count 64 = .ok (.ireturn, 1) := by decide +kernel
theorem dX9_count_65 : decode cX9_count 65 = .ok (.aload_n 0, 1) := by decide +kernel
theorem dX9_count_66 : decode cX9_count 66 = .ok (.getfield 32, 3) := by decide +kernel
theorem dX9_count_69 : decode cX9_count 69 = .ok (.iconst 0, 1) := by decide +kernel
theorem dX9_count_70 : decode cX9_count 70 = .ok (.iaload, 1) := by decide +kernel
theorem dX9_count_71 : decode cX9_count 71 = .ok (.ireturn, 1) := by decide +kernel
theorem dX9_count_72 : decode cX9_count 72 = .ok (.aload_n 0, 1) := by decide +kernel
theorem dX9_count_73 : decode cX9_count 73 = .ok (.getfield 102, 3) := by decide +kernel
theorem dX9_count_76 : decode cX9_count 76 = .ok (.ireturn, 1) := by decide +kernel
theorem dX9_count_77 : decode cX9_count 77 = .ok (.aload_n 0, 1) := by decide +kernel
theorem dX9_count_78 : decode cX9_count 78 = .ok (.getfield 35, 3) := by decide +kernel
theorem dX9_count_81 : decode cX9_count 81 = .ok (.bipush 9, 2) := by decide +kernel
theorem dX9_count_83 : decode cX9_count 83 = .ok (.iaload, 1) := by decide +kernel
theorem dX9_count_84 : decode cX9_count 84 = .ok (.ireturn, 1) := by decide +kernel
theorem dX9_count_85 : decode cX9_count 85 = .ok (.aload_n 0, 1) := by decide +kernel
theorem dX9_count_86 : decode cX9_count 86 = .ok (.getfield 61, 3) := by decide +kernel
theorem dX9_count_89 : decode cX9_count 89 = .ok (.ireturn, 1) := by decide +kernel
theorem dX9_count_90 : decode cX9_count 90 = .ok (.iconst (-1), 1) := by decide +kernel
theorem dX9_count_91 : decode cX9_count 91 = .ok (.ireturn, 1) := by decide +kernel
theorem dX9_trace_0 : decode cX9_trace 0 = .ok (.aload_n 0, 1) := by decide +kernel
theorem dX9_trace_1 : decode cX9_trace 1 = .ok (.getfield 187, 3) := by decide +kernel
theorem dX9_trace_4 : decode cX9_trace 4 = .ok (.lreturn, 1) := by decide +kernel
theorem dJ6_bitCount_0f7a4_0 : decode cJ6_bitCount_0f7a4 0 = .ok (.iload_n 0, 1) := by decide +kernel
theorem dJ6_bitCount_0f7a4_1 : decode cJ6_bitCount_0f7a4 1 = .ok (.iload_n 0, 1) := by decide +kernel
theorem dJ6_bitCount_0f7a4_2 : decode cJ6_bitCount_0f7a4 2 = .ok (.iconst 1, 1) := by decide +kernel
theorem dJ6_bitCount_0f7a4_3 : decode cJ6_bitCount_0f7a4 3 = .ok (.iushr, 1) := by decide +kernel
theorem dJ6_bitCount_0f7a4_4 : decode cJ6_bitCount_0f7a4 4 = .ok (.ldc_w 265, 3) := by decide +kernel
theorem dJ6_bitCount_0f7a4_7 : decode cJ6_bitCount_0f7a4 7 = .ok (.iand, 1) := by decide +kernel
theorem dJ6_bitCount_0f7a4_8 : decode cJ6_bitCount_0f7a4 8 = .ok (.isub, 1) := by decide +kernel
theorem dJ6_bitCount_0f7a4_9 : decode cJ6_bitCount_0f7a4 9 = .ok (.istore_n 0, 1) := by decide +kernel
theorem dJ6_bitCount_0f7a4_10 : decode cJ6_bitCount_0f7a4 10 = .ok (.iload_n 0, 1) := by decide +kernel
theorem dJ6_bitCount_0f7a4_11 : decode cJ6_bitCount_0f7a4 11 = .ok (.ldc_w 266, 3) := by decide +kernel
theorem dJ6_bitCount_0f7a4_14 : decode cJ6_bitCount_0f7a4 14 = .ok (.iand, 1) := by decide +kernel
theorem dJ6_bitCount_0f7a4_15 : decode cJ6_bitCount_0f7a4 15 = .ok (.iload_n 0, 1) := by decide +kernel
theorem dJ6_bitCount_0f7a4_16 : decode cJ6_bitCount_0f7a4 16 = .ok (.iconst 2, 1) := by decide +kernel
theorem dJ6_bitCount_0f7a4_17 : decode cJ6_bitCount_0f7a4 17 = .ok (.iushr, 1) := by decide +kernel
theorem dJ6_bitCount_0f7a4_18 : decode cJ6_bitCount_0f7a4 18 = .ok (.ldc_w 266, 3) := by decide +kernel
theorem dJ6_bitCount_0f7a4_21 : decode cJ6_bitCount_0f7a4 21 = .ok (.iand, 1) := by decide +kernel
theorem dJ6_bitCount_0f7a4_22 : decode cJ6_bitCount_0f7a4 22 = .ok (.iadd, 1) := by decide +kernel
theorem dJ6_bitCount_0f7a4_23 : decode cJ6_bitCount_0f7a4 23 = .ok (.istore_n 0, 1) := by decide +kernel
theorem dJ6_bitCount_0f7a4_24 : decode cJ6_bitCount_0f7a4 24 = .ok (.iload_n 0, 1) := by decide +kernel
theorem dJ6_bitCount_0f7a4_25 : decode cJ6_bitCount_0f7a4 25 = .ok (.iload_n 0, 1) := by decide +kernel
theorem dJ6_bitCount_0f7a4_26 : decode cJ6_bitCount_0f7a4 26 = .ok (.iconst 4, 1) := by decide +kernel
theorem dJ6_bitCount_0f7a4_27 : decode cJ6_bitCount_0f7a4 27 = .ok (.iushr, 1) := by decide +kernel
theorem dJ6_bitCount_0f7a4_28 : decode cJ6_bitCount_0f7a4 28 = .ok (.iadd, 1) := by decide +kernel
theorem dJ6_bitCount_0f7a4_29 : decode cJ6_bitCount_0f7a4 29 = .ok (.ldc_w 267, 3) := by decide +kernel
theorem dJ6_bitCount_0f7a4_32 : decode cJ6_bitCount_0f7a4 32 = .ok (.iand, 1) := by decide +kernel
theorem dJ6_bitCount_0f7a4_33 : decode cJ6_bitCount_0f7a4 33 = .ok (.istore_n 0, 1) := by decide +kernel
theorem dJ6_bitCount_0f7a4_34 : decode cJ6_bitCount_0f7a4 34 = .ok (.iload_n 0, 1) := by decide +kernel
theorem dJ6_bitCount_0f7a4_35 : decode cJ6_bitCount_0f7a4 35 = .ok (.iload_n 0, 1) := by decide +kernel
theorem dJ6_bitCount_0f7a4_36 : decode cJ6_bitCount_0f7a4 36 = .ok (.bipush 8, 2) := by decide +kernel
theorem dJ6_bitCount_0f7a4_38 : decode cJ6_bitCount_0f7a4 38 = .ok (.iushr, 1) := by decide +kernel
theorem dJ6_bitCount_0f7a4_39 : decode cJ6_bitCount_0f7a4 39 = .ok (.iadd, 1) := by decide +kernel
theorem dJ6_bitCount_0f7a4_40 : decode cJ6_bitCount_0f7a4 40 = .ok (.istore_n 0, 1) := by decide +kernel
theorem dJ6_bitCount_0f7a4_41 : decode cJ6_bitCount_0f7a4 41 = .ok (.iload_n 0, 1) := by decide +kernel
theorem dJ6_bitCount_0f7a4_42 : decode cJ6_bitCount_0f7a4 42 = .ok (.iload_n 0, 1) := by decide +kernel
theorem dJ6_bitCount_0f7a4_43 : decode cJ6_bitCount_0f7a4 43 = .ok (.bipush 16, 2) := by decide +kernel
theorem dJ6_bitCount_0f7a4_45 : decode cJ6_bitCount_0f7a4 45 = .ok (.iushr, 1) := by decide +kernel
theorem dJ6_bitCount_0f7a4_46 : decode cJ6_bitCount_0f7a4 46 = .ok (.iadd, 1) := by decide +kernel
theorem dJ6_bitCount_0f7a4_47 : decode cJ6_bitCount_0f7a4 47 = .ok (.istore_n 0, 1) := by decide +kernel
theorem dJ6_bitCount_0f7a4_48 : decode cJ6_bitCount_0f7a4 48 = .ok (.iload_n 0, 1) := by decide +kernel
theorem dJ6_bitCount_0f7a4_49 : decode cJ6_bitCount_0f7a4 49 = .ok (.bipush 63, 2) := by decide +kernel
theorem dJ6_bitCount_0f7a4_51 : decode cJ6_bitCount_0f7a4 51 = .ok (.iand, 1) := by decide +kernel
theorem dJ6_bitCount_0f7a4_52 : decode cJ6_bitCount_0f7a4 52 = .ok (.ireturn, 1) := by decide +kernel
theorem dJ9_min_7cf53_0 : decode cJ9_min_7cf53 0 = .ok (.iload_n 0, 1) := by decide +kernel
theorem dJ9_min_7cf53_1 : decode cJ9_min_7cf53 1 = .ok (.iload_n 1, 1) := by decide +kernel
theorem dJ9_min_7cf53_2 : decode cJ9_min_7cf53 2 = .ok (.if_icmp .gt 7, 3) := by decide +kernel
theorem dJ9_min_7cf53_5 : decode cJ9_min_7cf53 5 = .ok (.iload_n 0, 1) := by decide +kernel
theorem dJ9_min_7cf53_6 : decode cJ9_min_7cf53 6 = .ok (.goto 4, 3) := by decide +kernel
theorem dJ9_min_7cf53_9 : decode cJ9_min_7cf53 9 = .ok (.iload_n 1, 1) := by decide +kernel
theorem dJ9_min_7cf53_10 : decode cJ9_min_7cf53 10 = .ok (.ireturn, 1) := by decide +kernel
theorem dL_law_0 : decode cL_law 0 = .ok (.new 7, 3) := by decide +kernel
theorem dL_law_3 : decode cL_law 3 = .ok (.dup, 1) := by decide +kernel
theorem dL_law_4 : decode cL_law 4 = .ok (.invokespecial 9, 3) := by decide +kernel
theorem dL_law_7 : decode cL_law 7 = .ok (.astore_n 1, 1) := by decide +kernel
theorem dL_law_8 : decode cL_law 8 = .ok (.new 10, 3) := by decide +kernel
theorem dL_law_11 : decode cL_law 11 = .ok (.dup, 1) := by decide +kernel
theorem dL_law_12 : decode cL_law 12 = .ok (.invokespecial 12, 3) := by decide +kernel
theorem dL_law_15 : decode cL_law 15 = .ok (.astore_n 2, 1) := by decide +kernel
theorem dL_law_16 : decode cL_law 16 = .ok (.iconst 0, 1) := by decide +kernel
theorem dL_law_17 : decode cL_law 17 = .ok (.istore_n 3, 1) := by decide +kernel
theorem dL_law_18 : decode cL_law 18 = .ok (.iload_n 3, 1) := by decide +kernel
theorem dL_law_19 : decode cL_law 19 = .ok (.aload_n 0, 1) := by decide +kernel
theorem dL_law_20 : decode cL_law 20 = .ok (.arraylength, 1) := by decide +kernel
theorem dL_law_21 : decode cL_law 21 = .ok (.iconst 4, 1) := by decide +kernel
theorem dL_law_22 : decode cL_law 22 = .ok (.isub, 1) := by decide +kernel
theorem dL_law_23 : decode cL_law 23 = .ok (.if_icmp .gt 821, 3) := by decide +kernel
theorem dL_law_26 : decode cL_law 26 = .ok (.aload_n 0, 1) := by decide +kernel
theorem dL_law_27 : decode cL_law 27 = .ok (.iload_n 3, 1) := by decide +kernel
theorem dL_law_28 : decode cL_law 28 = .ok (.iaload, 1) := by decide +kernel
theorem dL_law_29 : decode cL_law 29 = .ok (.bipush 31, 2) := by decide +kernel
theorem dL_law_31 : decode cL_law 31 = .ok (.iand, 1) := by decide +kernel
theorem dL_law_32 : decode cL_law 32 = .ok (.tableswitch 806 0 26 #[124, 147, 160, 173, 206, 239, 272, 295, 328, 361, 394, 407, 430, 463, 486, 509, 532, 575, 598, 621, 654, 667, 690, 723, 746, 769, 792], 124) := by decide +kernel
theorem dL_law_156 : decode cL_law 156 = .ok (.aload_n 1, 1) := by decide +kernel
theorem dL_law_157 : decode cL_law 157 = .ok (.aload_n 0, 1) := by decide +kernel
theorem dL_law_158 : decode cL_law 158 = .ok (.iload_n 3, 1) := by decide +kernel
theorem dL_law_159 : decode cL_law 159 = .ok (.iconst 1, 1) := by decide +kernel
theorem dL_law_160 : decode cL_law 160 = .ok (.iadd, 1) := by decide +kernel
theorem dL_law_161 : decode cL_law 161 = .ok (.iaload, 1) := by decide +kernel
theorem dL_law_162 : decode cL_law 162 = .ok (.invokevirtual 13, 3) := by decide +kernel
theorem dL_law_165 : decode cL_law 165 = .ok (.aload_n 2, 1) := by decide +kernel
theorem dL_law_166 : decode cL_law 166 = .ok (.aload_n 0, 1) := by decide +kernel
theorem dL_law_167 : decode cL_law 167 = .ok (.iload_n 3, 1) := by decide +kernel
theorem dL_law_168 : decode cL_law 168 = .ok (.iconst 1, 1) := by decide +kernel
theorem dL_law_169 : decode cL_law 169 = .ok (.iadd, 1) := by decide +kernel
theorem dL_law_170 : decode cL_law 170 = .ok (.iaload, 1) := by decide +kernel
theorem dL_law_171 : decode cL_law 171 = .ok (.invokevirtual 17, 3) := by decide +kernel
theorem dL_law_174 : decode cL_law 174 = .ok (.if_icmp .eq 664, 3) := by decide +kernel
theorem dL_law_177 : decode cL_law 177 = .ok (.iconst 0, 1) := by decide +kernel
theorem dL_law_178 : decode cL_law 178 = .ok (.ireturn, 1) := by decide +kernel
theorem dL_law_179 : decode cL_law 179 = .ok (.aload_n 1, 1) := by decide +kernel
theorem dL_law_180 : decode cL_law 180 = .ok (.invokevirtual 18, 3) := by decide +kernel
theorem dL_law_183 : decode cL_law 183 = .ok (.aload_n 2, 1) := by decide +kernel
theorem dL_law_184 : decode cL_law 184 = .ok (.invokevirtual 22, 3) := by decide +kernel
theorem dL_law_187 : decode cL_law 187 = .ok (.if_icmp .eq 651, 3) := by decide +kernel
theorem dL_law_190 : decode cL_law 190 = .ok (.iconst 0, 1) := by decide +kernel
theorem dL_law_191 : decode cL_law 191 = .ok (.ireturn, 1) := by decide +kernel
theorem dL_law_192 : decode cL_law 192 = .ok (.aload_n 1, 1) := by decide +kernel
theorem dL_law_193 : decode cL_law 193 = .ok (.invokevirtual 23, 3) := by decide +kernel
theorem dL_law_196 : decode cL_law 196 = .ok (.aload_n 2, 1) := by decide +kernel
theorem dL_law_197 : decode cL_law 197 = .ok (.invokevirtual 26, 3) := by decide +kernel
theorem dL_law_200 : decode cL_law 200 = .ok (.if_icmp .eq 638, 3) := by decide +kernel
theorem dL_law_203 : decode cL_law 203 = .ok (.iconst 0, 1) := by decide +kernel
theorem dL_law_204 : decode cL_law 204 = .ok (.ireturn, 1) := by decide +kernel
theorem dL_law_205 : decode cL_law 205 = .ok (.aload_n 1, 1) := by decide +kernel
theorem dL_law_206 : decode cL_law 206 = .ok (.aload_n 0, 1) := by decide +kernel
theorem dL_law_207 : decode cL_law 207 = .ok (.iload_n 3, 1) := by decide +kernel
theorem dL_law_208 : decode cL_law 208 = .ok (.iconst 1, 1) := by decide +kernel
theorem dL_law_209 : decode cL_law 209 = .ok (.iadd, 1) := by decide +kernel
theorem dL_law_210 : decode cL_law 210 = .ok (.iaload, 1) := by decide +kernel
theorem dL_law_211 : decode cL_law 211 = .ok (.aload_n 0, 1) := by decide +kernel
theorem dL_law_212 : decode cL_law 212 = .ok (.iload_n 3, 1) := by decide +kernel
theorem dL_law_213 : decode cL_law 213 = .ok (.iconst 2, 1) := by decide +kernel
theorem dL_law_214 : decode cL_law 214 = .ok (.iadd, 1) := by decide +kernel
theorem dL_law_215 : decode cL_law 215 = .ok (.iaload, 1) := by decide +kernel
theorem dL_law_216 : decode cL_law 216 = .ok (.invokevirtual 27, 3) := by decide +kernel
theorem dL_law_219 : decode cL_law 219 = .ok (.aload_n 2, 1) := by decide +kernel
theorem dL_law_220 : decode cL_law 220 = .ok (.aload_n 0, 1) := by decide +kernel
theorem dL_law_221 : decode cL_law 221 = .ok (.iload_n 3, 1) := by decide +kernel
theorem dL_law_222 : decode cL_law 222 = .ok (.iconst 1, 1) := by decide +kernel
theorem dL_law_223 : decode cL_law 223 = .ok (.iadd, 1) := by decide +kernel
theorem dL_law_224 : decode cL_law 224 = .ok (.iaload, 1) := by decide +kernel
theorem dL_law_225 : decode cL_law 225 = .ok (.aload_n 0, 1) := by decide +kernel
theorem dL_law_226 : decode cL_law 226 = .ok (.iload_n 3, 1) := by decide +kernel
theorem dL_law_227 : decode cL_law 227 = .ok (.iconst 2, 1) := by decide +kernel
theorem dL_law_228 : decode cL_law 228 = .ok (.iadd, 1) := by decide +kernel
theorem dL_law_229 : decode cL_law 229 = .ok (.iaload, 1) := by decide +kernel
theorem dL_law_230 : decode cL_law 230 = .ok (.invokevirtual 31, 3) := by decide +kernel
theorem dL_law_233 : decode cL_law 233 = .ok (.if_icmp .eq 605, 3) := by decide +kernel
theorem dL_law_236 : decode cL_law 236 = .ok (.iconst 0, 1) := by decide +kernel
theorem dL_law_237 : decode cL_law 237 = .ok (.ireturn, 1) := by decide +kernel
theorem dL_law_238 : decode cL_law 238 = .ok (.aload_n 1, 1) := by decide +kernel
theorem dL_law_239 : decode cL_law 239 = .ok (.aload_n 0, 1) := by decide +kernel
theorem dL_law_240 : decode cL_law 240 = .ok (.iload_n 3, 1) := by decide +kernel
theorem dL_law_241 : decode cL_law 241 = .ok (.iconst 1, 1) := by decide +kernel
theorem dL_law_242 : decode cL_law 242 = .ok (.iadd, 1) := by decide +kernel
theorem dL_law_243 : decode cL_law 243 = .ok (.iaload, 1) := by decide +kernel
theorem dL_law_244 : decode cL_law 244 = .ok (.aload_n 0, 1) := by decide +kernel
theorem dL_law_245 : decode cL_law 245 = .ok (.iload_n 3, 1) := by decide +kernel
theorem dL_law_246 : decode cL_law 246 = .ok (.iconst 2, 1) := by decide +kernel
theorem dL_law_247 : decode cL_law 247 = .ok (.iadd, 1) := by decide +kernel
theorem dL_law_248 : decode cL_law 248 = .ok (.iaload, 1) := by decide +kernel
theorem dL_law_249 : decode cL_law 249 = .ok (.invokevirtual 32, 3) := by decide +kernel
theorem dL_law_252 : decode cL_law 252 = .ok (.aload_n 2, 1) := by decide +kernel
theorem dL_law_253 : decode cL_law 253 = .ok (.aload_n 0, 1) := by decide +kernel
theorem dL_law_254 : decode cL_law 254 = .ok (.iload_n 3, 1) := by decide +kernel
theorem dL_law_255 : decode cL_law 255 = .ok (.iconst 1, 1) := by decide +kernel
theorem dL_law_256 : decode cL_law 256 = .ok (.iadd, 1) := by decide +kernel
theorem dL_law_257 : decode cL_law 257 = .ok (.iaload, 1) := by decide +kernel
theorem dL_law_258 : decode cL_law 258 = .ok (.aload_n 0, 1) := by decide +kernel
theorem dL_law_259 : decode cL_law 259 = .ok (.iload_n 3, 1) := by decide +kernel
theorem dL_law_260 : decode cL_law 260 = .ok (.iconst 2, 1) := by decide +kernel
theorem dL_law_261 : decode cL_law 261 = .ok (.iadd, 1) := by decide +kernel
theorem dL_law_262 : decode cL_law 262 = .ok (.iaload, 1) := by decide +kernel
theorem dL_law_263 : decode cL_law 263 = .ok (.invokevirtual 35, 3) := by decide +kernel
theorem dL_law_266 : decode cL_law 266 = .ok (.if_icmp .eq 572, 3) := by decide +kernel
theorem dL_law_269 : decode cL_law 269 = .ok (.iconst 0, 1) := by decide +kernel
theorem dL_law_270 : decode cL_law 270 = .ok (.ireturn, 1) := by decide +kernel
theorem dL_law_271 : decode cL_law 271 = .ok (.aload_n 1, 1) := by decide +kernel
theorem dL_law_272 : decode cL_law 272 = .ok (.aload_n 0, 1) := by decide +kernel
theorem dL_law_273 : decode cL_law 273 = .ok (.iload_n 3, 1) := by decide +kernel
theorem dL_law_274 : decode cL_law 274 = .ok (.iconst 1, 1) := by decide +kernel
theorem dL_law_275 : decode cL_law 275 = .ok (.iadd, 1) := by decide +kernel
theorem dL_law_276 : decode cL_law 276 = .ok (.iaload, 1) := by decide +kernel
theorem dL_law_277 : decode cL_law 277 = .ok (.aload_n 0, 1) := by decide +kernel
theorem dL_law_278 : decode cL_law 278 = .ok (.iload_n 3, 1) := by decide +kernel
theorem dL_law_279 : decode cL_law 279 = .ok (.iconst 2, 1) := by decide +kernel
theorem dL_law_280 : decode cL_law 280 = .ok (.iadd, 1) := by decide +kernel
theorem dL_law_281 : decode cL_law 281 = .ok (.iaload, 1) := by decide +kernel
theorem dL_law_282 : decode cL_law 282 = .ok (.invokevirtual 36, 3) := by decide +kernel
theorem dL_law_285 : decode cL_law 285 = .ok (.aload_n 2, 1) := by decide +kernel
theorem dL_law_286 : decode cL_law 286 = .ok (.aload_n 0, 1) := by decide +kernel
theorem dL_law_287 : decode cL_law 287 = .ok (.iload_n 3, 1) := by decide +kernel
theorem dL_law_288 : decode cL_law 288 = .ok (.iconst 1, 1) := by decide +kernel
theorem dL_law_289 : decode cL_law 289 = .ok (.iadd, 1) := by decide +kernel
theorem dL_law_290 : decode cL_law 290 = .ok (.iaload, 1) := by decide +kernel
theorem dL_law_291 : decode cL_law 291 = .ok (.aload_n 0, 1) := by decide +kernel
theorem dL_law_292 : decode cL_law 292 = .ok (.iload_n 3, 1) := by decide +kernel
theorem dL_law_293 : decode cL_law 293 = .ok (.iconst 2, 1) := by decide +kernel
theorem dL_law_294 : decode cL_law 294 = .ok (.iadd, 1) := by decide +kernel
theorem dL_law_295 : decode cL_law 295 = .ok (.iaload, 1) := by decide +kernel
theorem dL_law_296 : decode cL_law 296 = .ok (.invokevirtual 39, 3) := by decide +kernel
theorem dL_law_299 : decode cL_law 299 = .ok (.if_icmp .eq 539, 3) := by decide +kernel
theorem dL_law_302 : decode cL_law 302 = .ok (.iconst 0, 1) := by decide +kernel
theorem dL_law_303 : decode cL_law 303 = .ok (.ireturn, 1) := by decide +kernel
theorem dL_law_304 : decode cL_law 304 = .ok (.aload_n 1, 1) := by decide +kernel
theorem dL_law_305 : decode cL_law 305 = .ok (.aload_n 0, 1) := by decide +kernel
theorem dL_law_306 : decode cL_law 306 = .ok (.iload_n 3, 1) := by decide +kernel
theorem dL_law_307 : decode cL_law 307 = .ok (.iconst 1, 1) := by decide +kernel
theorem dL_law_308 : decode cL_law 308 = .ok (.iadd, 1) := by decide +kernel
theorem dL_law_309 : decode cL_law 309 = .ok (.iaload, 1) := by decide +kernel
theorem dL_law_310 : decode cL_law 310 = .ok (.invokevirtual 40, 3) := by decide +kernel
theorem dL_law_313 : decode cL_law 313 = .ok (.aload_n 2, 1) := by decide +kernel
theorem dL_law_314 : decode cL_law 314 = .ok (.aload_n 0, 1) := by decide +kernel
theorem dL_law_315 : decode cL_law 315 = .ok (.iload_n 3, 1) := by decide +kernel
theorem dL_law_316 : decode cL_law 316 = .ok (.iconst 1, 1) := by decide +kernel
theorem dL_law_317 : decode cL_law 317 = .ok (.iadd, 1) := by decide +kernel
theorem dL_law_318 : decode cL_law 318 = .ok (.iaload, 1) := by decide +kernel
theorem dL_law_319 : decode cL_law 319 = .ok (.invokevirtual 43, 3) := by decide +kernel
theorem dL_law_322 : decode cL_law 322 = .ok (.if_icmp .eq 516, 3) := by decide +kernel
theorem dL_law_325 : decode cL_law 325 = .ok (.iconst 0, 1) := by decide +kernel
theorem dL_law_326 : decode cL_law 326 = .ok (.ireturn, 1) := by decide +kernel
theorem dL_law_327 : decode cL_law 327 = .ok (.aload_n 1, 1) := by decide +kernel
theorem dL_law_328 : decode cL_law 328 = .ok (.aload_n 0, 1) := by decide +kernel
theorem dL_law_329 : decode cL_law 329 = .ok (.iload_n 3, 1) := by decide +kernel
theorem dL_law_330 : decode cL_law 330 = .ok (.iconst 1, 1) := by decide +kernel
theorem dL_law_331 : decode cL_law 331 = .ok (.iadd, 1) := by decide +kernel
theorem dL_law_332 : decode cL_law 332 = .ok (.iaload, 1) := by decide +kernel
theorem dL_law_333 : decode cL_law 333 = .ok (.aload_n 0, 1) := by decide +kernel
theorem dL_law_334 : decode cL_law 334 = .ok (.iload_n 3, 1) := by decide +kernel
theorem dL_law_335 : decode cL_law 335 = .ok (.iconst 2, 1) := by decide +kernel
theorem dL_law_336 : decode cL_law 336 = .ok (.iadd, 1) := by decide +kernel
theorem dL_law_337 : decode cL_law 337 = .ok (.iaload, 1) := by decide +kernel
theorem dL_law_338 : decode cL_law 338 = .ok (.invokevirtual 44, 3) := by decide +kernel
theorem dL_law_341 : decode cL_law 341 = .ok (.aload_n 2, 1) := by decide +kernel
theorem dL_law_342 : decode cL_law 342 = .ok (.aload_n 0, 1) := by decide +kernel
theorem dL_law_343 : decode cL_law 343 = .ok (.iload_n 3, 1) := by decide +kernel
theorem dL_law_344 : decode cL_law 344 = .ok (.iconst 1, 1) := by decide +kernel
theorem dL_law_345 : decode cL_law 345 = .ok (.iadd, 1) := by decide +kernel
theorem dL_law_346 : decode cL_law 346 = .ok (.iaload, 1) := by decide +kernel
theorem dL_law_347 : decode cL_law 347 = .ok (.aload_n 0, 1) := by decide +kernel
theorem dL_law_348 : decode cL_law 348 = .ok (.iload_n 3, 1) := by decide +kernel
theorem dL_law_349 : decode cL_law 349 = .ok (.iconst 2, 1) := by decide +kernel
theorem dL_law_350 : decode cL_law 350 = .ok (.iadd, 1) := by decide +kernel
theorem dL_law_351 : decode cL_law 351 = .ok (.iaload, 1) := by decide +kernel
theorem dL_law_352 : decode cL_law 352 = .ok (.invokevirtual 47, 3) := by decide +kernel
theorem dL_law_355 : decode cL_law 355 = .ok (.if_icmp .eq 483, 3) := by decide +kernel
theorem dL_law_358 : decode cL_law 358 = .ok (.iconst 0, 1) := by decide +kernel
theorem dL_law_359 : decode cL_law 359 = .ok (.ireturn, 1) := by decide +kernel
theorem dL_law_360 : decode cL_law 360 = .ok (.aload_n 1, 1) := by decide +kernel
theorem dL_law_361 : decode cL_law 361 = .ok (.aload_n 0, 1) := by decide +kernel
theorem dL_law_362 : decode cL_law 362 = .ok (.iload_n 3, 1) := by decide +kernel
theorem dL_law_363 : decode cL_law 363 = .ok (.iconst 1, 1) := by decide +kernel
theorem dL_law_364 : decode cL_law 364 = .ok (.iadd, 1) := by decide +kernel
theorem dL_law_365 : decode cL_law 365 = .ok (.iaload, 1) := by decide +kernel
theorem dL_law_366 : decode cL_law 366 = .ok (.aload_n 0, 1) := by decide +kernel
theorem dL_law_367 : decode cL_law 367 = .ok (.iload_n 3, 1) := by decide +kernel
theorem dL_law_368 : decode cL_law 368 = .ok (.iconst 2, 1) := by decide +kernel
theorem dL_law_369 : decode cL_law 369 = .ok (.iadd, 1) := by decide +kernel
theorem dL_law_370 : decode cL_law 370 = .ok (.iaload, 1) := by decide +kernel
theorem dL_law_371 : decode cL_law 371 = .ok (.invokevirtual 48, 3) := by decide +kernel
theorem dL_law_374 : decode cL_law 374 = .ok (.aload_n 2, 1) := by decide +kernel
theorem dL_law_375 : decode cL_law 375 = .ok (.aload_n 0, 1) := by decide +kernel
theorem dL_law_376 : decode cL_law 376 = .ok (.iload_n 3, 1) := by decide +kernel
theorem dL_law_377 : decode cL_law 377 = .ok (.iconst 1, 1) := by decide +kernel
theorem dL_law_378 : decode cL_law 378 = .ok (.iadd, 1) := by decide +kernel
theorem dL_law_379 : decode cL_law 379 = .ok (.iaload, 1) := by decide +kernel
theorem dL_law_380 : decode cL_law 380 = .ok (.aload_n 0, 1) := by decide +kernel
theorem dL_law_381 : decode cL_law 381 = .ok (.iload_n 3, 1) := by decide +kernel
theorem dL_law_382 : decode cL_law 382 = .ok (.iconst 2, 1) := by decide +kernel
theorem dL_law_383 : decode cL_law 383 = .ok (.iadd, 1) := by decide +kernel
theorem dL_law_384 : decode cL_law 384 = .ok (.iaload, 1) := by decide +kernel
theorem dL_law_385 : decode cL_law 385 = .ok (.invokevirtual 51, 3) := by decide +kernel
theorem dL_law_388 : decode cL_law 388 = .ok (.if_icmp .eq 450, 3) := by decide +kernel
theorem dL_law_391 : decode cL_law 391 = .ok (.iconst 0, 1) := by decide +kernel
theorem dL_law_392 : decode cL_law 392 = .ok (.ireturn, 1) := by decide +kernel
theorem dL_law_393 : decode cL_law 393 = .ok (.aload_n 1, 1) := by decide +kernel
theorem dL_law_394 : decode cL_law 394 = .ok (.aload_n 0, 1) := by decide +kernel
theorem dL_law_395 : decode cL_law 395 = .ok (.iload_n 3, 1) := by decide +kernel
theorem dL_law_396 : decode cL_law 396 = .ok (.iconst 1, 1) := by decide +kernel
theorem dL_law_397 : decode cL_law 397 = .ok (.iadd, 1) := by decide +kernel
theorem dL_law_398 : decode cL_law 398 = .ok (.iaload, 1) := by decide +kernel
theorem dL_law_399 : decode cL_law 399 = .ok (.aload_n 0, 1) := by decide +kernel
theorem dL_law_400 : decode cL_law 400 = .ok (.iload_n 3, 1) := by decide +kernel
theorem dL_law_401 : decode cL_law 401 = .ok (.iconst 2, 1) := by decide +kernel
theorem dL_law_402 : decode cL_law 402 = .ok (.iadd, 1) := by decide +kernel
theorem dL_law_403 : decode cL_law 403 = .ok (.iaload, 1) := by decide +kernel
theorem dL_law_404 : decode cL_law 404 = .ok (.invokevirtual 52, 3) := by decide +kernel
theorem dL_law_407 : decode cL_law 407 = .ok (.aload_n 2, 1) := by decide +kernel
theorem dL_law_408 : decode cL_law 408 = .ok (.aload_n 0, 1) := by decide +kernel
theorem dL_law_409 : decode cL_law 409 = .ok (.iload_n 3, 1) := by decide +kernel
theorem dL_law_410 : decode cL_law 410 = .ok (.iconst 1, 1) := by decide +kernel
theorem dL_law_411 : decode cL_law 411 = .ok (.iadd, 1) := by decide +kernel
theorem dL_law_412 : decode cL_law 412 = .ok (.iaload, 1) := by decide +kernel
theorem dL_law_413 : decode cL_law 413 = .ok (.aload_n 0, 1) := by decide +kernel
theorem dL_law_414 : decode cL_law 414 = .ok (.iload_n 3, 1) := by decide +kernel
theorem dL_law_415 : decode cL_law 415 = .ok (.iconst 2, 1) := by decide +kernel
theorem dL_law_416 : decode cL_law 416 = .ok (.iadd, 1) := by decide +kernel
theorem dL_law_417 : decode cL_law 417 = .ok (.iaload, 1) := by decide +kernel
theorem dL_law_418 : decode cL_law 418 = .ok (.invokevirtual 55, 3) := by decide +kernel
theorem dL_law_421 : decode cL_law 421 = .ok (.if_icmp .eq 417, 3) := by decide +kernel
theorem dL_law_424 : decode cL_law 424 = .ok (.iconst 0, 1) := by decide +kernel
theorem dL_law_425 : decode cL_law 425 = .ok (.ireturn, 1) := by decide +kernel
theorem dL_law_426 : decode cL_law 426 = .ok (.aload_n 1, 1) := by decide +kernel
theorem dL_law_427 : decode cL_law 427 = .ok (.invokevirtual 56, 3) := by decide +kernel
theorem dL_law_430 : decode cL_law 430 = .ok (.aload_n 2, 1) := by decide +kernel
theorem dL_law_431 : decode cL_law 431 = .ok (.invokevirtual 59, 3) := by decide +kernel
theorem dL_law_434 : decode cL_law 434 = .ok (.if_icmp .eq 404, 3) := by decide +kernel
theorem dL_law_437 : decode cL_law 437 = .ok (.iconst 0, 1) := by decide +kernel
theorem dL_law_438 : decode cL_law 438 = .ok (.ireturn, 1) := by decide +kernel
theorem dL_law_439 : decode cL_law 439 = .ok (.aload_n 1, 1) := by decide +kernel
theorem dL_law_440 : decode cL_law 440 = .ok (.aload_n 0, 1) := by decide +kernel
theorem dL_law_441 : decode cL_law 441 = .ok (.iload_n 3, 1) := by decide +kernel
theorem dL_law_442 : decode cL_law 442 = .ok (.iconst 1, 1) := by decide +kernel
theorem dL_law_443 : decode cL_law 443 = .ok (.iadd, 1) := by decide +kernel
theorem dL_law_444 : decode cL_law 444 = .ok (.iaload, 1) := by decide +kernel
theorem dL_law_445 : decode cL_law 445 = .ok (.invokevirtual 60, 3) := by decide +kernel
theorem dL_law_448 : decode cL_law 448 = .ok (.aload_n 2, 1) := by decide +kernel
theorem dL_law_449 : decode cL_law 449 = .ok (.aload_n 0, 1) := by decide +kernel
theorem dL_law_450 : decode cL_law 450 = .ok (.iload_n 3, 1) := by decide +kernel
theorem dL_law_451 : decode cL_law 451 = .ok (.iconst 1, 1) := by decide +kernel
theorem dL_law_452 : decode cL_law 452 = .ok (.iadd, 1) := by decide +kernel
theorem dL_law_453 : decode cL_law 453 = .ok (.iaload, 1) := by decide +kernel
theorem dL_law_454 : decode cL_law 454 = .ok (.invokevirtual 63, 3) := by decide +kernel
theorem dL_law_457 : decode cL_law 457 = .ok (.if_icmp .eq 381, 3) := by decide +kernel
theorem dL_law_460 : decode cL_law 460 = .ok (.iconst 0, 1) := by decide +kernel
theorem dL_law_461 : decode cL_law 461 = .ok (.ireturn, 1) := by decide +kernel
theorem dL_law_462 : decode cL_law 462 = .ok (.aload_n 1, 1) := by decide +kernel
theorem dL_law_463 : decode cL_law 463 = .ok (.aload_n 0, 1) := by decide +kernel
theorem dL_law_464 : decode cL_law 464 = .ok (.iload_n 3, 1) := by decide +kernel
theorem dL_law_465 : decode cL_law 465 = .ok (.iconst 1, 1) := by decide +kernel
theorem dL_law_466 : decode cL_law 466 = .ok (.iadd, 1) := by decide +kernel
theorem dL_law_467 : decode cL_law 467 = .ok (.iaload, 1) := by decide +kernel
theorem dL_law_468 : decode cL_law 468 = .ok (.aload_n 0, 1) := by decide +kernel
theorem dL_law_469 : decode cL_law 469 = .ok (.iload_n 3, 1) := by decide +kernel
theorem dL_law_470 : decode cL_law 470 = .ok (.iconst 2, 1) := by decide +kernel
theorem dL_law_471 : decode cL_law 471 = .ok (.iadd, 1) := by decide +kernel
theorem dL_law_472 : decode cL_law 472 = .ok (.iaload, 1) := by decide +kernel
theorem dL_law_473 : decode cL_law 473 = .ok (.invokevirtual 64, 3) := by decide +kernel
theorem dL_law_476 : decode cL_law 476 = .ok (.aload_n 2, 1) := by decide +kernel
theorem dL_law_477 : decode cL_law 477 = .ok (.aload_n 0, 1) := by decide +kernel
theorem dL_law_478 : decode cL_law 478 = .ok (.iload_n 3, 1) := by decide +kernel
theorem dL_law_479 : decode cL_law 479 = .ok (.iconst 1, 1) := by decide +kernel
theorem dL_law_480 : decode cL_law 480 = .ok (.iadd, 1) := by decide +kernel
theorem dL_law_481 : decode cL_law 481 = .ok (.iaload, 1) := by decide +kernel
theorem dL_law_482 : decode cL_law 482 = .ok (.aload_n 0, 1) := by decide +kernel
theorem dL_law_483 : decode cL_law 483 = .ok (.iload_n 3, 1) := by decide +kernel
theorem dL_law_484 : decode cL_law 484 = .ok (.iconst 2, 1) := by decide +kernel
theorem dL_law_485 : decode cL_law 485 = .ok (.iadd, 1) := by decide +kernel
theorem dL_law_486 : decode cL_law 486 = .ok (.iaload, 1) := by decide +kernel
theorem dL_law_487 : decode cL_law 487 = .ok (.invokevirtual 67, 3) := by decide +kernel
theorem dL_law_490 : decode cL_law 490 = .ok (.if_icmp .eq 348, 3) := by decide +kernel
theorem dL_law_493 : decode cL_law 493 = .ok (.iconst 0, 1) := by decide +kernel
theorem dL_law_494 : decode cL_law 494 = .ok (.ireturn, 1) := by decide +kernel
theorem dL_law_495 : decode cL_law 495 = .ok (.aload_n 1, 1) := by decide +kernel
theorem dL_law_496 : decode cL_law 496 = .ok (.aload_n 0, 1) := by decide +kernel
theorem dL_law_497 : decode cL_law 497 = .ok (.iload_n 3, 1) := by decide +kernel
theorem dL_law_498 : decode cL_law 498 = .ok (.iconst 1, 1) := by decide +kernel
theorem dL_law_499 : decode cL_law 499 = .ok (.iadd, 1) := by decide +kernel
theorem dL_law_500 : decode cL_law 500 = .ok (.iaload, 1) := by decide +kernel
theorem dL_law_501 : decode cL_law 501 = .ok (.invokevirtual 68, 3) := by decide +kernel
theorem dL_law_504 : decode cL_law 504 = .ok (.aload_n 2, 1) := by decide +kernel
theorem dL_law_505 : decode cL_law 505 = .ok (.aload_n 0, 1) := by decide +kernel
theorem dL_law_506 : decode cL_law 506 = .ok (.iload_n 3, 1) := by decide +kernel
theorem dL_law_507 : decode cL_law 507 = .ok (.iconst 1, 1) := by decide +kernel
theorem dL_law_508 : decode cL_law 508 = .ok (.iadd, 1) := by decide +kernel
theorem dL_law_509 : decode cL_law 509 = .ok (.iaload, 1) := by decide +kernel
theorem dL_law_510 : decode cL_law 510 = .ok (.invokevirtual 71, 3) := by decide +kernel
theorem dL_law_513 : decode cL_law 513 = .ok (.if_icmp .eq 325, 3) := by decide +kernel
theorem dL_law_516 : decode cL_law 516 = .ok (.iconst 0, 1) := by decide +kernel
theorem dL_law_517 : decode cL_law 517 = .ok (.ireturn, 1) := by decide +kernel
theorem dL_law_518 : decode cL_law 518 = .ok (.aload_n 1, 1) := by decide +kernel
theorem dL_law_519 : decode cL_law 519 = .ok (.aload_n 0, 1) := by decide +kernel
theorem dL_law_520 : decode cL_law 520 = .ok (.iload_n 3, 1) := by decide +kernel
theorem dL_law_521 : decode cL_law 521 = .ok (.iconst 1, 1) := by decide +kernel
theorem dL_law_522 : decode cL_law 522 = .ok (.iadd, 1) := by decide +kernel
theorem dL_law_523 : decode cL_law 523 = .ok (.iaload, 1) := by decide +kernel
theorem dL_law_524 : decode cL_law 524 = .ok (.invokevirtual 72, 3) := by decide +kernel
theorem dL_law_527 : decode cL_law 527 = .ok (.aload_n 2, 1) := by decide +kernel
theorem dL_law_528 : decode cL_law 528 = .ok (.aload_n 0, 1) := by decide +kernel
theorem dL_law_529 : decode cL_law 529 = .ok (.iload_n 3, 1) := by decide +kernel
theorem dL_law_530 : decode cL_law 530 = .ok (.iconst 1, 1) := by decide +kernel
theorem dL_law_531 : decode cL_law 531 = .ok (.iadd, 1) := by decide +kernel
theorem dL_law_532 : decode cL_law 532 = .ok (.iaload, 1) := by decide +kernel
theorem dL_law_533 : decode cL_law 533 = .ok (.invokevirtual 75, 3) := by decide +kernel
theorem dL_law_536 : decode cL_law 536 = .ok (.if_icmp .eq 302, 3) := by decide +kernel
theorem dL_law_539 : decode cL_law 539 = .ok (.iconst 0, 1) := by decide +kernel
theorem dL_law_540 : decode cL_law 540 = .ok (.ireturn, 1) := by decide +kernel
theorem dL_law_541 : decode cL_law 541 = .ok (.aload_n 1, 1) := by decide +kernel
theorem dL_law_542 : decode cL_law 542 = .ok (.aload_n 0, 1) := by decide +kernel
theorem dL_law_543 : decode cL_law 543 = .ok (.iload_n 3, 1) := by decide +kernel
theorem dL_law_544 : decode cL_law 544 = .ok (.iconst 1, 1) := by decide +kernel
theorem dL_law_545 : decode cL_law 545 = .ok (.iadd, 1) := by decide +kernel
theorem dL_law_546 : decode cL_law 546 = .ok (.iaload, 1) := by decide +kernel
theorem dL_law_547 : decode cL_law 547 = .ok (.invokevirtual 76, 3) := by decide +kernel
theorem dL_law_550 : decode cL_law 550 = .ok (.aload_n 2, 1) := by decide +kernel
theorem dL_law_551 : decode cL_law 551 = .ok (.aload_n 0, 1) := by decide +kernel
theorem dL_law_552 : decode cL_law 552 = .ok (.iload_n 3, 1) := by decide +kernel
theorem dL_law_553 : decode cL_law 553 = .ok (.iconst 1, 1) := by decide +kernel
theorem dL_law_554 : decode cL_law 554 = .ok (.iadd, 1) := by decide +kernel
theorem dL_law_555 : decode cL_law 555 = .ok (.iaload, 1) := by decide +kernel
theorem dL_law_556 : decode cL_law 556 = .ok (.invokevirtual 79, 3) := by decide +kernel
theorem dL_law_559 : decode cL_law 559 = .ok (.if_icmp .eq 279, 3) := by decide +kernel
theorem dL_law_562 : decode cL_law 562 = .ok (.iconst 0, 1) := by decide +kernel
theorem dL_law_563 : decode cL_law 563 = .ok (.ireturn, 1) := by decide +kernel
theorem dL_law_564 : decode cL_law 564 = .ok (.aload_n 1, 1) := by decide +kernel
theorem dL_law_565 : decode cL_law 565 = .ok (.aload_n 0, 1) := by decide +kernel
theorem dL_law_566 : decode cL_law 566 = .ok (.iload_n 3, 1) := by decide +kernel
theorem dL_law_567 : decode cL_law 567 = .ok (.iconst 1, 1) := by decide +kernel
theorem dL_law_568 : decode cL_law 568 = .ok (.iadd, 1) := by decide +kernel
theorem dL_law_569 : decode cL_law 569 = .ok (.iaload, 1) := by decide +kernel
theorem dL_law_570 : decode cL_law 570 = .ok (.aload_n 0, 1) := by decide +kernel
theorem dL_law_571 : decode cL_law 571 = .ok (.iload_n 3, 1) := by decide +kernel
theorem dL_law_572 : decode cL_law 572 = .ok (.iconst 2, 1) := by decide +kernel
theorem dL_law_573 : decode cL_law 573 = .ok (.iadd, 1) := by decide +kernel
theorem dL_law_574 : decode cL_law 574 = .ok (.iaload, 1) := by decide +kernel
theorem dL_law_575 : decode cL_law 575 = .ok (.aload_n 0, 1) := by decide +kernel
theorem dL_law_576 : decode cL_law 576 = .ok (.iload_n 3, 1) := by decide +kernel
theorem dL_law_577 : decode cL_law 577 = .ok (.iconst 3, 1) := by decide +kernel
theorem dL_law_578 : decode cL_law 578 = .ok (.iadd, 1) := by decide +kernel
theorem dL_law_579 : decode cL_law 579 = .ok (.iaload, 1) := by decide +kernel
theorem dL_law_580 : decode cL_law 580 = .ok (.invokevirtual 80, 3) := by decide +kernel
theorem dL_law_583 : decode cL_law 583 = .ok (.aload_n 2, 1) := by decide +kernel
theorem dL_law_584 : decode cL_law 584 = .ok (.aload_n 0, 1) := by decide +kernel
theorem dL_law_585 : decode cL_law 585 = .ok (.iload_n 3, 1) := by decide +kernel
theorem dL_law_586 : decode cL_law 586 = .ok (.iconst 1, 1) := by decide +kernel
theorem dL_law_587 : decode cL_law 587 = .ok (.iadd, 1) := by decide +kernel
theorem dL_law_588 : decode cL_law 588 = .ok (.iaload, 1) := by decide +kernel
theorem dL_law_589 : decode cL_law 589 = .ok (.aload_n 0, 1) := by decide +kernel
theorem dL_law_590 : decode cL_law 590 = .ok (.iload_n 3, 1) := by decide +kernel
theorem dL_law_591 : decode cL_law 591 = .ok (.iconst 2, 1) := by decide +kernel
theorem dL_law_592 : decode cL_law 592 = .ok (.iadd, 1) := by decide +kernel
theorem dL_law_593 : decode cL_law 593 = .ok (.iaload, 1) := by decide +kernel
theorem dL_law_594 : decode cL_law 594 = .ok (.aload_n 0, 1) := by decide +kernel
theorem dL_law_595 : decode cL_law 595 = .ok (.iload_n 3, 1) := by decide +kernel
theorem dL_law_596 : decode cL_law 596 = .ok (.iconst 3, 1) := by decide +kernel
theorem dL_law_597 : decode cL_law 597 = .ok (.iadd, 1) := by decide +kernel
theorem dL_law_598 : decode cL_law 598 = .ok (.iaload, 1) := by decide +kernel
theorem dL_law_599 : decode cL_law 599 = .ok (.invokevirtual 84, 3) := by decide +kernel
theorem dL_law_602 : decode cL_law 602 = .ok (.if_icmp .eq 236, 3) := by decide +kernel
theorem dL_law_605 : decode cL_law 605 = .ok (.iconst 0, 1) := by decide +kernel
theorem dL_law_606 : decode cL_law 606 = .ok (.ireturn, 1) := by decide +kernel
theorem dL_law_607 : decode cL_law 607 = .ok (.aload_n 1, 1) := by decide +kernel
theorem dL_law_608 : decode cL_law 608 = .ok (.aload_n 0, 1) := by decide +kernel
theorem dL_law_609 : decode cL_law 609 = .ok (.iload_n 3, 1) := by decide +kernel
theorem dL_law_610 : decode cL_law 610 = .ok (.iconst 1, 1) := by decide +kernel
theorem dL_law_611 : decode cL_law 611 = .ok (.iadd, 1) := by decide +kernel
theorem dL_law_612 : decode cL_law 612 = .ok (.iaload, 1) := by decide +kernel
theorem dL_law_613 : decode cL_law 613 = .ok (.invokevirtual 85, 3) := by decide +kernel
theorem dL_law_616 : decode cL_law 616 = .ok (.aload_n 2, 1) := by decide +kernel
theorem dL_law_617 : decode cL_law 617 = .ok (.aload_n 0, 1) := by decide +kernel
theorem dL_law_618 : decode cL_law 618 = .ok (.iload_n 3, 1) := by decide +kernel
theorem dL_law_619 : decode cL_law 619 = .ok (.iconst 1, 1) := by decide +kernel
theorem dL_law_620 : decode cL_law 620 = .ok (.iadd, 1) := by decide +kernel
theorem dL_law_621 : decode cL_law 621 = .ok (.iaload, 1) := by decide +kernel
theorem dL_law_622 : decode cL_law 622 = .ok (.invokevirtual 88, 3) := by decide +kernel
theorem dL_law_625 : decode cL_law 625 = .ok (.if_icmp .eq 213, 3) := by decide +kernel
theorem dL_law_628 : decode cL_law 628 = .ok (.iconst 0, 1) := by decide +kernel
theorem dL_law_629 : decode cL_law 629 = .ok (.ireturn, 1) := by decide +kernel
theorem dL_law_630 : decode cL_law 630 = .ok (.aload_n 1, 1) := by decide +kernel
theorem dL_law_631 : decode cL_law 631 = .ok (.aload_n 0, 1) := by decide +kernel
theorem dL_law_632 : decode cL_law 632 = .ok (.iload_n 3, 1) := by decide +kernel
theorem dL_law_633 : decode cL_law 633 = .ok (.iconst 1, 1) := by decide +kernel
theorem dL_law_634 : decode cL_law 634 = .ok (.iadd, 1) := by decide +kernel
theorem dL_law_635 : decode cL_law 635 = .ok (.iaload, 1) := by decide +kernel
theorem dL_law_636 : decode cL_law 636 = .ok (.invokevirtual 89, 3) := by decide +kernel
theorem dL_law_639 : decode cL_law 639 = .ok (.aload_n 2, 1) := by decide +kernel
theorem dL_law_640 : decode cL_law 640 = .ok (.aload_n 0, 1) := by decide +kernel
theorem dL_law_641 : decode cL_law 641 = .ok (.iload_n 3, 1) := by decide +kernel
theorem dL_law_642 : decode cL_law 642 = .ok (.iconst 1, 1) := by decide +kernel
theorem dL_law_643 : decode cL_law 643 = .ok (.iadd, 1) := by decide +kernel
theorem dL_law_644 : decode cL_law 644 = .ok (.iaload, 1) := by decide +kernel
theorem dL_law_645 : decode cL_law 645 = .ok (.invokevirtual 92, 3) := by decide +kernel
theorem dL_law_648 : decode cL_law 648 = .ok (.if_icmp .eq 190, 3) := by decide +kernel
theorem dL_law_651 : decode cL_law 651 = .ok (.iconst 0, 1) := by decide +kernel
theorem dL_law_652 : decode cL_law 652 = .ok (.ireturn, 1) := by decide +kernel
theorem dL_law_653 : decode cL_law 653 = .ok (.aload_n 1, 1) := by decide +kernel
theorem dL_law_654 : decode cL_law 654 = .ok (.aload_n 0, 1) := by decide +kernel
theorem dL_law_655 : decode cL_law 655 = .ok (.iload_n 3, 1) := by decide +kernel
theorem dL_law_656 : decode cL_law 656 = .ok (.iconst 1, 1) := by decide +kernel
theorem dL_law_657 : decode cL_law 657 = .ok (.iadd, 1) := by decide +kernel
theorem dL_law_658 : decode cL_law 658 = .ok (.iaload, 1) := by decide +kernel
theorem dL_law_659 : decode cL_law 659 = .ok (.aload_n 0, 1) := by decide +kernel
theorem dL_law_660 : decode cL_law 660 = .ok (.iload_n 3, 1) := by decide +kernel
theorem dL_law_661 : decode cL_law 661 = .ok (.iconst 2, 1) := by decide +kernel
theorem dL_law_662 : decode cL_law 662 = .ok (.iadd, 1) := by decide +kernel
theorem dL_law_663 : decode cL_law 663 = .ok (.iaload, 1) := by decide +kernel
theorem dL_law_664 : decode cL_law 664 = .ok (.invokevirtual 93, 3) := by decide +kernel
theorem dL_law_667 : decode cL_law 667 = .ok (.aload_n 2, 1) := by decide +kernel
theorem dL_law_668 : decode cL_law 668 = .ok (.aload_n 0, 1) := by decide +kernel
theorem dL_law_669 : decode cL_law 669 = .ok (.iload_n 3, 1) := by decide +kernel
theorem dL_law_670 : decode cL_law 670 = .ok (.iconst 1, 1) := by decide +kernel
theorem dL_law_671 : decode cL_law 671 = .ok (.iadd, 1) := by decide +kernel
theorem dL_law_672 : decode cL_law 672 = .ok (.iaload, 1) := by decide +kernel
theorem dL_law_673 : decode cL_law 673 = .ok (.aload_n 0, 1) := by decide +kernel
theorem dL_law_674 : decode cL_law 674 = .ok (.iload_n 3, 1) := by decide +kernel
theorem dL_law_675 : decode cL_law 675 = .ok (.iconst 2, 1) := by decide +kernel
theorem dL_law_676 : decode cL_law 676 = .ok (.iadd, 1) := by decide +kernel
theorem dL_law_677 : decode cL_law 677 = .ok (.iaload, 1) := by decide +kernel
theorem dL_law_678 : decode cL_law 678 = .ok (.invokevirtual 96, 3) := by decide +kernel
theorem dL_law_681 : decode cL_law 681 = .ok (.if_icmp .eq 157, 3) := by decide +kernel
theorem dL_law_684 : decode cL_law 684 = .ok (.iconst 0, 1) := by decide +kernel
theorem dL_law_685 : decode cL_law 685 = .ok (.ireturn, 1) := by decide +kernel
theorem dL_law_686 : decode cL_law 686 = .ok (.aload_n 1, 1) := by decide +kernel
theorem dL_law_687 : decode cL_law 687 = .ok (.invokevirtual 97, 3) := by decide +kernel
theorem dL_law_690 : decode cL_law 690 = .ok (.aload_n 2, 1) := by decide +kernel
theorem dL_law_691 : decode cL_law 691 = .ok (.invokevirtual 100, 3) := by decide +kernel
theorem dL_law_694 : decode cL_law 694 = .ok (.if_icmp .eq 144, 3) := by decide +kernel
theorem dL_law_697 : decode cL_law 697 = .ok (.iconst 0, 1) := by decide +kernel
theorem dL_law_698 : decode cL_law 698 = .ok (.ireturn, 1) := by decide +kernel
theorem dL_law_699 : decode cL_law 699 = .ok (.aload_n 1, 1) := by decide +kernel
theorem dL_law_700 : decode cL_law 700 = .ok (.aload_n 0, 1) := by decide +kernel
theorem dL_law_701 : decode cL_law 701 = .ok (.iload_n 3, 1) := by decide +kernel
theorem dL_law_702 : decode cL_law 702 = .ok (.iconst 1, 1) := by decide +kernel
theorem dL_law_703 : decode cL_law 703 = .ok (.iadd, 1) := by decide +kernel
theorem dL_law_704 : decode cL_law 704 = .ok (.iaload, 1) := by decide +kernel
theorem dL_law_705 : decode cL_law 705 = .ok (.invokevirtual 101, 3) := by decide +kernel
theorem dL_law_708 : decode cL_law 708 = .ok (.aload_n 2, 1) := by decide +kernel
theorem dL_law_709 : decode cL_law 709 = .ok (.aload_n 0, 1) := by decide +kernel
theorem dL_law_710 : decode cL_law 710 = .ok (.iload_n 3, 1) := by decide +kernel
theorem dL_law_711 : decode cL_law 711 = .ok (.iconst 1, 1) := by decide +kernel
theorem dL_law_712 : decode cL_law 712 = .ok (.iadd, 1) := by decide +kernel
theorem dL_law_713 : decode cL_law 713 = .ok (.iaload, 1) := by decide +kernel
theorem dL_law_714 : decode cL_law 714 = .ok (.invokevirtual 104, 3) := by decide +kernel
theorem dL_law_717 : decode cL_law 717 = .ok (.if_icmp .eq 121, 3) := by decide +kernel
theorem dL_law_720 : decode cL_law 720 = .ok (.iconst 0, 1) := by decide +kernel
theorem dL_law_721 : decode cL_law 721 = .ok (.ireturn, 1) := by decide +kernel
theorem dL_law_722 : decode cL_law 722 = .ok (.aload_n 1, 1) := by decide +kernel
theorem dL_law_723 : decode cL_law 723 = .ok (.aload_n 0, 1) := by decide +kernel
theorem dL_law_724 : decode cL_law 724 = .ok (.iload_n 3, 1) := by decide +kernel
theorem dL_law_725 : decode cL_law 725 = .ok (.iconst 1, 1) := by decide +kernel
theorem dL_law_726 : decode cL_law 726 = .ok (.iadd, 1) := by decide +kernel
theorem dL_law_727 : decode cL_law 727 = .ok (.iaload, 1) := by decide +kernel
theorem dL_law_728 : decode cL_law 728 = .ok (.aload_n 0, 1) := by decide +kernel
theorem dL_law_729 : decode cL_law 729 = .ok (.iload_n 3, 1) := by decide +kernel
theorem dL_law_730 : decode cL_law 730 = .ok (.iconst 2, 1) := by decide +kernel
theorem dL_law_731 : decode cL_law 731 = .ok (.iadd, 1) := by decide +kernel
theorem dL_law_732 : decode cL_law 732 = .ok (.iaload, 1) := by decide +kernel
theorem dL_law_733 : decode cL_law 733 = .ok (.invokevirtual 105, 3) := by decide +kernel
theorem dL_law_736 : decode cL_law 736 = .ok (.aload_n 2, 1) := by decide +kernel
theorem dL_law_737 : decode cL_law 737 = .ok (.aload_n 0, 1) := by decide +kernel
theorem dL_law_738 : decode cL_law 738 = .ok (.iload_n 3, 1) := by decide +kernel
theorem dL_law_739 : decode cL_law 739 = .ok (.iconst 1, 1) := by decide +kernel
theorem dL_law_740 : decode cL_law 740 = .ok (.iadd, 1) := by decide +kernel
theorem dL_law_741 : decode cL_law 741 = .ok (.iaload, 1) := by decide +kernel
theorem dL_law_742 : decode cL_law 742 = .ok (.aload_n 0, 1) := by decide +kernel
theorem dL_law_743 : decode cL_law 743 = .ok (.iload_n 3, 1) := by decide +kernel
theorem dL_law_744 : decode cL_law 744 = .ok (.iconst 2, 1) := by decide +kernel
theorem dL_law_745 : decode cL_law 745 = .ok (.iadd, 1) := by decide +kernel
theorem dL_law_746 : decode cL_law 746 = .ok (.iaload, 1) := by decide +kernel
theorem dL_law_747 : decode cL_law 747 = .ok (.invokevirtual 108, 3) := by decide +kernel
theorem dL_law_750 : decode cL_law 750 = .ok (.if_icmp .eq 88, 3) := by decide +kernel
theorem dL_law_753 : decode cL_law 753 = .ok (.iconst 0, 1) := by decide +kernel
theorem dL_law_754 : decode cL_law 754 = .ok (.ireturn, 1) := by decide +kernel
theorem dL_law_755 : decode cL_law 755 = .ok (.aload_n 1, 1) := by decide +kernel
theorem dL_law_756 : decode cL_law 756 = .ok (.aload_n 0, 1) := by decide +kernel
theorem dL_law_757 : decode cL_law 757 = .ok (.iload_n 3, 1) := by decide +kernel
theorem dL_law_758 : decode cL_law 758 = .ok (.iconst 1, 1) := by decide +kernel
theorem dL_law_759 : decode cL_law 759 = .ok (.iadd, 1) := by decide +kernel
theorem dL_law_760 : decode cL_law 760 = .ok (.iaload, 1) := by decide +kernel
theorem dL_law_761 : decode cL_law 761 = .ok (.invokevirtual 109, 3) := by decide +kernel
theorem dL_law_764 : decode cL_law 764 = .ok (.aload_n 2, 1) := by decide +kernel
theorem dL_law_765 : decode cL_law 765 = .ok (.aload_n 0, 1) := by decide +kernel
theorem dL_law_766 : decode cL_law 766 = .ok (.iload_n 3, 1) := by decide +kernel
theorem dL_law_767 : decode cL_law 767 = .ok (.iconst 1, 1) := by decide +kernel
theorem dL_law_768 : decode cL_law 768 = .ok (.iadd, 1) := by decide +kernel
theorem dL_law_769 : decode cL_law 769 = .ok (.iaload, 1) := by decide +kernel
theorem dL_law_770 : decode cL_law 770 = .ok (.invokevirtual 112, 3) := by decide +kernel
theorem dL_law_773 : decode cL_law 773 = .ok (.if_icmp .eq 65, 3) := by decide +kernel
theorem dL_law_776 : decode cL_law 776 = .ok (.iconst 0, 1) := by decide +kernel
theorem dL_law_777 : decode cL_law 777 = .ok (.ireturn, 1) := by decide +kernel
theorem dL_law_778 : decode cL_law 778 = .ok (.aload_n 1, 1) := by decide +kernel
theorem dL_law_779 : decode cL_law 779 = .ok (.aload_n 0, 1) := by decide +kernel
theorem dL_law_780 : decode cL_law 780 = .ok (.iload_n 3, 1) := by decide +kernel
theorem dL_law_781 : decode cL_law 781 = .ok (.iconst 1, 1) := by decide +kernel
theorem dL_law_782 : decode cL_law 782 = .ok (.iadd, 1) := by decide +kernel
theorem dL_law_783 : decode cL_law 783 = .ok (.iaload, 1) := by decide +kernel
theorem dL_law_784 : decode cL_law 784 = .ok (.invokevirtual 113, 3) := by decide +kernel
theorem dL_law_787 : decode cL_law 787 = .ok (.aload_n 2, 1) := by decide +kernel
theorem dL_law_788 : decode cL_law 788 = .ok (.aload_n 0, 1) := by decide +kernel
theorem dL_law_789 : decode cL_law 789 = .ok (.iload_n 3, 1) := by decide +kernel
theorem dL_law_790 : decode cL_law 790 = .ok (.iconst 1, 1) := by decide +kernel
theorem dL_law_791 : decode cL_law 791 = .ok (.iadd, 1) := by decide +kernel
theorem dL_law_792 : decode cL_law 792 = .ok (.iaload, 1) := by decide +kernel
theorem dL_law_793 : decode cL_law 793 = .ok (.invokevirtual 116, 3) := by decide +kernel
theorem dL_law_796 : decode cL_law 796 = .ok (.if_icmp .eq 42, 3) := by decide +kernel
theorem dL_law_799 : decode cL_law 799 = .ok (.iconst 0, 1) := by decide +kernel
theorem dL_law_800 : decode cL_law 800 = .ok (.ireturn, 1) := by decide +kernel
theorem dL_law_801 : decode cL_law 801 = .ok (.aload_n 1, 1) := by decide +kernel
theorem dL_law_802 : decode cL_law 802 = .ok (.aload_n 0, 1) := by decide +kernel
theorem dL_law_803 : decode cL_law 803 = .ok (.iload_n 3, 1) := by decide +kernel
theorem dL_law_804 : decode cL_law 804 = .ok (.iconst 1, 1) := by decide +kernel
theorem dL_law_805 : decode cL_law 805 = .ok (.iadd, 1) := by decide +kernel
theorem dL_law_806 : decode cL_law 806 = .ok (.iaload, 1) := by decide +kernel
theorem dL_law_807 : decode cL_law 807 = .ok (.invokevirtual 117, 3) := by decide +kernel
theorem dL_law_810 : decode cL_law 810 = .ok (.aload_n 2, 1) := by decide +kernel
theorem dL_law_811 : decode cL_law 811 = .ok (.aload_n 0, 1) := by decide +kernel
theorem dL_law_812 : decode cL_law 812 = .ok (.iload_n 3, 1) := by decide +kernel
theorem dL_law_813 : decode cL_law 813 = .ok (.iconst 1, 1) := by decide +kernel
theorem dL_law_814 : decode cL_law 814 = .ok (.iadd, 1) := by decide +kernel
theorem dL_law_815 : decode cL_law 815 = .ok (.iaload, 1) := by decide +kernel
theorem dL_law_816 : decode cL_law 816 = .ok (.invokevirtual 120, 3) := by decide +kernel
theorem dL_law_819 : decode cL_law 819 = .ok (.if_icmp .eq 19, 3) := by decide +kernel
theorem dL_law_822 : decode cL_law 822 = .ok (.iconst 0, 1) := by decide +kernel
theorem dL_law_823 : decode cL_law 823 = .ok (.ireturn, 1) := by decide +kernel
theorem dL_law_824 : decode cL_law 824 = .ok (.aload_n 1, 1) := by decide +kernel
theorem dL_law_825 : decode cL_law 825 = .ok (.invokevirtual 121, 3) := by decide +kernel
theorem dL_law_828 : decode cL_law 828 = .ok (.aload_n 2, 1) := by decide +kernel
theorem dL_law_829 : decode cL_law 829 = .ok (.invokevirtual 125, 3) := by decide +kernel
theorem dL_law_832 : decode cL_law 832 = .ok (.lcmp, 1) := by decide +kernel
theorem dL_law_833 : decode cL_law 833 = .ok (.ifCond .eq 5, 3) := by decide +kernel
theorem dL_law_836 : decode cL_law 836 = .ok (.iconst 0, 1) := by decide +kernel
theorem dL_law_837 : decode cL_law 837 = .ok (.ireturn, 1) := by decide +kernel
theorem dL_law_838 : decode cL_law 838 = .ok (.iinc 3 4, 3) := by decide +kernel
theorem dL_law_841 : decode cL_law 841 = .ok (.goto (-823), 3) := by decide +kernel
theorem dL_law_844 : decode cL_law 844 = .ok (.iconst 1, 1) := by decide +kernel
theorem dL_law_845 : decode cL_law 845 = .ok (.ireturn, 1) := by decide +kernel
end
section
/-- 'arrays of arrays of t are known', as a word of its own (the printed names use it and do not print it) -/
def va_AOA (t : FieldType) (U : State) : Prop := (Cond.arrayOver (.array t)).before #[] U = true
theorem va_AOA.use {t : FieldType} {A : Array Value} {U : State} (h : va_AOA t U) : (Cond.arrayOver (.array t)).before A U = true := h
/-- the words that stay good on the way into a call: all of them, for every method -/
def GW : List Cond := lw_tbl.filter goodWord
theorem GW_in {w : Cond} (h : w ∈ GW) : w ∈ lw_tbl := (List.mem_filter.mp h).1
theorem GW_good {w : Cond} (h : w ∈ GW) : (w.onTables && w.keeps) = true ∨ ∃ ty, w = .arrayClass ty := good_of_word (List.mem_filter.mp h).2
theorem GW_of {w : Cond} (h : w ∈ lw_tbl) (g : goodWord w = true) : w ∈ GW := List.mem_filter.mpr ⟨h, g⟩
theorem tb0 {w : Cond} {i : Nat} (h : (k2_sels lw_privs)[i]? = some w) : w ∈ lw_tbl := List.mem_append_left _ (List.mem_of_getElem? h)
theorem tb1 {w : Cond} {i : Nat} (h : tables_1_1[i]? = some w) : w ∈ lw_tbl := List.mem_append_right _ (List.mem_append_left _ (List.mem_of_getElem? h))
theorem tb2 {w : Cond} {i : Nat} (h : tables_1_2[i]? = some w) : w ∈ lw_tbl := List.mem_append_right _ (List.mem_append_right _ (List.mem_append_left _ (List.mem_of_getElem? h)))
theorem tb3 {w : Cond} {i : Nat} (h : tables_1_3[i]? = some w) : w ∈ lw_tbl := List.mem_append_right _ (List.mem_append_right _ (List.mem_append_right _ (List.mem_append_left _ (List.mem_of_getElem? h))))
theorem tb4 {w : Cond} {i : Nat} (h : tables_1_4[i]? = some w) : w ∈ lw_tbl := List.mem_append_right _ (List.mem_append_right _ (List.mem_append_right _ (List.mem_append_right _ (List.mem_append_left _ (List.mem_of_getElem? h)))))
theorem tb5 {w : Cond} {i : Nat} (h : tables_1_5[i]? = some w) : w ∈ lw_tbl := List.mem_append_right _ (List.mem_append_right _ (List.mem_append_right _ (List.mem_append_right _ (List.mem_append_right _ (List.mem_of_getElem? h)))))
theorem gN_L : Cond.initialized RL ∈ GW := GW_of (tb1 (i := 0) rfl) rfl
theorem gN_X8 : Cond.initialized RX8 ∈ GW := GW_of (tb1 (i := 1) rfl) rfl
theorem gN_X0 : Cond.initialized RX0 ∈ GW := GW_of (tb1 (i := 2) rfl) rfl
theorem gN_X4 : Cond.initialized RX4 ∈ GW := GW_of (tb1 (i := 3) rfl) rfl
theorem gN_X1 : Cond.initialized RX1 ∈ GW := GW_of (tb1 (i := 4) rfl) rfl
theorem gN_X6 : Cond.initialized RX6 ∈ GW := GW_of (tb1 (i := 5) rfl) rfl
theorem gN_X5 : Cond.initialized RX5 ∈ GW := GW_of (tb1 (i := 6) rfl) rfl
theorem gN_X7 : Cond.initialized RX7 ∈ GW := GW_of (tb1 (i := 7) rfl) rfl
theorem gN_X2 : Cond.initialized RX2 ∈ GW := GW_of (tb1 (i := 8) rfl) rfl
theorem gN_X3 : Cond.initialized RX3 ∈ GW := GW_of (tb1 (i := 9) rfl) rfl
theorem gN_X9 : Cond.initialized RX9 ∈ GW := GW_of (tb1 (i := 10) rfl) rfl
theorem gN_J9 : Cond.initialized RJ9 ∈ GW := GW_of (tb1 (i := 11) rfl) rfl
theorem gN_J6 : Cond.initialized RJ6 ∈ GW := GW_of (tb1 (i := 12) rfl) rfl
theorem gN_J10 : Cond.initialized RJ10 ∈ GW := GW_of (tb1 (i := 13) rfl) rfl
theorem gL_L_7 : Cond.classLink RL 7 RX8 ∈ GW := GW_of (tb1 (i := 14) rfl) rfl
theorem gT_X8 : Cond.instantiable RX8 14 ∈ GW := GW_of (tb1 (i := 15) rfl) rfl
theorem gM_L_9 : Cond.methodLink RL 9 yX8_init ∈ GW := GW_of (tb1 (i := 16) rfl) rfl
theorem gI_X8_init : Cond.instanceMethod yX8_init ∈ GW := GW_of (tb1 (i := 17) rfl) rfl
theorem gC_X8_init : Cond.code yX8_init cX8_init 1 none ∈ GW := GW_of (tb1 (i := 18) rfl) rfl
theorem gM_X8_1 : Cond.methodLink RX8 1 objectInit ∈ GW := GW_of (tb1 (i := 19) rfl) rfl
theorem gI_objectInit : Cond.instanceMethod objectInit ∈ GW := GW_of (tb1 (i := 20) rfl) rfl
theorem gC_objectInit : Cond.code objectInit ⟨#[0xb1]⟩ 1 none ∈ GW := GW_of (tb1 (i := 21) rfl) rfl
theorem gL_X8_7 : Cond.classLink RX8 7 RX0 ∈ GW := GW_of (tb1 (i := 22) rfl) rfl
theorem gT_X0 : Cond.instantiable RX0 8 ∈ GW := GW_of (tb1 (i := 23) rfl) rfl
theorem nM_X8_9_l : Cond.methodLinkNest RX8 9 yX0_init "MarginBooks" ∈ lw_tbl := tb1 (i := 24) rfl
theorem gI_X0_init : Cond.instanceMethod yX0_init ∈ GW := GW_of (tb1 (i := 25) rfl) rfl
theorem gC_X0_init : Cond.code yX0_init cX0_init 1 none ∈ GW := GW_of (tb1 (i := 26) rfl) rfl
theorem gM_X0_3 : Cond.methodLink RX0 3 objectInit ∈ GW := GW_of (tb1 (i := 27) rfl) rfl
theorem gF_X0_9 : Cond.fieldLink RX0 9 "MarginBooks$House" "opinions" "I" ∈ GW := GW_of (tb1 (i := 28) rfl) rfl
theorem nF_X4_66_l : Cond.fieldLinkNest RX4 66 "MarginBooks$House" "opinions" "I" "MarginBooks" ∈ lw_tbl := tb1 (i := 29) rfl
theorem nF_X2_50_l : Cond.fieldLinkNest RX2 50 "MarginBooks$House" "opinions" "I" "MarginBooks" ∈ lw_tbl := tb1 (i := 30) rfl
theorem nF_X8_271_l : Cond.fieldLinkNest RX8 271 "MarginBooks$House" "opinions" "I" "MarginBooks" ∈ lw_tbl := tb1 (i := 31) rfl
theorem gF_X0_28 : Cond.fieldLink RX0 28 "MarginBooks$House" "lines" "I" ∈ GW := GW_of (tb1 (i := 32) rfl) rfl
theorem nF_X7_62_l : Cond.fieldLinkNest RX7 62 "MarginBooks$House" "lines" "I" "MarginBooks" ∈ lw_tbl := tb1 (i := 33) rfl
theorem nF_X8_234_l : Cond.fieldLinkNest RX8 234 "MarginBooks$House" "lines" "I" "MarginBooks" ∈ lw_tbl := tb1 (i := 34) rfl
theorem gF_X0_15 : Cond.fieldLink RX0 15 "MarginBooks$House" "books" "I" ∈ GW := GW_of (tb1 (i := 35) rfl) rfl
theorem nF_X1_31_l : Cond.fieldLinkNest RX1 31 "MarginBooks$House" "books" "I" "MarginBooks" ∈ lw_tbl := tb1 (i := 36) rfl
theorem gF_X0_31 : Cond.fieldLink RX0 31 "MarginBooks$House" "told" "I" ∈ GW := GW_of (tb1 (i := 37) rfl) rfl
theorem nF_X8_96_l : Cond.fieldLinkNest RX8 96 "MarginBooks$House" "told" "I" "MarginBooks" ∈ lw_tbl := tb1 (i := 38) rfl
theorem nF_X1_19_l : Cond.fieldLinkNest RX1 19 "MarginBooks$House" "scribes" "I" "MarginBooks" ∈ lw_tbl := tb1 (i := 39) rfl
theorem gF_X0_34 : Cond.fieldLink RX0 34 "MarginBooks$House" "scribes" "I" ∈ GW := GW_of (tb1 (i := 40) rfl) rfl
theorem nF_X4_50_l : Cond.fieldLinkNest RX4 50 "MarginBooks$House" "scribes" "I" "MarginBooks" ∈ lw_tbl := tb1 (i := 41) rfl
theorem nF_X2_41_l : Cond.fieldLinkNest RX2 41 "MarginBooks$House" "scribes" "I" "MarginBooks" ∈ lw_tbl := tb1 (i := 42) rfl
theorem nF_X8_207_l : Cond.fieldLinkNest RX8 207 "MarginBooks$House" "scribes" "I" "MarginBooks" ∈ lw_tbl := tb1 (i := 43) rfl
theorem gF_X0_18 : Cond.fieldLink RX0 18 "MarginBooks$House" "need" "I" ∈ GW := GW_of (tb1 (i := 44) rfl) rfl
theorem nF_X4_85_l : Cond.fieldLinkNest RX4 85 "MarginBooks$House" "need" "I" "MarginBooks" ∈ lw_tbl := tb1 (i := 45) rfl
theorem nF_X8_307_l : Cond.fieldLinkNest RX8 307 "MarginBooks$House" "need" "I" "MarginBooks" ∈ lw_tbl := tb1 (i := 46) rfl
theorem gF_X0_21 : Cond.fieldLink RX0 21 "MarginBooks$House" "turn" "[I" ∈ GW := GW_of (tb1 (i := 47) rfl) rfl
theorem gF_X0_25 : Cond.fieldLink RX0 25 "MarginBooks$House" "bent" "[I" ∈ GW := GW_of (tb1 (i := 48) rfl) rfl
theorem gY_X0_opinions : Cond.lays RX0 "MarginBooks$House" "opinions" "I" ∈ GW := GW_of (tb1 (i := 49) rfl) rfl
theorem gY_X0_lines : Cond.lays RX0 "MarginBooks$House" "lines" "I" ∈ GW := GW_of (tb1 (i := 51) rfl) rfl
theorem gY_X0_books : Cond.lays RX0 "MarginBooks$House" "books" "I" ∈ GW := GW_of (tb1 (i := 53) rfl) rfl
theorem gY_X0_told : Cond.lays RX0 "MarginBooks$House" "told" "I" ∈ GW := GW_of (tb1 (i := 55) rfl) rfl
theorem gY_X0_scribes : Cond.lays RX0 "MarginBooks$House" "scribes" "I" ∈ GW := GW_of (tb1 (i := 57) rfl) rfl
theorem gY_X0_need : Cond.lays RX0 "MarginBooks$House" "need" "I" ∈ GW := GW_of (tb1 (i := 59) rfl) rfl
theorem gY_X0_turn : Cond.laysFinal RX0 "MarginBooks$House" "turn" "[I" ∈ GW := GW_of (tb1 (i := 61) rfl) rfl
theorem gY_X0_bent : Cond.laysFinal RX0 "MarginBooks$House" "bent" "[I" ∈ GW := GW_of (tb1 (i := 63) rfl) rfl
theorem gA_int : Cond.arrayClass .int ∈ GW := GW_of (tb1 (i := 66) rfl) rfl
theorem gL_X8_19 : Cond.classLink RX8 19 RX4 ∈ GW := GW_of (tb1 (i := 67) rfl) rfl
theorem gT_X4 : Cond.instantiable RX4 8 ∈ GW := GW_of (tb1 (i := 68) rfl) rfl
theorem nM_X8_21_l : Cond.methodLinkNest RX8 21 yX4_init "MarginBooks" ∈ lw_tbl := tb1 (i := 69) rfl
theorem gI_X4_init : Cond.instanceMethod yX4_init ∈ GW := GW_of (tb1 (i := 70) rfl) rfl
theorem gC_X4_init : Cond.code yX4_init cX4_init 1 none ∈ GW := GW_of (tb1 (i := 71) rfl) rfl
theorem gM_X4_3 : Cond.methodLink RX4 3 objectInit ∈ GW := GW_of (tb1 (i := 72) rfl) rfl
theorem gF_X4_11 : Cond.fieldLink RX4 11 "MarginBooks$Reader" "text" "[I" ∈ GW := GW_of (tb1 (i := 73) rfl) rfl
theorem gF_X4_15 : Cond.fieldLink RX4 15 "MarginBooks$Reader" "length" "I" ∈ GW := GW_of (tb1 (i := 74) rfl) rfl
theorem nF_X8_80_l : Cond.fieldLinkNest RX8 80 "MarginBooks$Reader" "length" "I" "MarginBooks" ∈ lw_tbl := tb1 (i := 75) rfl
theorem gF_X4_24 : Cond.fieldLink RX4 24 "MarginBooks$Reader" "next" "I" ∈ GW := GW_of (tb1 (i := 76) rfl) rfl
theorem gF_X4_59 : Cond.fieldLink RX4 59 "MarginBooks$Reader" "place" "I" ∈ GW := GW_of (tb1 (i := 77) rfl) rfl
theorem gF_X4_37 : Cond.fieldLink RX4 37 "MarginBooks$Reader" "sort" "I" ∈ GW := GW_of (tb1 (i := 78) rfl) rfl
theorem gF_X4_40 : Cond.fieldLink RX4 40 "MarginBooks$Reader" "value" "I" ∈ GW := GW_of (tb1 (i := 79) rfl) rfl
theorem gF_X4_27 : Cond.fieldLink RX4 27 "MarginBooks$Reader" "bookTold" "Z" ∈ GW := GW_of (tb1 (i := 80) rfl) rfl
theorem gF_X4_31 : Cond.fieldLink RX4 31 "MarginBooks$Reader" "needTold" "Z" ∈ GW := GW_of (tb1 (i := 81) rfl) rfl
theorem gY_X4_text : Cond.laysFinal RX4 "MarginBooks$Reader" "text" "[I" ∈ GW := GW_of (tb1 (i := 82) rfl) rfl
theorem gY_X4_length : Cond.lays RX4 "MarginBooks$Reader" "length" "I" ∈ GW := GW_of (tb1 (i := 84) rfl) rfl
theorem gY_X4_next : Cond.lays RX4 "MarginBooks$Reader" "next" "I" ∈ GW := GW_of (tb1 (i := 86) rfl) rfl
theorem gY_X4_place : Cond.lays RX4 "MarginBooks$Reader" "place" "I" ∈ GW := GW_of (tb1 (i := 88) rfl) rfl
theorem gY_X4_sort : Cond.lays RX4 "MarginBooks$Reader" "sort" "I" ∈ GW := GW_of (tb1 (i := 90) rfl) rfl
theorem gY_X4_value : Cond.lays RX4 "MarginBooks$Reader" "value" "I" ∈ GW := GW_of (tb1 (i := 92) rfl) rfl
theorem gY_X4_bookTold : Cond.lays RX4 "MarginBooks$Reader" "bookTold" "Z" ∈ GW := GW_of (tb1 (i := 94) rfl) rfl
theorem gY_X4_needTold : Cond.lays RX4 "MarginBooks$Reader" "needTold" "Z" ∈ GW := GW_of (tb1 (i := 96) rfl) rfl
theorem gL_X8_26 : Cond.classLink RX8 26 RX1 ∈ GW := GW_of (tb1 (i := 99) rfl) rfl
theorem gT_X1 : Cond.instantiable RX1 3 ∈ GW := GW_of (tb1 (i := 100) rfl) rfl
theorem nM_X8_28_l : Cond.methodLinkNest RX8 28 yX1_init "MarginBooks" ∈ lw_tbl := tb1 (i := 101) rfl
theorem gI_X1_init : Cond.instanceMethod yX1_init ∈ GW := GW_of (tb1 (i := 102) rfl) rfl
theorem gC_X1_init : Cond.code yX1_init cX1_init 1 none ∈ GW := GW_of (tb1 (i := 103) rfl) rfl
theorem gM_X1_3 : Cond.methodLink RX1 3 objectInit ∈ GW := GW_of (tb1 (i := 104) rfl) rfl
theorem gF_X1_9 : Cond.fieldLink RX1 9 "MarginBooks$Laws" "made" "[I" ∈ GW := GW_of (tb1 (i := 105) rfl) rfl
theorem gF_X1_30 : Cond.fieldLink RX1 30 "MarginBooks$Laws" "scribes" "I" ∈ GW := GW_of (tb1 (i := 106) rfl) rfl
theorem nF_X5_41_l : Cond.fieldLinkNest RX5 41 "MarginBooks$Laws" "scribes" "I" "MarginBooks" ∈ lw_tbl := tb1 (i := 107) rfl
theorem nF_X7_56_l : Cond.fieldLinkNest RX7 56 "MarginBooks$Laws" "scribes" "I" "MarginBooks" ∈ lw_tbl := tb1 (i := 108) rfl
theorem gF_X1_15 : Cond.fieldLink RX1 15 "MarginBooks$Laws" "books" "I" ∈ GW := GW_of (tb1 (i := 109) rfl) rfl
theorem nF_X5_38_l : Cond.fieldLinkNest RX5 38 "MarginBooks$Laws" "books" "I" "MarginBooks" ∈ lw_tbl := tb1 (i := 110) rfl
theorem nF_X7_53_l : Cond.fieldLinkNest RX7 53 "MarginBooks$Laws" "books" "I" "MarginBooks" ∈ lw_tbl := tb1 (i := 111) rfl
theorem gY_X1_made : Cond.laysFinal RX1 "MarginBooks$Laws" "made" "[I" ∈ GW := GW_of (tb1 (i := 112) rfl) rfl
theorem gY_X1_scribes : Cond.lays RX1 "MarginBooks$Laws" "scribes" "I" ∈ GW := GW_of (tb1 (i := 114) rfl) rfl
theorem gY_X1_books : Cond.lays RX1 "MarginBooks$Laws" "books" "I" ∈ GW := GW_of (tb1 (i := 116) rfl) rfl
theorem gL_X8_33 : Cond.classLink RX8 33 RX6 ∈ GW := GW_of (tb1 (i := 119) rfl) rfl
theorem gT_X6 : Cond.instantiable RX6 2 ∈ GW := GW_of (tb1 (i := 120) rfl) rfl
theorem nM_X8_35_l : Cond.methodLinkNest RX8 35 yX6_init "MarginBooks" ∈ lw_tbl := tb1 (i := 121) rfl
theorem gI_X6_init : Cond.instanceMethod yX6_init ∈ GW := GW_of (tb1 (i := 122) rfl) rfl
theorem gC_X6_init : Cond.code yX6_init cX6_init 1 none ∈ GW := GW_of (tb1 (i := 123) rfl) rfl
theorem gM_X6_5 : Cond.methodLink RX6 5 objectInit ∈ GW := GW_of (tb1 (i := 124) rfl) rfl
theorem gL_X6_11 : Cond.classLink RX6 11 "[[I" ∈ GW := GW_of (tb1 (i := 125) rfl) rfl
theorem nO_l : Cond.arrayOver (.array .int) ∈ lw_tbl := tb1 (i := 126) rfl
theorem gF_X6_13 : Cond.fieldLink RX6 13 "MarginBooks$Standing" "rows" "[[I" ∈ GW := GW_of (tb1 (i := 127) rfl) rfl
theorem gF_X6_16 : Cond.fieldLink RX6 16 "MarginBooks$Standing" "known" "I" ∈ GW := GW_of (tb1 (i := 128) rfl) rfl
theorem nF_X8_191_l : Cond.fieldLinkNest RX8 191 "MarginBooks$Standing" "known" "I" "MarginBooks" ∈ lw_tbl := tb1 (i := 129) rfl
theorem gY_X6_rows : Cond.laysFinal RX6 "MarginBooks$Standing" "rows" "[[I" ∈ GW := GW_of (tb1 (i := 130) rfl) rfl
theorem gY_X6_known : Cond.lays RX6 "MarginBooks$Standing" "known" "I" ∈ GW := GW_of (tb1 (i := 132) rfl) rfl
theorem gL_X8_46 : Cond.classLink RX8 46 RX5 ∈ GW := GW_of (tb1 (i := 135) rfl) rfl
theorem gT_X5 : Cond.instantiable RX5 5 ∈ GW := GW_of (tb1 (i := 136) rfl) rfl
theorem nM_X8_48_l : Cond.methodLinkNest RX8 48 yX5_init "MarginBooks" ∈ lw_tbl := tb1 (i := 137) rfl
theorem gI_X5_init : Cond.instanceMethod yX5_init ∈ GW := GW_of (tb1 (i := 138) rfl) rfl
theorem gC_X5_init : Cond.code yX5_init cX5_init 2 none ∈ GW := GW_of (tb1 (i := 139) rfl) rfl
theorem gM_X5_3 : Cond.methodLink RX5 3 objectInit ∈ GW := GW_of (tb1 (i := 140) rfl) rfl
theorem gF_X5_9 : Cond.fieldLink RX5 9 "MarginBooks$Rounds" "laws" "LMarginBooks$Laws;" ∈ GW := GW_of (tb1 (i := 141) rfl) rfl
theorem gF_X5_15 : Cond.fieldLink RX5 15 "MarginBooks$Rounds" "book" "I" ∈ GW := GW_of (tb1 (i := 142) rfl) rfl
theorem nF_X8_220_l : Cond.fieldLinkNest RX8 220 "MarginBooks$Rounds" "book" "I" "MarginBooks" ∈ lw_tbl := tb1 (i := 143) rfl
theorem gF_X5_19 : Cond.fieldLink RX5 19 "MarginBooks$Rounds" "copies" "I" ∈ GW := GW_of (tb1 (i := 144) rfl) rfl
theorem nF_X8_231_l : Cond.fieldLinkNest RX8 231 "MarginBooks$Rounds" "copies" "I" "MarginBooks" ∈ lw_tbl := tb1 (i := 145) rfl
theorem gF_X5_22 : Cond.fieldLink RX5 22 "MarginBooks$Rounds" "ender" "I" ∈ GW := GW_of (tb1 (i := 146) rfl) rfl
theorem nF_X8_225_l : Cond.fieldLinkNest RX8 225 "MarginBooks$Rounds" "ender" "I" "MarginBooks" ∈ lw_tbl := tb1 (i := 147) rfl
theorem gF_X5_25 : Cond.fieldLink RX5 25 "MarginBooks$Rounds" "goesOn" "Z" ∈ GW := GW_of (tb1 (i := 148) rfl) rfl
theorem nF_X8_228_l : Cond.fieldLinkNest RX8 228 "MarginBooks$Rounds" "goesOn" "Z" "MarginBooks" ∈ lw_tbl := tb1 (i := 149) rfl
theorem gY_X5_laws : Cond.laysFinal RX5 "MarginBooks$Rounds" "laws" "LMarginBooks$Laws;" ∈ GW := GW_of (tb1 (i := 150) rfl) rfl
theorem gY_X5_book : Cond.lays RX5 "MarginBooks$Rounds" "book" "I" ∈ GW := GW_of (tb1 (i := 152) rfl) rfl
theorem gY_X5_copies : Cond.lays RX5 "MarginBooks$Rounds" "copies" "I" ∈ GW := GW_of (tb1 (i := 154) rfl) rfl
theorem gY_X5_ender : Cond.lays RX5 "MarginBooks$Rounds" "ender" "I" ∈ GW := GW_of (tb1 (i := 156) rfl) rfl
theorem gY_X5_goesOn : Cond.lays RX5 "MarginBooks$Rounds" "goesOn" "Z" ∈ GW := GW_of (tb1 (i := 158) rfl) rfl
theorem gL_X8_55 : Cond.classLink RX8 55 RX7 ∈ GW := GW_of (tb1 (i := 161) rfl) rfl
theorem gT_X7 : Cond.instantiable RX7 6 ∈ GW := GW_of (tb1 (i := 162) rfl) rfl
theorem nM_X8_57_l : Cond.methodLinkNest RX8 57 yX7_init "MarginBooks" ∈ lw_tbl := tb1 (i := 163) rfl
theorem gI_X7_init : Cond.instanceMethod yX7_init ∈ GW := GW_of (tb1 (i := 164) rfl) rfl
theorem gC_X7_init : Cond.code yX7_init cX7_init 2 none ∈ GW := GW_of (tb1 (i := 165) rfl) rfl
theorem gM_X7_3 : Cond.methodLink RX7 3 objectInit ∈ GW := GW_of (tb1 (i := 166) rfl) rfl
theorem gF_X7_24 : Cond.fieldLink RX7 24 "MarginBooks$Ways" "laws" "LMarginBooks$Laws;" ∈ GW := GW_of (tb1 (i := 167) rfl) rfl
theorem gF_X7_9 : Cond.fieldLink RX7 9 "MarginBooks$Ways" "distance" "[I" ∈ GW := GW_of (tb1 (i := 168) rfl) rfl
theorem gF_X7_15 : Cond.fieldLink RX7 15 "MarginBooks$Ways" "before" "[I" ∈ GW := GW_of (tb1 (i := 169) rfl) rfl
theorem gF_X7_18 : Cond.fieldLink RX7 18 "MarginBooks$Ways" "lastScribe" "[I" ∈ GW := GW_of (tb1 (i := 170) rfl) rfl
theorem gF_X7_21 : Cond.fieldLink RX7 21 "MarginBooks$Ways" "queue" "[I" ∈ GW := GW_of (tb1 (i := 171) rfl) rfl
theorem gF_X7_28 : Cond.fieldLink RX7 28 "MarginBooks$Ways" "queued" "I" ∈ GW := GW_of (tb1 (i := 172) rfl) rfl
theorem gY_X7_laws : Cond.laysFinal RX7 "MarginBooks$Ways" "laws" "LMarginBooks$Laws;" ∈ GW := GW_of (tb1 (i := 173) rfl) rfl
theorem gY_X7_distance : Cond.laysFinal RX7 "MarginBooks$Ways" "distance" "[I" ∈ GW := GW_of (tb1 (i := 175) rfl) rfl
theorem gY_X7_before : Cond.laysFinal RX7 "MarginBooks$Ways" "before" "[I" ∈ GW := GW_of (tb1 (i := 177) rfl) rfl
theorem gY_X7_lastScribe : Cond.laysFinal RX7 "MarginBooks$Ways" "lastScribe" "[I" ∈ GW := GW_of (tb1 (i := 179) rfl) rfl
theorem gY_X7_queue : Cond.laysFinal RX7 "MarginBooks$Ways" "queue" "[I" ∈ GW := GW_of (tb1 (i := 181) rfl) rfl
theorem gY_X7_queued : Cond.lays RX7 "MarginBooks$Ways" "queued" "I" ∈ GW := GW_of (tb1 (i := 183) rfl) rfl
theorem gL_X8_62 : Cond.classLink RX8 62 RX2 ∈ GW := GW_of (tb1 (i := 186) rfl) rfl
theorem gT_X2 : Cond.instantiable RX2 3 ∈ GW := GW_of (tb1 (i := 187) rfl) rfl
theorem nM_X8_64_l : Cond.methodLinkNest RX8 64 yX2_init "MarginBooks" ∈ lw_tbl := tb1 (i := 188) rfl
theorem gI_X2_init : Cond.instanceMethod yX2_init ∈ GW := GW_of (tb1 (i := 189) rfl) rfl
theorem gC_X2_init : Cond.code yX2_init cX2_init 1 none ∈ GW := GW_of (tb1 (i := 190) rfl) rfl
theorem gM_X2_3 : Cond.methodLink RX2 3 objectInit ∈ GW := GW_of (tb1 (i := 191) rfl) rfl
theorem gF_X2_11 : Cond.fieldLink RX2 11 "MarginBooks$Margins" "of" "[I" ∈ GW := GW_of (tb1 (i := 192) rfl) rfl
theorem gF_X2_15 : Cond.fieldLink RX2 15 "MarginBooks$Margins" "said" "[I" ∈ GW := GW_of (tb1 (i := 193) rfl) rfl
theorem gF_X2_18 : Cond.fieldLink RX2 18 "MarginBooks$Margins" "size" "I" ∈ GW := GW_of (tb1 (i := 194) rfl) rfl
theorem nF_X8_268_l : Cond.fieldLinkNest RX8 268 "MarginBooks$Margins" "size" "I" "MarginBooks" ∈ lw_tbl := tb1 (i := 195) rfl
theorem gY_X2_of : Cond.laysFinal RX2 "MarginBooks$Margins" "of" "[I" ∈ GW := GW_of (tb1 (i := 196) rfl) rfl
theorem gY_X2_said : Cond.laysFinal RX2 "MarginBooks$Margins" "said" "[I" ∈ GW := GW_of (tb1 (i := 198) rfl) rfl
theorem gY_X2_size : Cond.lays RX2 "MarginBooks$Margins" "size" "I" ∈ GW := GW_of (tb1 (i := 200) rfl) rfl
theorem gL_X8_69 : Cond.classLink RX8 69 RX3 ∈ GW := GW_of (tb1 (i := 203) rfl) rfl
theorem gT_X3 : Cond.instantiable RX3 6 ∈ GW := GW_of (tb1 (i := 204) rfl) rfl
theorem nM_X8_71_l : Cond.methodLinkNest RX8 71 yX3_init "MarginBooks" ∈ lw_tbl := tb1 (i := 205) rfl
theorem gI_X3_init : Cond.instanceMethod yX3_init ∈ GW := GW_of (tb1 (i := 206) rfl) rfl
theorem gC_X3_init : Cond.code yX3_init cX3_init 1 none ∈ GW := GW_of (tb1 (i := 207) rfl) rfl
theorem gM_X3_1 : Cond.methodLink RX3 1 objectInit ∈ GW := GW_of (tb1 (i := 208) rfl) rfl
theorem gF_X3_28 : Cond.fieldLink RX3 28 "MarginBooks$Marks" "unlike" "I" ∈ GW := GW_of (tb1 (i := 209) rfl) rfl
theorem nF_X8_287_l : Cond.fieldLinkNest RX8 287 "MarginBooks$Marks" "unlike" "I" "MarginBooks" ∈ lw_tbl := tb1 (i := 210) rfl
theorem gF_X3_32 : Cond.fieldLink RX3 32 "MarginBooks$Marks" "turn" "I" ∈ GW := GW_of (tb1 (i := 211) rfl) rfl
theorem nF_X8_290_l : Cond.fieldLinkNest RX8 290 "MarginBooks$Marks" "turn" "I" "MarginBooks" ∈ lw_tbl := tb1 (i := 212) rfl
theorem gF_X3_38 : Cond.fieldLink RX3 38 "MarginBooks$Marks" "bent" "I" ∈ GW := GW_of (tb1 (i := 213) rfl) rfl
theorem nF_X8_293_l : Cond.fieldLinkNest RX8 293 "MarginBooks$Marks" "bent" "I" "MarginBooks" ∈ lw_tbl := tb1 (i := 214) rfl
theorem gF_X3_35 : Cond.fieldLink RX3 35 "MarginBooks$Marks" "times" "I" ∈ GW := GW_of (tb1 (i := 215) rfl) rfl
theorem nF_X8_296_l : Cond.fieldLinkNest RX8 296 "MarginBooks$Marks" "times" "I" "MarginBooks" ∈ lw_tbl := tb1 (i := 216) rfl
theorem gF_X3_41 : Cond.fieldLink RX3 41 "MarginBooks$Marks" "copies" "I" ∈ GW := GW_of (tb1 (i := 217) rfl) rfl
theorem nF_X8_299_l : Cond.fieldLinkNest RX8 299 "MarginBooks$Marks" "copies" "I" "MarginBooks" ∈ lw_tbl := tb1 (i := 218) rfl
theorem gF_X3_13 : Cond.fieldLink RX3 13 "MarginBooks$Marks" "traced" "J" ∈ GW := GW_of (tb1 (i := 219) rfl) rfl
theorem nF_X8_310_l : Cond.fieldLinkNest RX8 310 "MarginBooks$Marks" "traced" "J" "MarginBooks" ∈ lw_tbl := tb1 (i := 220) rfl
theorem gY_X3_unlike : Cond.lays RX3 "MarginBooks$Marks" "unlike" "I" ∈ GW := GW_of (tb1 (i := 221) rfl) rfl
theorem gY_X3_turn : Cond.lays RX3 "MarginBooks$Marks" "turn" "I" ∈ GW := GW_of (tb1 (i := 223) rfl) rfl
theorem gY_X3_bent : Cond.lays RX3 "MarginBooks$Marks" "bent" "I" ∈ GW := GW_of (tb1 (i := 225) rfl) rfl
theorem gY_X3_times : Cond.lays RX3 "MarginBooks$Marks" "times" "I" ∈ GW := GW_of (tb1 (i := 227) rfl) rfl
theorem gY_X3_copies : Cond.lays RX3 "MarginBooks$Marks" "copies" "I" ∈ GW := GW_of (tb1 (i := 229) rfl) rfl
theorem gY_X3_traced : Cond.lays RX3 "MarginBooks$Marks" "traced" "J" ∈ GW := GW_of (tb1 (i := 231) rfl) rfl
theorem gF_X8_10 : Cond.fieldLink RX8 10 "MarginBooks" "house" "LMarginBooks$House;" ∈ GW := GW_of (tb1 (i := 234) rfl) rfl
theorem gF_X8_16 : Cond.fieldLink RX8 16 "MarginBooks" "draft" "LMarginBooks$House;" ∈ GW := GW_of (tb1 (i := 235) rfl) rfl
theorem gF_X8_22 : Cond.fieldLink RX8 22 "MarginBooks" "reader" "LMarginBooks$Reader;" ∈ GW := GW_of (tb1 (i := 236) rfl) rfl
theorem gF_X8_29 : Cond.fieldLink RX8 29 "MarginBooks" "laws" "LMarginBooks$Laws;" ∈ GW := GW_of (tb1 (i := 237) rfl) rfl
theorem gF_X8_36 : Cond.fieldLink RX8 36 "MarginBooks" "standing" "LMarginBooks$Standing;" ∈ GW := GW_of (tb1 (i := 238) rfl) rfl
theorem gF_X8_40 : Cond.fieldLink RX8 40 "MarginBooks" "imageZero" "LMarginBooks$Standing;" ∈ GW := GW_of (tb1 (i := 239) rfl) rfl
theorem gF_X8_43 : Cond.fieldLink RX8 43 "MarginBooks" "imageOne" "LMarginBooks$Standing;" ∈ GW := GW_of (tb2 (i := 0) rfl) rfl
theorem gF_X8_107 : Cond.fieldLink RX8 107 "MarginBooks" "keptZero" "Z" ∈ GW := GW_of (tb2 (i := 1) rfl) rfl
theorem gF_X8_111 : Cond.fieldLink RX8 111 "MarginBooks" "keptOne" "Z" ∈ GW := GW_of (tb2 (i := 2) rfl) rfl
theorem gF_X8_103 : Cond.fieldLink RX8 103 "MarginBooks" "target" "I" ∈ GW := GW_of (tb2 (i := 3) rfl) rfl
theorem gF_X8_51 : Cond.fieldLink RX8 51 "MarginBooks" "rounds" "LMarginBooks$Rounds;" ∈ GW := GW_of (tb2 (i := 4) rfl) rfl
theorem gF_X8_58 : Cond.fieldLink RX8 58 "MarginBooks" "ways" "LMarginBooks$Ways;" ∈ GW := GW_of (tb2 (i := 5) rfl) rfl
theorem gF_X8_65 : Cond.fieldLink RX8 65 "MarginBooks" "margins" "LMarginBooks$Margins;" ∈ GW := GW_of (tb2 (i := 6) rfl) rfl
theorem gF_X8_72 : Cond.fieldLink RX8 72 "MarginBooks" "marks" "LMarginBooks$Marks;" ∈ GW := GW_of (tb2 (i := 7) rfl) rfl
theorem gY_X8_house : Cond.lays RX8 "MarginBooks" "house" "LMarginBooks$House;" ∈ GW := GW_of (tb2 (i := 8) rfl) rfl
theorem gY_X8_draft : Cond.lays RX8 "MarginBooks" "draft" "LMarginBooks$House;" ∈ GW := GW_of (tb2 (i := 10) rfl) rfl
theorem gY_X8_reader : Cond.laysFinal RX8 "MarginBooks" "reader" "LMarginBooks$Reader;" ∈ GW := GW_of (tb2 (i := 12) rfl) rfl
theorem gY_X8_laws : Cond.laysFinal RX8 "MarginBooks" "laws" "LMarginBooks$Laws;" ∈ GW := GW_of (tb2 (i := 14) rfl) rfl
theorem gY_X8_standing : Cond.laysFinal RX8 "MarginBooks" "standing" "LMarginBooks$Standing;" ∈ GW := GW_of (tb2 (i := 16) rfl) rfl
theorem gY_X8_imageZero : Cond.laysFinal RX8 "MarginBooks" "imageZero" "LMarginBooks$Standing;" ∈ GW := GW_of (tb2 (i := 18) rfl) rfl
theorem gY_X8_imageOne : Cond.laysFinal RX8 "MarginBooks" "imageOne" "LMarginBooks$Standing;" ∈ GW := GW_of (tb2 (i := 20) rfl) rfl
theorem gY_X8_keptZero : Cond.lays RX8 "MarginBooks" "keptZero" "Z" ∈ GW := GW_of (tb2 (i := 22) rfl) rfl
theorem gY_X8_keptOne : Cond.lays RX8 "MarginBooks" "keptOne" "Z" ∈ GW := GW_of (tb2 (i := 24) rfl) rfl
theorem gY_X8_target : Cond.lays RX8 "MarginBooks" "target" "I" ∈ GW := GW_of (tb2 (i := 26) rfl) rfl
theorem gY_X8_rounds : Cond.laysFinal RX8 "MarginBooks" "rounds" "LMarginBooks$Rounds;" ∈ GW := GW_of (tb2 (i := 28) rfl) rfl
theorem gY_X8_ways : Cond.laysFinal RX8 "MarginBooks" "ways" "LMarginBooks$Ways;" ∈ GW := GW_of (tb2 (i := 30) rfl) rfl
theorem gY_X8_margins : Cond.laysFinal RX8 "MarginBooks" "margins" "LMarginBooks$Margins;" ∈ GW := GW_of (tb2 (i := 32) rfl) rfl
theorem gY_X8_marks : Cond.laysFinal RX8 "MarginBooks" "marks" "LMarginBooks$Marks;" ∈ GW := GW_of (tb2 (i := 34) rfl) rfl
theorem gM_L_13 : Cond.methodLink RL 13 yX8_type ∈ GW := GW_of (tb2 (i := 37) rfl) rfl
theorem gI_X8_type : Cond.instanceMethod yX8_type ∈ GW := GW_of (tb2 (i := 38) rfl) rfl
theorem gE_X8_type : Cond.selects RX8 yX8_type yX8_type ∈ GW := GW_of (tb2 (i := 39) rfl) rfl
theorem gC_X8_type : Cond.code yX8_type cX8_type 2 (Option.some .int) ∈ GW := GW_of (tb2 (i := 40) rfl) rfl
theorem nM_X8_76_l : Cond.methodLinkNest RX8 76 yX4_add "MarginBooks" ∈ lw_tbl := tb2 (i := 41) rfl
theorem gI_X4_add : Cond.instanceMethod yX4_add ∈ GW := GW_of (tb2 (i := 43) rfl) rfl
theorem gC_X4_add : Cond.code yX4_add cX4_add 2 (Option.some .boolean) ∈ GW := GW_of (tb2 (i := 44) rfl) rfl
theorem gM_L_18 : Cond.methodLink RL 18 yX8_clear ∈ GW := GW_of (tb2 (i := 45) rfl) rfl
theorem gI_X8_clear : Cond.instanceMethod yX8_clear ∈ GW := GW_of (tb2 (i := 46) rfl) rfl
theorem gE_X8_clear : Cond.selects RX8 yX8_clear yX8_clear ∈ GW := GW_of (tb2 (i := 47) rfl) rfl
theorem gC_X8_clear : Cond.code yX8_clear cX8_clear 1 (Option.some .int) ∈ GW := GW_of (tb2 (i := 48) rfl) rfl
theorem nM_X8_84_l : Cond.methodLinkNest RX8 84 yX4_empty "MarginBooks" ∈ lw_tbl := tb2 (i := 49) rfl
theorem gI_X4_empty : Cond.instanceMethod yX4_empty ∈ GW := GW_of (tb2 (i := 51) rfl) rfl
theorem gC_X4_empty : Cond.code yX4_empty cX4_empty 2 (Option.some .int) ∈ GW := GW_of (tb2 (i := 52) rfl) rfl
theorem gM_L_23 : Cond.methodLink RL 23 yX8_house ∈ GW := GW_of (tb2 (i := 53) rfl) rfl
theorem gI_X8_house : Cond.instanceMethod yX8_house ∈ GW := GW_of (tb2 (i := 54) rfl) rfl
theorem gE_X8_house : Cond.selects RX8 yX8_house yX8_house ∈ GW := GW_of (tb2 (i := 55) rfl) rfl
theorem gC_X8_house : Cond.code yX8_house cX8_house 3 (Option.some .int) ∈ GW := GW_of (tb2 (i := 56) rfl) rfl
theorem nM_X8_88_l : Cond.methodLinkNest RX8 88 yX4_read "MarginBooks" ∈ lw_tbl := tb2 (i := 57) rfl
theorem gI_X4_read : Cond.instanceMethod yX4_read ∈ GW := GW_of (tb2 (i := 59) rfl) rfl
theorem gC_X4_read : Cond.code yX4_read cX4_read 4 (Option.some .int) ∈ GW := GW_of (tb2 (i := 60) rfl) rfl
theorem nM_X4_19_l : Cond.methodLinkNest RX4 19 yX0_begin "MarginBooks" ∈ lw_tbl := tb2 (i := 61) rfl
theorem gI_X0_begin : Cond.instanceMethod yX0_begin ∈ GW := GW_of (tb2 (i := 63) rfl) rfl
theorem gC_X0_begin : Cond.code yX0_begin cX0_begin 1 none ∈ GW := GW_of (tb2 (i := 64) rfl) rfl
theorem gM_X4_34 : Cond.methodLink RX4 34 yX4_readToken ∈ GW := GW_of (tb2 (i := 65) rfl) rfl
theorem gI_X4_readToken : Cond.instanceMethod yX4_readToken ∈ GW := GW_of (tb2 (i := 67) rfl) rfl
theorem gC_X4_readToken : Cond.code yX4_readToken cX4_readToken 2 none ∈ GW := GW_of (tb2 (i := 68) rfl) rfl
theorem gM_X4_88 : Cond.methodLink RX4 88 yX4_byteAt ∈ GW := GW_of (tb2 (i := 69) rfl) rfl
theorem gI_X4_byteAt : Cond.instanceMethod yX4_byteAt ∈ GW := GW_of (tb2 (i := 71) rfl) rfl
theorem gC_X4_byteAt : Cond.code yX4_byteAt cX4_byteAt 2 (Option.some .int) ∈ GW := GW_of (tb2 (i := 72) rfl) rfl
theorem gM_X4_92 : Cond.methodLink RX4 92 yX4_isLetter ∈ GW := GW_of (tb2 (i := 73) rfl) rfl
theorem gS_X4_isLetter : Cond.static yX4_isLetter ∈ GW := GW_of (tb2 (i := 74) rfl) rfl
theorem gC_X4_isLetter : Cond.code yX4_isLetter cX4_isLetter 1 (Option.some .boolean) ∈ GW := GW_of (tb2 (i := 75) rfl) rfl
theorem gM_X4_95 : Cond.methodLink RX4 95 yX4_readLetters ∈ GW := GW_of (tb2 (i := 76) rfl) rfl
theorem gI_X4_readLetters : Cond.instanceMethod yX4_readLetters ∈ GW := GW_of (tb2 (i := 78) rfl) rfl
theorem gC_X4_readLetters : Cond.code yX4_readLetters cX4_readLetters 1 none ∈ GW := GW_of (tb2 (i := 79) rfl) rfl
theorem gM_X4_98 : Cond.methodLink RX4 98 yX4_isFigure ∈ GW := GW_of (tb2 (i := 80) rfl) rfl
theorem gS_X4_isFigure : Cond.static yX4_isFigure ∈ GW := GW_of (tb2 (i := 81) rfl) rfl
theorem gC_X4_isFigure : Cond.code yX4_isFigure cX4_isFigure 1 (Option.some .boolean) ∈ GW := GW_of (tb2 (i := 82) rfl) rfl
theorem gM_X4_101 : Cond.methodLink RX4 101 yX4_readFigures ∈ GW := GW_of (tb2 (i := 83) rfl) rfl
theorem gI_X4_readFigures : Cond.instanceMethod yX4_readFigures ∈ GW := GW_of (tb2 (i := 85) rfl) rfl
theorem gC_X4_readFigures : Cond.code yX4_readFigures cX4_readFigures 2 none ∈ GW := GW_of (tb2 (i := 86) rfl) rfl
theorem gM_X4_104 : Cond.methodLink RX4 104 yJ9_min_7cf53 ∈ GW := GW_of (tb2 (i := 87) rfl) rfl
theorem gS_J9_min_7cf53 : Cond.static yJ9_min_7cf53 ∈ GW := GW_of (tb2 (i := 88) rfl) rfl
theorem gC_J9_min_7cf53 : Cond.code yJ9_min_7cf53 cJ9_min_7cf53 2 (Option.some .int) ∈ GW := GW_of (tb2 (i := 89) rfl) rfl
theorem gM_X4_43 : Cond.methodLink RX4 43 yX4_readOpinions ∈ GW := GW_of (tb2 (i := 90) rfl) rfl
theorem gI_X4_readOpinions : Cond.instanceMethod yX4_readOpinions ∈ GW := GW_of (tb2 (i := 92) rfl) rfl
theorem gC_X4_readOpinions : Cond.code yX4_readOpinions cX4_readOpinions 2 (Option.some .boolean) ∈ GW := GW_of (tb2 (i := 93) rfl) rfl
theorem gM_X4_62 : Cond.methodLink RX4 62 yX4_readNumber ∈ GW := GW_of (tb2 (i := 94) rfl) rfl
theorem gI_X4_readNumber : Cond.instanceMethod yX4_readNumber ∈ GW := GW_of (tb2 (i := 96) rfl) rfl
theorem gC_X4_readNumber : Cond.code yX4_readNumber cX4_readNumber 3 (Option.some .boolean) ∈ GW := GW_of (tb2 (i := 97) rfl) rfl
theorem gM_X4_69 : Cond.methodLink RX4 69 yX4_readStop ∈ GW := GW_of (tb2 (i := 98) rfl) rfl
theorem gI_X4_readStop : Cond.instanceMethod yX4_readStop ∈ GW := GW_of (tb2 (i := 100) rfl) rfl
theorem gC_X4_readStop : Cond.code yX4_readStop cX4_readStop 1 (Option.some .boolean) ∈ GW := GW_of (tb2 (i := 101) rfl) rfl
theorem gM_X4_47 : Cond.methodLink RX4 47 yX4_readBook ∈ GW := GW_of (tb2 (i := 102) rfl) rfl
theorem gI_X4_readBook : Cond.instanceMethod yX4_readBook ∈ GW := GW_of (tb2 (i := 104) rfl) rfl
theorem gC_X4_readBook : Cond.code yX4_readBook cX4_readBook 3 (Option.some .boolean) ∈ GW := GW_of (tb2 (i := 105) rfl) rfl
theorem nM_X4_73_l : Cond.methodLinkNest RX4 73 yX0_hasOpinion "MarginBooks" ∈ lw_tbl := tb2 (i := 106) rfl
theorem gI_X0_hasOpinion : Cond.instanceMethod yX0_hasOpinion ∈ GW := GW_of (tb2 (i := 108) rfl) rfl
theorem gC_X0_hasOpinion : Cond.code yX0_hasOpinion cX0_hasOpinion 2 (Option.some .boolean) ∈ GW := GW_of (tb2 (i := 109) rfl) rfl
theorem nM_X4_77_l : Cond.methodLinkNest RX4 77 yX0_addLine "MarginBooks" ∈ lw_tbl := tb2 (i := 110) rfl
theorem gI_X0_addLine : Cond.instanceMethod yX0_addLine ∈ GW := GW_of (tb2 (i := 112) rfl) rfl
theorem gC_X0_addLine : Cond.code yX0_addLine cX0_addLine 2 none ∈ GW := GW_of (tb2 (i := 113) rfl) rfl
theorem gM_X4_53 : Cond.methodLink RX4 53 yX4_readScribe ∈ GW := GW_of (tb2 (i := 114) rfl) rfl
theorem gI_X4_readScribe : Cond.instanceMethod yX4_readScribe ∈ GW := GW_of (tb2 (i := 116) rfl) rfl
theorem gC_X4_readScribe : Cond.code yX4_readScribe cX4_readScribe 3 (Option.some .boolean) ∈ GW := GW_of (tb2 (i := 117) rfl) rfl
theorem nM_X4_81_l : Cond.methodLinkNest RX4 81 yX0_addScribe "MarginBooks" ∈ lw_tbl := tb2 (i := 118) rfl
theorem gI_X0_addScribe : Cond.instanceMethod yX0_addScribe ∈ GW := GW_of (tb2 (i := 120) rfl) rfl
theorem gC_X0_addScribe : Cond.code yX0_addScribe cX0_addScribe 3 none ∈ GW := GW_of (tb2 (i := 121) rfl) rfl
theorem gM_X4_56 : Cond.methodLink RX4 56 yX4_readNeed ∈ GW := GW_of (tb2 (i := 122) rfl) rfl
theorem gI_X4_readNeed : Cond.instanceMethod yX4_readNeed ∈ GW := GW_of (tb2 (i := 124) rfl) rfl
theorem gC_X4_readNeed : Cond.code yX4_readNeed cX4_readNeed 2 (Option.some .boolean) ∈ GW := GW_of (tb2 (i := 125) rfl) rfl
theorem nM_X8_92_l : Cond.methodLinkNest RX8 92 yX1_learn "MarginBooks" ∈ lw_tbl := tb2 (i := 126) rfl
theorem gI_X1_learn : Cond.instanceMethod yX1_learn ∈ GW := GW_of (tb2 (i := 128) rfl) rfl
theorem gC_X1_learn : Cond.code yX1_learn cX1_learn 4 none ∈ GW := GW_of (tb2 (i := 129) rfl) rfl
theorem gM_X1_24 : Cond.methodLink RX1 24 yJ9_min_7cf53 ∈ GW := GW_of (tb2 (i := 130) rfl) rfl
theorem nM_X1_32_l : Cond.methodLinkNest RX1 32 yX0_isConvinced "MarginBooks" ∈ lw_tbl := tb2 (i := 131) rfl
theorem gI_X0_isConvinced : Cond.instanceMethod yX0_isConvinced ∈ GW := GW_of (tb2 (i := 133) rfl) rfl
theorem gC_X0_isConvinced : Cond.code yX0_isConvinced cX0_isConvinced 3 (Option.some .boolean) ∈ GW := GW_of (tb2 (i := 134) rfl) rfl
theorem gM_X0_62 : Cond.methodLink RX0 62 yX0_unlikeLines ∈ GW := GW_of (tb2 (i := 135) rfl) rfl
theorem gI_X0_unlikeLines : Cond.instanceMethod yX0_unlikeLines ∈ GW := GW_of (tb2 (i := 137) rfl) rfl
theorem gC_X0_unlikeLines : Cond.code yX0_unlikeLines cX0_unlikeLines 7 (Option.some .int) ∈ GW := GW_of (tb2 (i := 138) rfl) rfl
theorem gM_X0_59 : Cond.methodLink RX0 59 yX0_saidBy ∈ GW := GW_of (tb2 (i := 139) rfl) rfl
theorem gI_X0_saidBy : Cond.instanceMethod yX0_saidBy ∈ GW := GW_of (tb2 (i := 141) rfl) rfl
theorem gC_X0_saidBy : Cond.code yX0_saidBy cX0_saidBy 3 (Option.some .int) ∈ GW := GW_of (tb2 (i := 142) rfl) rfl
theorem gM_X0_41 : Cond.methodLink RX0 41 yX0_turnOf ∈ GW := GW_of (tb2 (i := 143) rfl) rfl
theorem gI_X0_turnOf : Cond.instanceMethod yX0_turnOf ∈ GW := GW_of (tb2 (i := 145) rfl) rfl
theorem gC_X0_turnOf : Cond.code yX0_turnOf cX0_turnOf 2 (Option.some .int) ∈ GW := GW_of (tb2 (i := 146) rfl) rfl
theorem gM_X0_37 : Cond.methodLink RX0 37 yX0_hasScribe ∈ GW := GW_of (tb2 (i := 147) rfl) rfl
theorem gI_X0_hasScribe : Cond.instanceMethod yX0_hasScribe ∈ GW := GW_of (tb2 (i := 149) rfl) rfl
theorem gC_X0_hasScribe : Cond.code yX0_hasScribe cX0_hasScribe 2 (Option.some .boolean) ∈ GW := GW_of (tb2 (i := 150) rfl) rfl
theorem gM_X0_45 : Cond.methodLink RX0 45 yX0_bentOf ∈ GW := GW_of (tb2 (i := 151) rfl) rfl
theorem gI_X0_bentOf : Cond.instanceMethod yX0_bentOf ∈ GW := GW_of (tb2 (i := 153) rfl) rfl
theorem gC_X0_bentOf : Cond.code yX0_bentOf cX0_bentOf 2 (Option.some .int) ∈ GW := GW_of (tb2 (i := 154) rfl) rfl
theorem gM_X0_48 : Cond.methodLink RX0 48 yX0_said ∈ GW := GW_of (tb2 (i := 155) rfl) rfl
theorem gS_X0_said : Cond.static yX0_said ∈ GW := GW_of (tb2 (i := 156) rfl) rfl
theorem gC_X0_said : Cond.code yX0_said cX0_said 4 (Option.some .int) ∈ GW := GW_of (tb2 (i := 157) rfl) rfl
theorem gM_X0_65 : Cond.methodLink RX0 65 yJ6_bitCount_0f7a4 ∈ GW := GW_of (tb2 (i := 158) rfl) rfl
theorem gS_J6_bitCount_0f7a4 : Cond.static yJ6_bitCount_0f7a4 ∈ GW := GW_of (tb2 (i := 159) rfl) rfl
theorem gC_J6_bitCount_0f7a4 : Cond.code yJ6_bitCount_0f7a4 cJ6_bitCount_0f7a4 1 (Option.some .int) ∈ GW := GW_of (tb2 (i := 160) rfl) rfl
theorem gK_J6_265 : Cond.constant RJ6 265 (1431655765) ∈ GW := GW_of (tb2 (i := 161) rfl) rfl
theorem gK_J6_266 : Cond.constant RJ6 266 (858993459) ∈ GW := GW_of (tb2 (i := 162) rfl) rfl
theorem gK_J6_267 : Cond.constant RJ6 267 (252645135) ∈ GW := GW_of (tb2 (i := 163) rfl) rfl
theorem nM_X1_36_l : Cond.methodLinkNest RX1 36 yX0_becomes "MarginBooks" ∈ lw_tbl := tb2 (i := 164) rfl
theorem gI_X0_becomes : Cond.instanceMethod yX0_becomes ∈ GW := GW_of (tb2 (i := 166) rfl) rfl
theorem gC_X0_becomes : Cond.code yX0_becomes cX0_becomes 7 (Option.some .int) ∈ GW := GW_of (tb2 (i := 167) rfl) rfl
theorem nM_X8_99_l : Cond.methodLinkNest RX8 99 yX6_begin "MarginBooks" ∈ lw_tbl := tb2 (i := 168) rfl
theorem gI_X6_begin : Cond.instanceMethod yX6_begin ∈ GW := GW_of (tb2 (i := 170) rfl) rfl
theorem gC_X6_begin : Cond.code yX6_begin cX6_begin 3 none ∈ GW := GW_of (tb2 (i := 171) rfl) rfl
theorem gM_X6_20 : Cond.methodLink RX6 20 yX6_put ∈ GW := GW_of (tb2 (i := 172) rfl) rfl
theorem gI_X6_put : Cond.instanceMethod yX6_put ∈ GW := GW_of (tb2 (i := 174) rfl) rfl
theorem gC_X6_put : Cond.code yX6_put cX6_put 3 none ∈ GW := GW_of (tb2 (i := 175) rfl) rfl
theorem nM_X8_106_l : Cond.methodLinkNest RX8 106 yX2_empty "MarginBooks" ∈ lw_tbl := tb2 (i := 176) rfl
theorem gI_X2_empty : Cond.instanceMethod yX2_empty ∈ GW := GW_of (tb2 (i := 178) rfl) rfl
theorem gC_X2_empty : Cond.code yX2_empty cX2_empty 2 (Option.some .int) ∈ GW := GW_of (tb2 (i := 179) rfl) rfl
theorem gM_L_27 : Cond.methodLink RL 27 yX8_line ∈ GW := GW_of (tb2 (i := 180) rfl) rfl
theorem gI_X8_line : Cond.instanceMethod yX8_line ∈ GW := GW_of (tb2 (i := 181) rfl) rfl
theorem gE_X8_line : Cond.selects RX8 yX8_line yX8_line ∈ GW := GW_of (tb2 (i := 182) rfl) rfl
theorem gC_X8_line : Cond.code yX8_line cX8_line 3 (Option.some .int) ∈ GW := GW_of (tb2 (i := 183) rfl) rfl
theorem nM_X8_114_l : Cond.methodLinkNest RX8 114 yX0_hasLine "MarginBooks" ∈ lw_tbl := tb2 (i := 184) rfl
theorem gI_X0_hasLine : Cond.instanceMethod yX0_hasLine ∈ GW := GW_of (tb2 (i := 186) rfl) rfl
theorem gC_X0_hasLine : Cond.code yX0_hasLine cX0_hasLine 2 (Option.some .boolean) ∈ GW := GW_of (tb2 (i := 187) rfl) rfl
theorem nM_X8_117_l : Cond.methodLinkNest RX8 117 yX6_book "MarginBooks" ∈ lw_tbl := tb2 (i := 188) rfl
theorem gI_X6_book : Cond.instanceMethod yX6_book ∈ GW := GW_of (tb2 (i := 190) rfl) rfl
theorem gC_X6_book : Cond.code yX6_book cX6_book 1 (Option.some .int) ∈ GW := GW_of (tb2 (i := 191) rfl) rfl
theorem gM_X6_24 : Cond.methodLink RX6 24 yX6_at ∈ GW := GW_of (tb2 (i := 192) rfl) rfl
theorem gI_X6_at : Cond.instanceMethod yX6_at ∈ GW := GW_of (tb2 (i := 194) rfl) rfl
theorem gC_X6_at : Cond.code yX6_at cX6_at 2 (Option.some .int) ∈ GW := GW_of (tb2 (i := 195) rfl) rfl
theorem nM_X8_120_l : Cond.methodLinkNest RX8 120 yX0_lineOf "MarginBooks" ∈ lw_tbl := tb2 (i := 196) rfl
theorem gI_X0_lineOf : Cond.instanceMethod yX0_lineOf ∈ GW := GW_of (tb2 (i := 198) rfl) rfl
theorem gC_X0_lineOf : Cond.code yX0_lineOf cX0_lineOf 4 (Option.some .int) ∈ GW := GW_of (tb2 (i := 199) rfl) rfl
theorem gM_X0_52 : Cond.methodLink RX0 52 yX0_weightOf ∈ GW := GW_of (tb2 (i := 200) rfl) rfl
theorem gI_X0_weightOf : Cond.instanceMethod yX0_weightOf ∈ GW := GW_of (tb2 (i := 202) rfl) rfl
theorem gC_X0_weightOf : Cond.code yX0_weightOf cX0_weightOf 4 (Option.some .int) ∈ GW := GW_of (tb2 (i := 203) rfl) rfl
theorem gM_L_32 : Cond.methodLink RL 32 yX8_scribe ∈ GW := GW_of (tb2 (i := 204) rfl) rfl
theorem gI_X8_scribe : Cond.instanceMethod yX8_scribe ∈ GW := GW_of (tb2 (i := 205) rfl) rfl
theorem gE_X8_scribe : Cond.selects RX8 yX8_scribe yX8_scribe ∈ GW := GW_of (tb2 (i := 206) rfl) rfl
theorem gC_X8_scribe : Cond.code yX8_scribe cX8_scribe 4 (Option.some .int) ∈ GW := GW_of (tb2 (i := 207) rfl) rfl
theorem nM_X8_124_l : Cond.methodLinkNest RX8 124 yX0_hasScribe "MarginBooks" ∈ lw_tbl := tb2 (i := 208) rfl
theorem nM_X8_127_l : Cond.methodLinkNest RX8 127 yX0_turnOf "MarginBooks" ∈ lw_tbl := tb2 (i := 209) rfl
theorem nM_X8_131_l : Cond.methodLinkNest RX8 131 yX0_bentOf "MarginBooks" ∈ lw_tbl := tb2 (i := 210) rfl
theorem nM_X8_134_l : Cond.methodLinkNest RX8 134 yX6_isReleased "MarginBooks" ∈ lw_tbl := tb2 (i := 211) rfl
theorem gI_X6_isReleased : Cond.instanceMethod yX6_isReleased ∈ GW := GW_of (tb2 (i := 213) rfl) rfl
theorem gC_X6_isReleased : Cond.code yX6_isReleased cX6_isReleased 2 (Option.some .boolean) ∈ GW := GW_of (tb2 (i := 214) rfl) rfl
theorem gM_X6_28 : Cond.methodLink RX6 28 yX6_released ∈ GW := GW_of (tb2 (i := 215) rfl) rfl
theorem gI_X6_released : Cond.instanceMethod yX6_released ∈ GW := GW_of (tb2 (i := 217) rfl) rfl
theorem gC_X6_released : Cond.code yX6_released cX6_released 1 (Option.some .int) ∈ GW := GW_of (tb2 (i := 218) rfl) rfl
theorem nM_X8_137_l : Cond.methodLinkNest RX8 137 yX6_timesOf "MarginBooks" ∈ lw_tbl := tb2 (i := 219) rfl
theorem gI_X6_timesOf : Cond.instanceMethod yX6_timesOf ∈ GW := GW_of (tb2 (i := 221) rfl) rfl
theorem gC_X6_timesOf : Cond.code yX6_timesOf cX6_timesOf 2 (Option.some .int) ∈ GW := GW_of (tb2 (i := 222) rfl) rfl
theorem nM_X8_140_l : Cond.methodLinkNest RX8 140 yX0_unlikeLines "MarginBooks" ∈ lw_tbl := tb2 (i := 223) rfl
theorem nM_X8_143_l : Cond.methodLinkNest RX8 143 yX0_isConvinced "MarginBooks" ∈ lw_tbl := tb2 (i := 224) rfl
theorem nM_X8_147_l : Cond.methodLinkNest RX8 147 yX0_comesRound "MarginBooks" ∈ lw_tbl := tb2 (i := 225) rfl
theorem gI_X0_comesRound : Cond.instanceMethod yX0_comesRound ∈ GW := GW_of (tb2 (i := 227) rfl) rfl
theorem gC_X0_comesRound : Cond.code yX0_comesRound cX0_comesRound 5 (Option.some .int) ∈ GW := GW_of (tb2 (i := 228) rfl) rfl
theorem gM_X0_70 : Cond.methodLink RX0 70 yX0_becomes ∈ GW := GW_of (tb2 (i := 229) rfl) rfl
theorem gM_L_36 : Cond.methodLink RL 36 yX8_says ∈ GW := GW_of (tb2 (i := 230) rfl) rfl
theorem gI_X8_says : Cond.instanceMethod yX8_says ∈ GW := GW_of (tb2 (i := 231) rfl) rfl
theorem gE_X8_says : Cond.selects RX8 yX8_says yX8_says ∈ GW := GW_of (tb2 (i := 232) rfl) rfl
theorem gC_X8_says : Cond.code yX8_says cX8_says 3 (Option.some .int) ∈ GW := GW_of (tb2 (i := 233) rfl) rfl
theorem nM_X8_150_l : Cond.methodLinkNest RX8 150 yX0_hasOpinion "MarginBooks" ∈ lw_tbl := tb2 (i := 234) rfl
theorem nM_X8_153_l : Cond.methodLinkNest RX8 153 yX0_saidBy "MarginBooks" ∈ lw_tbl := tb2 (i := 235) rfl
theorem gM_L_40 : Cond.methodLink RL 40 yX8_copies ∈ GW := GW_of (tb2 (i := 236) rfl) rfl
theorem gI_X8_copies : Cond.instanceMethod yX8_copies ∈ GW := GW_of (tb2 (i := 237) rfl) rfl
theorem gE_X8_copies : Cond.selects RX8 yX8_copies yX8_copies ∈ GW := GW_of (tb2 (i := 238) rfl) rfl
theorem gC_X8_copies : Cond.code yX8_copies cX8_copies 3 (Option.some .int) ∈ GW := GW_of (tb2 (i := 239) rfl) rfl
theorem nM_X8_156_l : Cond.methodLinkNest RX8 156 yX6_copiesNow "MarginBooks" ∈ lw_tbl := tb3 (i := 0) rfl
theorem gI_X6_copiesNow : Cond.instanceMethod yX6_copiesNow ∈ GW := GW_of (tb3 (i := 2) rfl) rfl
theorem gC_X6_copiesNow : Cond.code yX6_copiesNow cX6_copiesNow 1 (Option.some .int) ∈ GW := GW_of (tb3 (i := 3) rfl) rfl
theorem nM_X8_159_l : Cond.methodLinkNest RX8 159 yX6_remember "MarginBooks" ∈ lw_tbl := tb3 (i := 4) rfl
theorem gI_X6_remember : Cond.instanceMethod yX6_remember ∈ GW := GW_of (tb3 (i := 6) rfl) rfl
theorem gC_X6_remember : Cond.code yX6_remember cX6_remember 2 none ∈ GW := GW_of (tb3 (i := 7) rfl) rfl
theorem gM_X6_38 : Cond.methodLink RX6 38 yX6_copyRow ∈ GW := GW_of (tb3 (i := 8) rfl) rfl
theorem gI_X6_copyRow : Cond.instanceMethod yX6_copyRow ∈ GW := GW_of (tb3 (i := 10) rfl) rfl
theorem gC_X6_copyRow : Cond.code yX6_copyRow cX6_copyRow 4 none ∈ GW := GW_of (tb3 (i := 11) rfl) rfl
theorem gM_X6_42 : Cond.methodLink RX6 42 arraycopyName ∈ GW := GW_of (tb3 (i := 12) rfl) rfl
theorem gS_arraycopy : Cond.static arraycopyName ∈ GW := GW_of (tb3 (i := 13) rfl) rfl
theorem gZ_arraycopy : Cond.native arraycopyName ∈ GW := GW_of (tb3 (i := 14) rfl) rfl
theorem nM_X8_162_l : Cond.methodLinkNest RX8 162 yX0_becomes "MarginBooks" ∈ lw_tbl := tb3 (i := 15) rfl
theorem nM_X8_165_l : Cond.methodLinkNest RX8 165 yX6_copied "MarginBooks" ∈ lw_tbl := tb3 (i := 16) rfl
theorem gI_X6_copied : Cond.instanceMethod yX6_copied ∈ GW := GW_of (tb3 (i := 18) rfl) rfl
theorem gC_X6_copied : Cond.code yX6_copied cX6_copied 3 none ∈ GW := GW_of (tb3 (i := 19) rfl) rfl
theorem gM_X6_32 : Cond.methodLink RX6 32 yX6_copiesNow ∈ GW := GW_of (tb3 (i := 20) rfl) rfl
theorem gM_X6_35 : Cond.methodLink RX6 35 yX6_timesOf ∈ GW := GW_of (tb3 (i := 21) rfl) rfl
theorem gM_L_44 : Cond.methodLink RL 44 yX8_errs ∈ GW := GW_of (tb3 (i := 22) rfl) rfl
theorem gI_X8_errs : Cond.instanceMethod yX8_errs ∈ GW := GW_of (tb3 (i := 23) rfl) rfl
theorem gE_X8_errs : Cond.selects RX8 yX8_errs yX8_errs ∈ GW := GW_of (tb3 (i := 24) rfl) rfl
theorem gC_X8_errs : Cond.code yX8_errs cX8_errs 5 (Option.some .int) ∈ GW := GW_of (tb3 (i := 25) rfl) rfl
theorem nM_X8_169_l : Cond.methodLinkNest RX8 169 yX0_withLine "MarginBooks" ∈ lw_tbl := tb3 (i := 26) rfl
theorem gI_X0_withLine : Cond.instanceMethod yX0_withLine ∈ GW := GW_of (tb3 (i := 28) rfl) rfl
theorem gC_X0_withLine : Cond.code yX0_withLine cX0_withLine 4 (Option.some .int) ∈ GW := GW_of (tb3 (i := 29) rfl) rfl
theorem gM_X0_55 : Cond.methodLink RX0 55 yX0_lineOf ∈ GW := GW_of (tb3 (i := 30) rfl) rfl
theorem nM_X8_173_l : Cond.methodLinkNest RX8 173 yX6_setBook "MarginBooks" ∈ lw_tbl := tb3 (i := 31) rfl
theorem gI_X6_setBook : Cond.instanceMethod yX6_setBook ∈ GW := GW_of (tb3 (i := 33) rfl) rfl
theorem gC_X6_setBook : Cond.code yX6_setBook cX6_setBook 2 none ∈ GW := GW_of (tb3 (i := 34) rfl) rfl
theorem gM_L_48 : Cond.methodLink RL 48 yX8_releases ∈ GW := GW_of (tb3 (i := 35) rfl) rfl
theorem gI_X8_releases : Cond.instanceMethod yX8_releases ∈ GW := GW_of (tb3 (i := 36) rfl) rfl
theorem gE_X8_releases : Cond.selects RX8 yX8_releases yX8_releases ∈ GW := GW_of (tb3 (i := 37) rfl) rfl
theorem gC_X8_releases : Cond.code yX8_releases cX8_releases 3 (Option.some .int) ∈ GW := GW_of (tb3 (i := 38) rfl) rfl
theorem nM_X8_176_l : Cond.methodLinkNest RX8 176 yX6_turnReleased "MarginBooks" ∈ lw_tbl := tb3 (i := 39) rfl
theorem gI_X6_turnReleased : Cond.instanceMethod yX6_turnReleased ∈ GW := GW_of (tb3 (i := 41) rfl) rfl
theorem gC_X6_turnReleased : Cond.code yX6_turnReleased cX6_turnReleased 2 none ∈ GW := GW_of (tb3 (i := 42) rfl) rfl
theorem nM_X8_179_l : Cond.methodLinkNest RX8 179 yX6_released "MarginBooks" ∈ lw_tbl := tb3 (i := 43) rfl
theorem gM_X8_182 : Cond.methodLink RX8 182 yJ6_bitCount_0f7a4 ∈ GW := GW_of (tb3 (i := 44) rfl) rfl
theorem gM_L_52 : Cond.methodLink RL 52 yX8_aims ∈ GW := GW_of (tb3 (i := 45) rfl) rfl
theorem gI_X8_aims : Cond.instanceMethod yX8_aims ∈ GW := GW_of (tb3 (i := 46) rfl) rfl
theorem gE_X8_aims : Cond.selects RX8 yX8_aims yX8_aims ∈ GW := GW_of (tb3 (i := 47) rfl) rfl
theorem gC_X8_aims : Cond.code yX8_aims cX8_aims 4 (Option.some .int) ∈ GW := GW_of (tb3 (i := 48) rfl) rfl
theorem gM_L_56 : Cond.methodLink RL 56 yX8_undo ∈ GW := GW_of (tb3 (i := 49) rfl) rfl
theorem gI_X8_undo : Cond.instanceMethod yX8_undo ∈ GW := GW_of (tb3 (i := 50) rfl) rfl
theorem gE_X8_undo : Cond.selects RX8 yX8_undo yX8_undo ∈ GW := GW_of (tb3 (i := 51) rfl) rfl
theorem gC_X8_undo : Cond.code yX8_undo cX8_undo 1 (Option.some .int) ∈ GW := GW_of (tb3 (i := 52) rfl) rfl
theorem nM_X8_187_l : Cond.methodLinkNest RX8 187 yX6_takeBack "MarginBooks" ∈ lw_tbl := tb3 (i := 53) rfl
theorem gI_X6_takeBack : Cond.instanceMethod yX6_takeBack ∈ GW := GW_of (tb3 (i := 55) rfl) rfl
theorem gC_X6_takeBack : Cond.code yX6_takeBack cX6_takeBack 1 (Option.some .boolean) ∈ GW := GW_of (tb3 (i := 56) rfl) rfl
theorem gM_L_60 : Cond.methodLink RL 60 yX8_now ∈ GW := GW_of (tb3 (i := 57) rfl) rfl
theorem gI_X8_now : Cond.instanceMethod yX8_now ∈ GW := GW_of (tb3 (i := 58) rfl) rfl
theorem gE_X8_now : Cond.selects RX8 yX8_now yX8_now ∈ GW := GW_of (tb3 (i := 59) rfl) rfl
theorem gC_X8_now : Cond.code yX8_now cX8_now 2 (Option.some .int) ∈ GW := GW_of (tb3 (i := 60) rfl) rfl
theorem gM_X8_194 : Cond.methodLink RX8 194 yX8_convinced ∈ GW := GW_of (tb3 (i := 61) rfl) rfl
theorem gI_X8_convinced : Cond.instanceMethod yX8_convinced ∈ GW := GW_of (tb3 (i := 63) rfl) rfl
theorem gC_X8_convinced : Cond.code yX8_convinced cX8_convinced 3 (Option.some .int) ∈ GW := GW_of (tb3 (i := 64) rfl) rfl
theorem nM_X8_197_l : Cond.methodLinkNest RX8 197 yX7_lastCopiers "MarginBooks" ∈ lw_tbl := tb3 (i := 65) rfl
theorem gI_X7_lastCopiers : Cond.instanceMethod yX7_lastCopiers ∈ GW := GW_of (tb3 (i := 67) rfl) rfl
theorem gC_X7_lastCopiers : Cond.code yX7_lastCopiers cX7_lastCopiers 4 (Option.some .int) ∈ GW := GW_of (tb3 (i := 68) rfl) rfl
theorem gM_X7_59 : Cond.methodLink RX7 59 yX7_countBefore ∈ GW := GW_of (tb3 (i := 69) rfl) rfl
theorem gI_X7_countBefore : Cond.instanceMethod yX7_countBefore ∈ GW := GW_of (tb3 (i := 71) rfl) rfl
theorem gC_X7_countBefore : Cond.code yX7_countBefore cX7_countBefore 5 (Option.some .int) ∈ GW := GW_of (tb3 (i := 72) rfl) rfl
theorem nM_X7_40_l : Cond.methodLinkNest RX7 40 yX1_copyBy "MarginBooks" ∈ lw_tbl := tb3 (i := 73) rfl
theorem gI_X1_copyBy : Cond.instanceMethod yX1_copyBy ∈ GW := GW_of (tb3 (i := 75) rfl) rfl
theorem gC_X1_copyBy : Cond.code yX1_copyBy cX1_copyBy 3 (Option.some .int) ∈ GW := GW_of (tb3 (i := 76) rfl) rfl
theorem nM_X8_200_l : Cond.methodLinkNest RX8 200 yX7_sameLines "MarginBooks" ∈ lw_tbl := tb3 (i := 77) rfl
theorem gI_X7_sameLines : Cond.instanceMethod yX7_sameLines ∈ GW := GW_of (tb3 (i := 79) rfl) rfl
theorem gC_X7_sameLines : Cond.code yX7_sameLines cX7_sameLines 7 (Option.some .int) ∈ GW := GW_of (tb3 (i := 80) rfl) rfl
theorem gM_X7_67 : Cond.methodLink RX7 67 yX7_alikeLines ∈ GW := GW_of (tb3 (i := 81) rfl) rfl
theorem gS_X7_alikeLines : Cond.static yX7_alikeLines ∈ GW := GW_of (tb3 (i := 82) rfl) rfl
theorem gC_X7_alikeLines : Cond.code yX7_alikeLines cX7_alikeLines 5 (Option.some .int) ∈ GW := GW_of (tb3 (i := 83) rfl) rfl
theorem nM_X7_71_l : Cond.methodLinkNest RX7 71 yX0_lineOf "MarginBooks" ∈ lw_tbl := tb3 (i := 84) rfl
theorem nM_X8_204_l : Cond.methodLinkNest RX8 204 yX2_fittingScribes "MarginBooks" ∈ lw_tbl := tb3 (i := 85) rfl
theorem gI_X2_fittingScribes : Cond.instanceMethod yX2_fittingScribes ∈ GW := GW_of (tb3 (i := 87) rfl) rfl
theorem gC_X2_fittingScribes : Cond.code yX2_fittingScribes cX2_fittingScribes 4 (Option.some .int) ∈ GW := GW_of (tb3 (i := 88) rfl) rfl
theorem nM_X2_44_l : Cond.methodLinkNest RX2 44 yX0_turnOf "MarginBooks" ∈ lw_tbl := tb3 (i := 89) rfl
theorem nM_X2_47_l : Cond.methodLinkNest RX2 47 yX0_bentOf "MarginBooks" ∈ lw_tbl := tb3 (i := 90) rfl
theorem gM_X2_27 : Cond.methodLink RX2 27 yX2_fits ∈ GW := GW_of (tb3 (i := 91) rfl) rfl
theorem gI_X2_fits : Cond.instanceMethod yX2_fits ∈ GW := GW_of (tb3 (i := 93) rfl) rfl
theorem gC_X2_fits : Cond.code yX2_fits cX2_fits 5 (Option.some .boolean) ∈ GW := GW_of (tb3 (i := 94) rfl) rfl
theorem nM_X2_22_l : Cond.methodLinkNest RX2 22 yX0_said "MarginBooks" ∈ lw_tbl := tb3 (i := 95) rfl
theorem gM_L_64 : Cond.methodLink RL 64 yX8_behind ∈ GW := GW_of (tb3 (i := 96) rfl) rfl
theorem gI_X8_behind : Cond.instanceMethod yX8_behind ∈ GW := GW_of (tb3 (i := 97) rfl) rfl
theorem gE_X8_behind : Cond.selects RX8 yX8_behind yX8_behind ∈ GW := GW_of (tb3 (i := 98) rfl) rfl
theorem gC_X8_behind : Cond.code yX8_behind cX8_behind 3 (Option.some .int) ∈ GW := GW_of (tb3 (i := 99) rfl) rfl
theorem gM_X8_213 : Cond.methodLink RX8 213 yX8_bought ∈ GW := GW_of (tb3 (i := 100) rfl) rfl
theorem gI_X8_bought : Cond.instanceMethod yX8_bought ∈ GW := GW_of (tb3 (i := 102) rfl) rfl
theorem gC_X8_bought : Cond.code yX8_bought cX8_bought 1 (Option.some .int) ∈ GW := GW_of (tb3 (i := 103) rfl) rfl
theorem nM_X8_210_l : Cond.methodLinkNest RX8 210 yX0_allScribes "MarginBooks" ∈ lw_tbl := tb3 (i := 104) rfl
theorem gI_X0_allScribes : Cond.instanceMethod yX0_allScribes ∈ GW := GW_of (tb3 (i := 106) rfl) rfl
theorem gC_X0_allScribes : Cond.code yX0_allScribes cX0_allScribes 1 (Option.some .int) ∈ GW := GW_of (tb3 (i := 107) rfl) rfl
theorem nM_X8_216_l : Cond.methodLinkNest RX8 216 yX5_run "MarginBooks" ∈ lw_tbl := tb3 (i := 108) rfl
theorem gI_X5_run : Cond.instanceMethod yX5_run ∈ GW := GW_of (tb3 (i := 110) rfl) rfl
theorem gC_X5_run : Cond.code yX5_run cX5_run 7 none ∈ GW := GW_of (tb3 (i := 111) rfl) rfl
theorem gM_X5_29 : Cond.methodLink RX5 29 yX5_boughtFrom ∈ GW := GW_of (tb3 (i := 112) rfl) rfl
theorem gS_X5_boughtFrom : Cond.static yX5_boughtFrom ∈ GW := GW_of (tb3 (i := 113) rfl) rfl
theorem gC_X5_boughtFrom : Cond.code yX5_boughtFrom cX5_boughtFrom 4 (Option.some .int) ∈ GW := GW_of (tb3 (i := 114) rfl) rfl
theorem nM_X5_33_l : Cond.methodLinkNest RX5 33 yX1_copyBy "MarginBooks" ∈ lw_tbl := tb3 (i := 115) rfl
theorem gM_L_68 : Cond.methodLink RL 68 yX8_ends ∈ GW := GW_of (tb3 (i := 116) rfl) rfl
theorem gI_X8_ends : Cond.instanceMethod yX8_ends ∈ GW := GW_of (tb3 (i := 117) rfl) rfl
theorem gE_X8_ends : Cond.selects RX8 yX8_ends yX8_ends ∈ GW := GW_of (tb3 (i := 118) rfl) rfl
theorem gC_X8_ends : Cond.code yX8_ends cX8_ends 2 (Option.some .int) ∈ GW := GW_of (tb3 (i := 119) rfl) rfl
theorem nM_X8_222_l : Cond.methodLinkNest RX8 222 yX5_runToEnd "MarginBooks" ∈ lw_tbl := tb3 (i := 120) rfl
theorem gI_X5_runToEnd : Cond.instanceMethod yX5_runToEnd ∈ GW := GW_of (tb3 (i := 122) rfl) rfl
theorem gC_X5_runToEnd : Cond.code yX5_runToEnd cX5_runToEnd 3 none ∈ GW := GW_of (tb3 (i := 123) rfl) rfl
theorem gM_X5_44 : Cond.methodLink RX5 44 yX5_run ∈ GW := GW_of (tb3 (i := 124) rfl) rfl
theorem gM_L_72 : Cond.methodLink RL 72 yX8_lasts ∈ GW := GW_of (tb3 (i := 125) rfl) rfl
theorem gI_X8_lasts : Cond.instanceMethod yX8_lasts ∈ GW := GW_of (tb3 (i := 126) rfl) rfl
theorem gE_X8_lasts : Cond.selects RX8 yX8_lasts yX8_lasts ∈ GW := GW_of (tb3 (i := 127) rfl) rfl
theorem gC_X8_lasts : Cond.code yX8_lasts cX8_lasts 3 (Option.some .int) ∈ GW := GW_of (tb3 (i := 128) rfl) rfl
theorem nM_X8_237_l : Cond.methodLinkNest RX8 237 yX5_longestBook "MarginBooks" ∈ lw_tbl := tb3 (i := 129) rfl
theorem gI_X5_longestBook : Cond.instanceMethod yX5_longestBook ∈ GW := GW_of (tb3 (i := 131) rfl) rfl
theorem gC_X5_longestBook : Cond.code yX5_longestBook cX5_longestBook 5 (Option.some .int) ∈ GW := GW_of (tb3 (i := 132) rfl) rfl
theorem gM_X5_48 : Cond.methodLink RX5 48 yX5_runToEnd ∈ GW := GW_of (tb3 (i := 133) rfl) rfl
theorem gM_L_76 : Cond.methodLink RL 76 yX8_buy ∈ GW := GW_of (tb3 (i := 134) rfl) rfl
theorem gI_X8_buy : Cond.instanceMethod yX8_buy ∈ GW := GW_of (tb3 (i := 135) rfl) rfl
theorem gE_X8_buy : Cond.selects RX8 yX8_buy yX8_buy ∈ GW := GW_of (tb3 (i := 136) rfl) rfl
theorem gC_X8_buy : Cond.code yX8_buy cX8_buy 2 (Option.some .int) ∈ GW := GW_of (tb3 (i := 137) rfl) rfl
theorem nM_X8_240_l : Cond.methodLinkNest RX8 240 yX5_fewestToBuy "MarginBooks" ∈ lw_tbl := tb3 (i := 138) rfl
theorem gI_X5_fewestToBuy : Cond.instanceMethod yX5_fewestToBuy ∈ GW := GW_of (tb3 (i := 140) rfl) rfl
theorem gC_X5_fewestToBuy : Cond.code yX5_fewestToBuy cX5_fewestToBuy 7 (Option.some .int) ∈ GW := GW_of (tb3 (i := 141) rfl) rfl
theorem gM_X5_52 : Cond.methodLink RX5 52 yJ6_bitCount_0f7a4 ∈ GW := GW_of (tb3 (i := 142) rfl) rfl
theorem gM_X5_58 : Cond.methodLink RX5 58 yX5_reaches ∈ GW := GW_of (tb3 (i := 143) rfl) rfl
theorem gI_X5_reaches : Cond.instanceMethod yX5_reaches ∈ GW := GW_of (tb3 (i := 145) rfl) rfl
theorem gC_X5_reaches : Cond.code yX5_reaches cX5_reaches 4 (Option.some .boolean) ∈ GW := GW_of (tb3 (i := 146) rfl) rfl
theorem gM_L_80 : Cond.methodLink RL 80 yX8_odds ∈ GW := GW_of (tb3 (i := 147) rfl) rfl
theorem gI_X8_odds : Cond.instanceMethod yX8_odds ∈ GW := GW_of (tb3 (i := 148) rfl) rfl
theorem gE_X8_odds : Cond.selects RX8 yX8_odds yX8_odds ∈ GW := GW_of (tb3 (i := 149) rfl) rfl
theorem gC_X8_odds : Cond.code yX8_odds cX8_odds 6 (Option.some .int) ∈ GW := GW_of (tb3 (i := 150) rfl) rfl
theorem nM_X8_244_l : Cond.methodLinkNest RX8 244 yX5_reaches "MarginBooks" ∈ lw_tbl := tb3 (i := 151) rfl
theorem gM_X8_248 : Cond.methodLink RX8 248 yX8_commonDivisor ∈ GW := GW_of (tb3 (i := 152) rfl) rfl
theorem gS_X8_commonDivisor : Cond.static yX8_commonDivisor ∈ GW := GW_of (tb3 (i := 153) rfl) rfl
theorem gC_X8_commonDivisor : Cond.code yX8_commonDivisor cX8_commonDivisor 6 (Option.some .int) ∈ GW := GW_of (tb3 (i := 154) rfl) rfl
theorem gM_X8_251 : Cond.methodLink RX8 251 yX8_power ∈ GW := GW_of (tb3 (i := 155) rfl) rfl
theorem gS_X8_power : Cond.static yX8_power ∈ GW := GW_of (tb3 (i := 156) rfl) rfl
theorem gC_X8_power : Cond.code yX8_power cX8_power 4 (Option.some .int) ∈ GW := GW_of (tb3 (i := 157) rfl) rfl
theorem gM_L_85 : Cond.methodLink RL 85 yX8_way ∈ GW := GW_of (tb3 (i := 158) rfl) rfl
theorem gI_X8_way : Cond.instanceMethod yX8_way ∈ GW := GW_of (tb3 (i := 159) rfl) rfl
theorem gE_X8_way : Cond.selects RX8 yX8_way yX8_way ∈ GW := GW_of (tb3 (i := 160) rfl) rfl
theorem gC_X8_way : Cond.code yX8_way cX8_way 2 (Option.some .int) ∈ GW := GW_of (tb3 (i := 161) rfl) rfl
theorem nM_X8_254_l : Cond.methodLinkNest RX8 254 yX7_search "MarginBooks" ∈ lw_tbl := tb3 (i := 162) rfl
theorem gI_X7_search : Cond.instanceMethod yX7_search ∈ GW := GW_of (tb3 (i := 164) rfl) rfl
theorem gC_X7_search : Cond.code yX7_search cX7_search 7 none ∈ GW := GW_of (tb3 (i := 165) rfl) rfl
theorem gM_X7_32 : Cond.methodLink RX7 32 yX7_find ∈ GW := GW_of (tb3 (i := 166) rfl) rfl
theorem gI_X7_find : Cond.instanceMethod yX7_find ∈ GW := GW_of (tb3 (i := 168) rfl) rfl
theorem gC_X7_find : Cond.code yX7_find cX7_find 5 none ∈ GW := GW_of (tb3 (i := 169) rfl) rfl
theorem gM_X7_50 : Cond.methodLink RX7 50 yX7_isBook ∈ GW := GW_of (tb3 (i := 170) rfl) rfl
theorem gS_X7_isBook : Cond.static yX7_isBook ∈ GW := GW_of (tb3 (i := 171) rfl) rfl
theorem gC_X7_isBook : Cond.code yX7_isBook cX7_isBook 1 (Option.some .boolean) ∈ GW := GW_of (tb3 (i := 172) rfl) rfl
theorem gM_X7_36 : Cond.methodLink RX7 36 yX7_isFound ∈ GW := GW_of (tb3 (i := 173) rfl) rfl
theorem gI_X7_isFound : Cond.instanceMethod yX7_isFound ∈ GW := GW_of (tb3 (i := 175) rfl) rfl
theorem gC_X7_isFound : Cond.code yX7_isFound cX7_isFound 2 (Option.some .boolean) ∈ GW := GW_of (tb3 (i := 176) rfl) rfl
theorem gM_X7_46 : Cond.methodLink RX7 46 yX7_distanceOf ∈ GW := GW_of (tb3 (i := 177) rfl) rfl
theorem gI_X7_distanceOf : Cond.instanceMethod yX7_distanceOf ∈ GW := GW_of (tb3 (i := 179) rfl) rfl
theorem gC_X7_distanceOf : Cond.code yX7_distanceOf cX7_distanceOf 2 (Option.some .int) ∈ GW := GW_of (tb3 (i := 180) rfl) rfl
theorem nM_X8_257_l : Cond.methodLinkNest RX8 257 yX7_fewestCopies "MarginBooks" ∈ lw_tbl := tb3 (i := 181) rfl
theorem gI_X7_fewestCopies : Cond.instanceMethod yX7_fewestCopies ∈ GW := GW_of (tb3 (i := 183) rfl) rfl
theorem gC_X7_fewestCopies : Cond.code yX7_fewestCopies cX7_fewestCopies 2 (Option.some .int) ∈ GW := GW_of (tb3 (i := 184) rfl) rfl
theorem nM_X8_260_l : Cond.methodLinkNest RX8 260 yX7_scribeOfCopy "MarginBooks" ∈ lw_tbl := tb3 (i := 185) rfl
theorem gI_X7_scribeOfCopy : Cond.instanceMethod yX7_scribeOfCopy ∈ GW := GW_of (tb3 (i := 187) rfl) rfl
theorem gC_X7_scribeOfCopy : Cond.code yX7_scribeOfCopy cX7_scribeOfCopy 5 (Option.some .int) ∈ GW := GW_of (tb3 (i := 188) rfl) rfl
theorem gM_L_89 : Cond.methodLink RL 89 yX8_from ∈ GW := GW_of (tb3 (i := 189) rfl) rfl
theorem gI_X8_from : Cond.instanceMethod yX8_from ∈ GW := GW_of (tb3 (i := 190) rfl) rfl
theorem gE_X8_from : Cond.selects RX8 yX8_from yX8_from ∈ GW := GW_of (tb3 (i := 191) rfl) rfl
theorem gC_X8_from : Cond.code yX8_from cX8_from 2 (Option.some .int) ∈ GW := GW_of (tb3 (i := 192) rfl) rfl
theorem nM_X8_263_l : Cond.methodLinkNest RX8 263 yX7_countBefore "MarginBooks" ∈ lw_tbl := tb3 (i := 193) rfl
theorem gM_L_93 : Cond.methodLink RL 93 yX8_saw ∈ GW := GW_of (tb3 (i := 194) rfl) rfl
theorem gI_X8_saw : Cond.instanceMethod yX8_saw ∈ GW := GW_of (tb3 (i := 195) rfl) rfl
theorem gE_X8_saw : Cond.selects RX8 yX8_saw yX8_saw ∈ GW := GW_of (tb3 (i := 196) rfl) rfl
theorem gC_X8_saw : Cond.code yX8_saw cX8_saw 3 (Option.some .int) ∈ GW := GW_of (tb3 (i := 197) rfl) rfl
theorem nM_X8_266_l : Cond.methodLinkNest RX8 266 yX2_add "MarginBooks" ∈ lw_tbl := tb3 (i := 198) rfl
theorem gI_X2_add : Cond.instanceMethod yX2_add ∈ GW := GW_of (tb3 (i := 200) rfl) rfl
theorem gC_X2_add : Cond.code yX2_add cX2_add 3 (Option.some .boolean) ∈ GW := GW_of (tb3 (i := 201) rfl) rfl
theorem gM_L_97 : Cond.methodLink RL 97 yX8_forget ∈ GW := GW_of (tb3 (i := 202) rfl) rfl
theorem gI_X8_forget : Cond.instanceMethod yX8_forget ∈ GW := GW_of (tb3 (i := 203) rfl) rfl
theorem gE_X8_forget : Cond.selects RX8 yX8_forget yX8_forget ∈ GW := GW_of (tb3 (i := 204) rfl) rfl
theorem gC_X8_forget : Cond.code yX8_forget cX8_forget 1 (Option.some .int) ∈ GW := GW_of (tb3 (i := 205) rfl) rfl
theorem gM_L_101 : Cond.methodLink RL 101 yX8_fit ∈ GW := GW_of (tb3 (i := 206) rfl) rfl
theorem gI_X8_fit : Cond.instanceMethod yX8_fit ∈ GW := GW_of (tb3 (i := 207) rfl) rfl
theorem gE_X8_fit : Cond.selects RX8 yX8_fit yX8_fit ∈ GW := GW_of (tb3 (i := 208) rfl) rfl
theorem gC_X8_fit : Cond.code yX8_fit cX8_fit 2 (Option.some .int) ∈ GW := GW_of (tb3 (i := 209) rfl) rfl
theorem nM_X8_274_l : Cond.methodLinkNest RX8 274 yX2_countFits "MarginBooks" ∈ lw_tbl := tb3 (i := 210) rfl
theorem gI_X2_countFits : Cond.instanceMethod yX2_countFits ∈ GW := GW_of (tb3 (i := 212) rfl) rfl
theorem gC_X2_countFits : Cond.code yX2_countFits cX2_countFits 5 (Option.some .int) ∈ GW := GW_of (tb3 (i := 213) rfl) rfl
theorem nM_X8_277_l : Cond.methodLinkNest RX8 277 yX2_firstFit "MarginBooks" ∈ lw_tbl := tb3 (i := 214) rfl
theorem gI_X2_firstFit : Cond.instanceMethod yX2_firstFit ∈ GW := GW_of (tb3 (i := 216) rfl) rfl
theorem gC_X2_firstFit : Cond.code yX2_firstFit cX2_firstFit 4 (Option.some .int) ∈ GW := GW_of (tb3 (i := 217) rfl) rfl
theorem nM_X8_280_l : Cond.methodLinkNest RX8 280 yX2_mostTelling "MarginBooks" ∈ lw_tbl := tb3 (i := 218) rfl
theorem gI_X2_mostTelling : Cond.instanceMethod yX2_mostTelling ∈ GW := GW_of (tb3 (i := 220) rfl) rfl
theorem gC_X2_mostTelling : Cond.code yX2_mostTelling cX2_mostTelling 6 (Option.some .int) ∈ GW := GW_of (tb3 (i := 221) rfl) rfl
theorem gM_X2_31 : Cond.methodLink RX2 31 yX2_answersTo ∈ GW := GW_of (tb3 (i := 222) rfl) rfl
theorem gI_X2_answersTo : Cond.instanceMethod yX2_answersTo ∈ GW := GW_of (tb3 (i := 224) rfl) rfl
theorem gC_X2_answersTo : Cond.code yX2_answersTo cX2_answersTo 6 (Option.some .int) ∈ GW := GW_of (tb3 (i := 225) rfl) rfl
theorem gM_X2_35 : Cond.methodLink RX2 35 yJ6_bitCount_0f7a4 ∈ GW := GW_of (tb3 (i := 226) rfl) rfl
theorem gM_L_105 : Cond.methodLink RL 105 yX8_mark ∈ GW := GW_of (tb3 (i := 227) rfl) rfl
theorem gI_X8_mark : Cond.instanceMethod yX8_mark ∈ GW := GW_of (tb3 (i := 228) rfl) rfl
theorem gE_X8_mark : Cond.selects RX8 yX8_mark yX8_mark ∈ GW := GW_of (tb3 (i := 229) rfl) rfl
theorem gC_X8_mark : Cond.code yX8_mark cX8_mark 3 (Option.some .int) ∈ GW := GW_of (tb3 (i := 230) rfl) rfl
theorem nM_X8_283_l : Cond.methodLinkNest RX8 283 yX3_isKind "MarginBooks" ∈ lw_tbl := tb3 (i := 231) rfl
theorem gS_X3_isKind : Cond.static yX3_isKind ∈ GW := GW_of (tb3 (i := 232) rfl) rfl
theorem gC_X3_isKind : Cond.code yX3_isKind cX3_isKind 1 (Option.some .boolean) ∈ GW := GW_of (tb3 (i := 233) rfl) rfl
theorem gK_X8_286 : Cond.constant RX8 286 (-1000000) ∈ GW := GW_of (tb3 (i := 234) rfl) rfl
theorem nM_X8_300_l : Cond.methodLinkNest RX8 300 yX3_ask "MarginBooks" ∈ lw_tbl := tb3 (i := 235) rfl
theorem gI_X3_ask : Cond.instanceMethod yX3_ask ∈ GW := GW_of (tb3 (i := 237) rfl) rfl
theorem gC_X3_ask : Cond.code yX3_ask cX3_ask 4 (Option.some .int) ∈ GW := GW_of (tb3 (i := 238) rfl) rfl
theorem gM_X3_9 : Cond.methodLink RX3 9 yX3_isKind ∈ GW := GW_of (tb3 (i := 239) rfl) rfl
theorem gF_X3_17 : Cond.fieldLink RX3 17 "MarginBooks$Marks" "TRACED" "[I" ∈ GW := GW_of (tb4 (i := 0) rfl) rfl
theorem nX_X3_TRACED_l : Cond.laysStatic RX3 "TRACED" "[I" ∈ lw_tbl := tb4 (i := 1) rfl
theorem gF_X3_21 : Cond.fieldLink RX3 21 "MarginBooks$Marks" "ABOVE" "[I" ∈ GW := GW_of (tb4 (i := 2) rfl) rfl
theorem nX_X3_ABOVE_l : Cond.laysStatic RX3 "ABOVE" "[I" ∈ lw_tbl := tb4 (i := 3) rfl
theorem gM_X3_24 : Cond.methodLink RX3 24 yX3_ask ∈ GW := GW_of (tb4 (i := 4) rfl) rfl
theorem gM_L_109 : Cond.methodLink RL 109 yX8_keep ∈ GW := GW_of (tb4 (i := 5) rfl) rfl
theorem gI_X8_keep : Cond.instanceMethod yX8_keep ∈ GW := GW_of (tb4 (i := 6) rfl) rfl
theorem gE_X8_keep : Cond.selects RX8 yX8_keep yX8_keep ∈ GW := GW_of (tb4 (i := 7) rfl) rfl
theorem gC_X8_keep : Cond.code yX8_keep cX8_keep 2 (Option.some .int) ∈ GW := GW_of (tb4 (i := 8) rfl) rfl
theorem nM_X8_303_l : Cond.methodLinkNest RX8 303 yX6_become "MarginBooks" ∈ lw_tbl := tb4 (i := 9) rfl
theorem gI_X6_become : Cond.instanceMethod yX6_become ∈ GW := GW_of (tb4 (i := 11) rfl) rfl
theorem gC_X6_become : Cond.code yX6_become cX6_become 3 none ∈ GW := GW_of (tb4 (i := 12) rfl) rfl
theorem gM_L_113 : Cond.methodLink RL 113 yX8_back ∈ GW := GW_of (tb4 (i := 13) rfl) rfl
theorem gI_X8_back : Cond.instanceMethod yX8_back ∈ GW := GW_of (tb4 (i := 14) rfl) rfl
theorem gE_X8_back : Cond.selects RX8 yX8_back yX8_back ∈ GW := GW_of (tb4 (i := 15) rfl) rfl
theorem gC_X8_back : Cond.code yX8_back cX8_back 2 (Option.some .int) ∈ GW := GW_of (tb4 (i := 16) rfl) rfl
theorem gM_L_117 : Cond.methodLink RL 117 yX8_count ∈ GW := GW_of (tb4 (i := 17) rfl) rfl
theorem gI_X8_count : Cond.instanceMethod yX8_count ∈ GW := GW_of (tb4 (i := 18) rfl) rfl
theorem gE_X8_count : Cond.selects RX8 yX8_count yX8_count ∈ GW := GW_of (tb4 (i := 19) rfl) rfl
theorem gC_X8_count : Cond.code yX8_count cX8_count 2 (Option.some .int) ∈ GW := GW_of (tb4 (i := 20) rfl) rfl
theorem gM_L_121 : Cond.methodLink RL 121 yX8_trace ∈ GW := GW_of (tb4 (i := 21) rfl) rfl
theorem gI_X8_trace : Cond.instanceMethod yX8_trace ∈ GW := GW_of (tb4 (i := 22) rfl) rfl
theorem gE_X8_trace : Cond.selects RX8 yX8_trace yX8_trace ∈ GW := GW_of (tb4 (i := 23) rfl) rfl
theorem gC_X8_trace : Cond.code yX8_trace cX8_trace 1 (Option.some .long) ∈ GW := GW_of (tb4 (i := 24) rfl) rfl
theorem gL_L_10 : Cond.classLink RL 10 RX9 ∈ GW := GW_of (tb4 (i := 25) rfl) rfl
theorem gT_X9 : Cond.instantiable RX9 26 ∈ GW := GW_of (tb4 (i := 26) rfl) rfl
theorem gM_L_12 : Cond.methodLink RL 12 yX9_init ∈ GW := GW_of (tb4 (i := 27) rfl) rfl
theorem gI_X9_init : Cond.instanceMethod yX9_init ∈ GW := GW_of (tb4 (i := 28) rfl) rfl
theorem gC_X9_init : Cond.code yX9_init cX9_init 1 none ∈ GW := GW_of (tb4 (i := 29) rfl) rfl
theorem gM_X9_1 : Cond.methodLink RX9 1 objectInit ∈ GW := GW_of (tb4 (i := 30) rfl) rfl
theorem gM_X9_51 : Cond.methodLink RX9 51 yX9_plain ∈ GW := GW_of (tb4 (i := 31) rfl) rfl
theorem gI_X9_plain : Cond.instanceMethod yX9_plain ∈ GW := GW_of (tb4 (i := 33) rfl) rfl
theorem gC_X9_plain : Cond.code yX9_plain cX9_plain 1 none ∈ GW := GW_of (tb4 (i := 34) rfl) rfl
theorem gM_X9_54 : Cond.methodLink RX9 54 yX9_takeDraft ∈ GW := GW_of (tb4 (i := 35) rfl) rfl
theorem gI_X9_takeDraft : Cond.instanceMethod yX9_takeDraft ∈ GW := GW_of (tb4 (i := 37) rfl) rfl
theorem gC_X9_takeDraft : Cond.code yX9_takeDraft cX9_takeDraft 2 none ∈ GW := GW_of (tb4 (i := 38) rfl) rfl
theorem gF_X9_187 : Cond.fieldLink RX9 187 "MarginBooksModel" "trace" "J" ∈ GW := GW_of (tb4 (i := 39) rfl) rfl
theorem gF_X9_7 : Cond.fieldLink RX9 7 "MarginBooksModel" "text" "[B" ∈ GW := GW_of (tb4 (i := 40) rfl) rfl
theorem gF_X9_61 : Cond.fieldLink RX9 61 "MarginBooksModel" "typed" "I" ∈ GW := GW_of (tb4 (i := 41) rfl) rfl
theorem gF_X9_13 : Cond.fieldLink RX9 13 "MarginBooksModel" "opinions" "[I" ∈ GW := GW_of (tb4 (i := 42) rfl) rfl
theorem gF_X9_17 : Cond.fieldLink RX9 17 "MarginBooksModel" "lines" "[I" ∈ GW := GW_of (tb4 (i := 43) rfl) rfl
theorem gF_X9_20 : Cond.fieldLink RX9 20 "MarginBooksModel" "draftBook" "[I" ∈ GW := GW_of (tb4 (i := 44) rfl) rfl
theorem gF_X9_23 : Cond.fieldLink RX9 23 "MarginBooksModel" "scribes" "[I" ∈ GW := GW_of (tb4 (i := 45) rfl) rfl
theorem gF_X9_26 : Cond.fieldLink RX9 26 "MarginBooksModel" "turn" "[I" ∈ GW := GW_of (tb4 (i := 46) rfl) rfl
theorem gF_X9_29 : Cond.fieldLink RX9 29 "MarginBooksModel" "bent" "[I" ∈ GW := GW_of (tb4 (i := 47) rfl) rfl
theorem gF_X9_32 : Cond.fieldLink RX9 32 "MarginBooksModel" "need" "[I" ∈ GW := GW_of (tb4 (i := 48) rfl) rfl
theorem gF_X9_91 : Cond.fieldLink RX9 91 "MarginBooksModel" "needTold" "Z" ∈ GW := GW_of (tb4 (i := 49) rfl) rfl
theorem gF_X9_65 : Cond.fieldLink RX9 65 "MarginBooksModel" "at" "I" ∈ GW := GW_of (tb4 (i := 50) rfl) rfl
theorem gF_X9_72 : Cond.fieldLink RX9 72 "MarginBooksModel" "start" "I" ∈ GW := GW_of (tb4 (i := 51) rfl) rfl
theorem gF_X9_78 : Cond.fieldLink RX9 78 "MarginBooksModel" "sort" "I" ∈ GW := GW_of (tb4 (i := 52) rfl) rfl
theorem gF_X9_75 : Cond.fieldLink RX9 75 "MarginBooksModel" "value" "I" ∈ GW := GW_of (tb4 (i := 53) rfl) rfl
theorem gF_X9_81 : Cond.fieldLink RX9 81 "MarginBooksModel" "fault" "I" ∈ GW := GW_of (tb4 (i := 54) rfl) rfl
theorem gF_X9_35 : Cond.fieldLink RX9 35 "MarginBooksModel" "now" "[I" ∈ GW := GW_of (tb4 (i := 55) rfl) rfl
theorem gF_X9_38 : Cond.fieldLink RX9 38 "MarginBooksModel" "isKept" "[Z" ∈ GW := GW_of (tb4 (i := 56) rfl) rfl
theorem gF_X9_99 : Cond.fieldLink RX9 99 "MarginBooksModel" "target" "I" ∈ GW := GW_of (tb4 (i := 57) rfl) rfl
theorem gF_X9_167 : Cond.fieldLink RX9 167 "MarginBooksModel" "went" "I" ∈ GW := GW_of (tb4 (i := 58) rfl) rfl
theorem gF_X9_170 : Cond.fieldLink RX9 170 "MarginBooksModel" "ender" "I" ∈ GW := GW_of (tb4 (i := 59) rfl) rfl
theorem gF_X9_173 : Cond.fieldLink RX9 173 "MarginBooksModel" "had" "I" ∈ GW := GW_of (tb4 (i := 60) rfl) rfl
theorem gF_X9_42 : Cond.fieldLink RX9 42 "MarginBooksModel" "far" "[I" ∈ GW := GW_of (tb4 (i := 61) rfl) rfl
theorem gF_X9_45 : Cond.fieldLink RX9 45 "MarginBooksModel" "marginOf" "[I" ∈ GW := GW_of (tb4 (i := 62) rfl) rfl
theorem gF_X9_48 : Cond.fieldLink RX9 48 "MarginBooksModel" "marginSays" "[I" ∈ GW := GW_of (tb4 (i := 63) rfl) rfl
theorem gF_X9_102 : Cond.fieldLink RX9 102 "MarginBooksModel" "margins" "I" ∈ GW := GW_of (tb4 (i := 64) rfl) rfl
theorem gY_X9_trace : Cond.lays RX9 "MarginBooksModel" "trace" "J" ∈ GW := GW_of (tb4 (i := 65) rfl) rfl
theorem gY_X9_text : Cond.laysFinal RX9 "MarginBooksModel" "text" "[B" ∈ GW := GW_of (tb4 (i := 67) rfl) rfl
theorem gY_X9_typed : Cond.lays RX9 "MarginBooksModel" "typed" "I" ∈ GW := GW_of (tb4 (i := 69) rfl) rfl
theorem gY_X9_opinions : Cond.laysFinal RX9 "MarginBooksModel" "opinions" "[I" ∈ GW := GW_of (tb4 (i := 71) rfl) rfl
theorem gY_X9_lines : Cond.laysFinal RX9 "MarginBooksModel" "lines" "[I" ∈ GW := GW_of (tb4 (i := 73) rfl) rfl
theorem gY_X9_draftBook : Cond.laysFinal RX9 "MarginBooksModel" "draftBook" "[I" ∈ GW := GW_of (tb4 (i := 75) rfl) rfl
theorem gY_X9_scribes : Cond.laysFinal RX9 "MarginBooksModel" "scribes" "[I" ∈ GW := GW_of (tb4 (i := 77) rfl) rfl
theorem gY_X9_turn : Cond.laysFinal RX9 "MarginBooksModel" "turn" "[I" ∈ GW := GW_of (tb4 (i := 79) rfl) rfl
theorem gY_X9_bent : Cond.laysFinal RX9 "MarginBooksModel" "bent" "[I" ∈ GW := GW_of (tb4 (i := 81) rfl) rfl
theorem gY_X9_need : Cond.laysFinal RX9 "MarginBooksModel" "need" "[I" ∈ GW := GW_of (tb4 (i := 83) rfl) rfl
theorem gY_X9_needTold : Cond.lays RX9 "MarginBooksModel" "needTold" "Z" ∈ GW := GW_of (tb4 (i := 85) rfl) rfl
theorem gY_X9_at : Cond.lays RX9 "MarginBooksModel" "at" "I" ∈ GW := GW_of (tb4 (i := 87) rfl) rfl
theorem gY_X9_start : Cond.lays RX9 "MarginBooksModel" "start" "I" ∈ GW := GW_of (tb4 (i := 89) rfl) rfl
theorem gY_X9_sort : Cond.lays RX9 "MarginBooksModel" "sort" "I" ∈ GW := GW_of (tb4 (i := 91) rfl) rfl
theorem gY_X9_value : Cond.lays RX9 "MarginBooksModel" "value" "I" ∈ GW := GW_of (tb4 (i := 93) rfl) rfl
theorem gY_X9_fault : Cond.lays RX9 "MarginBooksModel" "fault" "I" ∈ GW := GW_of (tb4 (i := 95) rfl) rfl
theorem gY_X9_now : Cond.laysFinal RX9 "MarginBooksModel" "now" "[I" ∈ GW := GW_of (tb4 (i := 97) rfl) rfl
theorem gY_X9_isKept : Cond.laysFinal RX9 "MarginBooksModel" "isKept" "[Z" ∈ GW := GW_of (tb4 (i := 99) rfl) rfl
theorem gY_X9_target : Cond.lays RX9 "MarginBooksModel" "target" "I" ∈ GW := GW_of (tb4 (i := 101) rfl) rfl
theorem gY_X9_went : Cond.lays RX9 "MarginBooksModel" "went" "I" ∈ GW := GW_of (tb4 (i := 103) rfl) rfl
theorem gY_X9_ender : Cond.lays RX9 "MarginBooksModel" "ender" "I" ∈ GW := GW_of (tb4 (i := 105) rfl) rfl
theorem gY_X9_had : Cond.lays RX9 "MarginBooksModel" "had" "I" ∈ GW := GW_of (tb4 (i := 107) rfl) rfl
theorem gY_X9_far : Cond.laysFinal RX9 "MarginBooksModel" "far" "[I" ∈ GW := GW_of (tb4 (i := 109) rfl) rfl
theorem gY_X9_marginOf : Cond.laysFinal RX9 "MarginBooksModel" "marginOf" "[I" ∈ GW := GW_of (tb4 (i := 111) rfl) rfl
theorem gY_X9_marginSays : Cond.laysFinal RX9 "MarginBooksModel" "marginSays" "[I" ∈ GW := GW_of (tb4 (i := 113) rfl) rfl
theorem gY_X9_margins : Cond.lays RX9 "MarginBooksModel" "margins" "I" ∈ GW := GW_of (tb4 (i := 115) rfl) rfl
theorem gA_byte : Cond.arrayClass .byte ∈ GW := GW_of (tb4 (i := 118) rfl) rfl
theorem gA_boolean : Cond.arrayClass .boolean ∈ GW := GW_of (tb4 (i := 119) rfl) rfl
theorem gM_L_17 : Cond.methodLink RL 17 yX9_type ∈ GW := GW_of (tb4 (i := 120) rfl) rfl
theorem gI_X9_type : Cond.instanceMethod yX9_type ∈ GW := GW_of (tb4 (i := 121) rfl) rfl
theorem gE_X9_type : Cond.selects RX9 yX9_type yX9_type ∈ GW := GW_of (tb4 (i := 122) rfl) rfl
theorem gC_X9_type : Cond.code yX9_type cX9_type 2 (Option.some .int) ∈ GW := GW_of (tb4 (i := 123) rfl) rfl
theorem gM_X9_57 : Cond.methodLink RX9 57 yX9_in ∈ GW := GW_of (tb4 (i := 124) rfl) rfl
theorem gS_X9_in : Cond.static yX9_in ∈ GW := GW_of (tb4 (i := 125) rfl) rfl
theorem gC_X9_in : Cond.code yX9_in cX9_in 3 (Option.some .boolean) ∈ GW := GW_of (tb4 (i := 126) rfl) rfl
theorem gM_L_22 : Cond.methodLink RL 22 yX9_clear ∈ GW := GW_of (tb4 (i := 127) rfl) rfl
theorem gI_X9_clear : Cond.instanceMethod yX9_clear ∈ GW := GW_of (tb4 (i := 128) rfl) rfl
theorem gE_X9_clear : Cond.selects RX9 yX9_clear yX9_clear ∈ GW := GW_of (tb4 (i := 129) rfl) rfl
theorem gC_X9_clear : Cond.code yX9_clear cX9_clear 2 (Option.some .int) ∈ GW := GW_of (tb4 (i := 130) rfl) rfl
theorem gM_L_26 : Cond.methodLink RL 26 yX9_house ∈ GW := GW_of (tb4 (i := 131) rfl) rfl
theorem gI_X9_house : Cond.instanceMethod yX9_house ∈ GW := GW_of (tb4 (i := 132) rfl) rfl
theorem gE_X9_house : Cond.selects RX9 yX9_house yX9_house ∈ GW := GW_of (tb4 (i := 133) rfl) rfl
theorem gC_X9_house : Cond.code yX9_house cX9_house 3 (Option.some .int) ∈ GW := GW_of (tb4 (i := 134) rfl) rfl
theorem gM_X9_84 : Cond.methodLink RX9 84 yX9_step ∈ GW := GW_of (tb4 (i := 135) rfl) rfl
theorem gI_X9_step : Cond.instanceMethod yX9_step ∈ GW := GW_of (tb4 (i := 137) rfl) rfl
theorem gC_X9_step : Cond.code yX9_step cX9_step 2 none ∈ GW := GW_of (tb4 (i := 138) rfl) rfl
theorem gM_X9_68 : Cond.methodLink RX9 68 yX9_here ∈ GW := GW_of (tb4 (i := 139) rfl) rfl
theorem gI_X9_here : Cond.instanceMethod yX9_here ∈ GW := GW_of (tb4 (i := 141) rfl) rfl
theorem gC_X9_here : Cond.code yX9_here cX9_here 1 (Option.some .int) ∈ GW := GW_of (tb4 (i := 142) rfl) rfl
theorem gM_X9_105 : Cond.methodLink RX9 105 yX9_mayBe ∈ GW := GW_of (tb4 (i := 143) rfl) rfl
theorem gI_X9_mayBe : Cond.instanceMethod yX9_mayBe ∈ GW := GW_of (tb4 (i := 145) rfl) rfl
theorem gC_X9_mayBe : Cond.code yX9_mayBe cX9_mayBe 3 (Option.some .boolean) ∈ GW := GW_of (tb4 (i := 146) rfl) rfl
theorem gM_X9_87 : Cond.methodLink RX9 87 yX9_due ∈ GW := GW_of (tb4 (i := 147) rfl) rfl
theorem gI_X9_due : Cond.instanceMethod yX9_due ∈ GW := GW_of (tb4 (i := 149) rfl) rfl
theorem gC_X9_due : Cond.code yX9_due cX9_due 3 (Option.some .int) ∈ GW := GW_of (tb4 (i := 150) rfl) rfl
theorem gM_X9_109 : Cond.methodLink RX9 109 yX9_readRow ∈ GW := GW_of (tb4 (i := 151) rfl) rfl
theorem gI_X9_readRow : Cond.instanceMethod yX9_readRow ∈ GW := GW_of (tb4 (i := 153) rfl) rfl
theorem gC_X9_readRow : Cond.code yX9_readRow cX9_readRow 2 none ∈ GW := GW_of (tb4 (i := 154) rfl) rfl
theorem gM_X9_95 : Cond.methodLink RX9 95 yX9_number ∈ GW := GW_of (tb4 (i := 155) rfl) rfl
theorem gI_X9_number : Cond.instanceMethod yX9_number ∈ GW := GW_of (tb4 (i := 157) rfl) rfl
theorem gC_X9_number : Cond.code yX9_number cX9_number 3 (Option.some .int) ∈ GW := GW_of (tb4 (i := 158) rfl) rfl
theorem gM_L_31 : Cond.methodLink RL 31 yX9_line ∈ GW := GW_of (tb4 (i := 159) rfl) rfl
theorem gI_X9_line : Cond.instanceMethod yX9_line ∈ GW := GW_of (tb4 (i := 160) rfl) rfl
theorem gE_X9_line : Cond.selects RX9 yX9_line yX9_line ∈ GW := GW_of (tb4 (i := 161) rfl) rfl
theorem gC_X9_line : Cond.code yX9_line cX9_line 3 (Option.some .int) ∈ GW := GW_of (tb4 (i := 162) rfl) rfl
theorem gM_X9_129 : Cond.methodLink RX9 129 yX9_isLine ∈ GW := GW_of (tb4 (i := 163) rfl) rfl
theorem gI_X9_isLine : Cond.instanceMethod yX9_isLine ∈ GW := GW_of (tb4 (i := 165) rfl) rfl
theorem gC_X9_isLine : Cond.code yX9_isLine cX9_isLine 2 (Option.some .boolean) ∈ GW := GW_of (tb4 (i := 166) rfl) rfl
theorem gM_X9_113 : Cond.methodLink RX9 113 yX9_lineOf ∈ GW := GW_of (tb4 (i := 167) rfl) rfl
theorem gI_X9_lineOf : Cond.instanceMethod yX9_lineOf ∈ GW := GW_of (tb4 (i := 169) rfl) rfl
theorem gC_X9_lineOf : Cond.code yX9_lineOf cX9_lineOf 5 (Option.some .int) ∈ GW := GW_of (tb4 (i := 170) rfl) rfl
theorem gM_L_35 : Cond.methodLink RL 35 yX9_scribe ∈ GW := GW_of (tb4 (i := 171) rfl) rfl
theorem gI_X9_scribe : Cond.instanceMethod yX9_scribe ∈ GW := GW_of (tb4 (i := 172) rfl) rfl
theorem gE_X9_scribe : Cond.selects RX9 yX9_scribe yX9_scribe ∈ GW := GW_of (tb4 (i := 173) rfl) rfl
theorem gC_X9_scribe : Cond.code yX9_scribe cX9_scribe 3 (Option.some .int) ∈ GW := GW_of (tb4 (i := 174) rfl) rfl
theorem gM_X9_133 : Cond.methodLink RX9 133 yX9_isScribe ∈ GW := GW_of (tb4 (i := 175) rfl) rfl
theorem gI_X9_isScribe : Cond.instanceMethod yX9_isScribe ∈ GW := GW_of (tb4 (i := 177) rfl) rfl
theorem gC_X9_isScribe : Cond.code yX9_isScribe cX9_isScribe 2 (Option.some .boolean) ∈ GW := GW_of (tb4 (i := 178) rfl) rfl
theorem gM_X9_119 : Cond.methodLink RX9 119 yX9_disagrees ∈ GW := GW_of (tb4 (i := 179) rfl) rfl
theorem gI_X9_disagrees : Cond.instanceMethod yX9_disagrees ∈ GW := GW_of (tb4 (i := 181) rfl) rfl
theorem gC_X9_disagrees : Cond.code yX9_disagrees cX9_disagrees 5 (Option.some .int) ∈ GW := GW_of (tb4 (i := 182) rfl) rfl
theorem gM_X9_116 : Cond.methodLink RX9 116 yX9_saysOf ∈ GW := GW_of (tb4 (i := 183) rfl) rfl
theorem gI_X9_saysOf : Cond.instanceMethod yX9_saysOf ∈ GW := GW_of (tb4 (i := 185) rfl) rfl
theorem gC_X9_saysOf : Cond.code yX9_saysOf cX9_saysOf 3 (Option.some .int) ∈ GW := GW_of (tb4 (i := 186) rfl) rfl
theorem gM_X9_136 : Cond.methodLink RX9 136 yX9_isConvinced ∈ GW := GW_of (tb4 (i := 187) rfl) rfl
theorem gI_X9_isConvinced : Cond.instanceMethod yX9_isConvinced ∈ GW := GW_of (tb4 (i := 189) rfl) rfl
theorem gC_X9_isConvinced : Cond.code yX9_isConvinced cX9_isConvinced 3 (Option.some .boolean) ∈ GW := GW_of (tb4 (i := 190) rfl) rfl
theorem gM_X9_122 : Cond.methodLink RX9 122 yX9_manyOf ∈ GW := GW_of (tb4 (i := 191) rfl) rfl
theorem gS_X9_manyOf : Cond.static yX9_manyOf ∈ GW := GW_of (tb4 (i := 192) rfl) rfl
theorem gC_X9_manyOf : Cond.code yX9_manyOf cX9_manyOf 3 (Option.some .int) ∈ GW := GW_of (tb4 (i := 193) rfl) rfl
theorem gM_X9_139 : Cond.methodLink RX9 139 yX9_comes ∈ GW := GW_of (tb4 (i := 194) rfl) rfl
theorem gI_X9_comes : Cond.instanceMethod yX9_comes ∈ GW := GW_of (tb4 (i := 196) rfl) rfl
theorem gC_X9_comes : Cond.code yX9_comes cX9_comes 4 (Option.some .int) ∈ GW := GW_of (tb4 (i := 197) rfl) rfl
theorem gM_X9_126 : Cond.methodLink RX9 126 yX9_copyOf ∈ GW := GW_of (tb4 (i := 198) rfl) rfl
theorem gI_X9_copyOf : Cond.instanceMethod yX9_copyOf ∈ GW := GW_of (tb4 (i := 200) rfl) rfl
theorem gC_X9_copyOf : Cond.code yX9_copyOf cX9_copyOf 5 (Option.some .int) ∈ GW := GW_of (tb4 (i := 201) rfl) rfl
theorem gM_L_39 : Cond.methodLink RL 39 yX9_says ∈ GW := GW_of (tb4 (i := 202) rfl) rfl
theorem gI_X9_says : Cond.instanceMethod yX9_says ∈ GW := GW_of (tb4 (i := 203) rfl) rfl
theorem gE_X9_says : Cond.selects RX9 yX9_says yX9_says ∈ GW := GW_of (tb4 (i := 204) rfl) rfl
theorem gC_X9_says : Cond.code yX9_says cX9_says 3 (Option.some .int) ∈ GW := GW_of (tb4 (i := 205) rfl) rfl
theorem gM_X9_142 : Cond.methodLink RX9 142 yX9_isOpinion ∈ GW := GW_of (tb4 (i := 206) rfl) rfl
theorem gI_X9_isOpinion : Cond.instanceMethod yX9_isOpinion ∈ GW := GW_of (tb4 (i := 208) rfl) rfl
theorem gC_X9_isOpinion : Cond.code yX9_isOpinion cX9_isOpinion 2 (Option.some .boolean) ∈ GW := GW_of (tb4 (i := 209) rfl) rfl
theorem gM_L_43 : Cond.methodLink RL 43 yX9_copies ∈ GW := GW_of (tb4 (i := 210) rfl) rfl
theorem gI_X9_copies : Cond.instanceMethod yX9_copies ∈ GW := GW_of (tb4 (i := 211) rfl) rfl
theorem gE_X9_copies : Cond.selects RX9 yX9_copies yX9_copies ∈ GW := GW_of (tb4 (i := 212) rfl) rfl
theorem gC_X9_copies : Cond.code yX9_copies cX9_copies 2 (Option.some .int) ∈ GW := GW_of (tb4 (i := 213) rfl) rfl
theorem gM_X9_145 : Cond.methodLink RX9 145 yX9_know ∈ GW := GW_of (tb4 (i := 214) rfl) rfl
theorem gI_X9_know : Cond.instanceMethod yX9_know ∈ GW := GW_of (tb4 (i := 216) rfl) rfl
theorem gC_X9_know : Cond.code yX9_know cX9_know 2 none ∈ GW := GW_of (tb4 (i := 217) rfl) rfl
theorem gM_L_47 : Cond.methodLink RL 47 yX9_errs ∈ GW := GW_of (tb4 (i := 218) rfl) rfl
theorem gI_X9_errs : Cond.instanceMethod yX9_errs ∈ GW := GW_of (tb4 (i := 219) rfl) rfl
theorem gE_X9_errs : Cond.selects RX9 yX9_errs yX9_errs ∈ GW := GW_of (tb4 (i := 220) rfl) rfl
theorem gC_X9_errs : Cond.code yX9_errs cX9_errs 4 (Option.some .int) ∈ GW := GW_of (tb4 (i := 221) rfl) rfl
theorem gM_X9_148 : Cond.methodLink RX9 148 yX9_put ∈ GW := GW_of (tb4 (i := 222) rfl) rfl
theorem gI_X9_put : Cond.instanceMethod yX9_put ∈ GW := GW_of (tb4 (i := 224) rfl) rfl
theorem gC_X9_put : Cond.code yX9_put cX9_put 6 (Option.some .int) ∈ GW := GW_of (tb4 (i := 225) rfl) rfl
theorem gM_L_51 : Cond.methodLink RL 51 yX9_releases ∈ GW := GW_of (tb4 (i := 226) rfl) rfl
theorem gI_X9_releases : Cond.instanceMethod yX9_releases ∈ GW := GW_of (tb4 (i := 227) rfl) rfl
theorem gE_X9_releases : Cond.selects RX9 yX9_releases yX9_releases ∈ GW := GW_of (tb4 (i := 228) rfl) rfl
theorem gC_X9_releases : Cond.code yX9_releases cX9_releases 3 (Option.some .int) ∈ GW := GW_of (tb4 (i := 229) rfl) rfl
theorem gM_L_55 : Cond.methodLink RL 55 yX9_aims ∈ GW := GW_of (tb4 (i := 230) rfl) rfl
theorem gI_X9_aims : Cond.instanceMethod yX9_aims ∈ GW := GW_of (tb4 (i := 231) rfl) rfl
theorem gE_X9_aims : Cond.selects RX9 yX9_aims yX9_aims ∈ GW := GW_of (tb4 (i := 232) rfl) rfl
theorem gC_X9_aims : Cond.code yX9_aims cX9_aims 4 (Option.some .int) ∈ GW := GW_of (tb4 (i := 233) rfl) rfl
theorem gM_L_59 : Cond.methodLink RL 59 yX9_undo ∈ GW := GW_of (tb4 (i := 234) rfl) rfl
theorem gI_X9_undo : Cond.instanceMethod yX9_undo ∈ GW := GW_of (tb4 (i := 235) rfl) rfl
theorem gE_X9_undo : Cond.selects RX9 yX9_undo yX9_undo ∈ GW := GW_of (tb4 (i := 236) rfl) rfl
theorem gC_X9_undo : Cond.code yX9_undo cX9_undo 2 (Option.some .int) ∈ GW := GW_of (tb4 (i := 237) rfl) rfl
theorem gM_L_63 : Cond.methodLink RL 63 yX9_now ∈ GW := GW_of (tb4 (i := 238) rfl) rfl
theorem gI_X9_now : Cond.instanceMethod yX9_now ∈ GW := GW_of (tb4 (i := 239) rfl) rfl
theorem gE_X9_now : Cond.selects RX9 yX9_now yX9_now ∈ GW := GW_of (tb5 (i := 0) rfl) rfl
theorem gC_X9_now : Cond.code yX9_now cX9_now 4 (Option.some .int) ∈ GW := GW_of (tb5 (i := 1) rfl) rfl
theorem gM_X9_158 : Cond.methodLink RX9 158 yX9_fromOf ∈ GW := GW_of (tb5 (i := 2) rfl) rfl
theorem gI_X9_fromOf : Cond.instanceMethod yX9_fromOf ∈ GW := GW_of (tb5 (i := 4) rfl) rfl
theorem gC_X9_fromOf : Cond.code yX9_fromOf cX9_fromOf 4 (Option.some .int) ∈ GW := GW_of (tb5 (i := 5) rfl) rfl
theorem gM_X9_152 : Cond.methodLink RX9 152 yX9_books ∈ GW := GW_of (tb5 (i := 6) rfl) rfl
theorem gI_X9_books : Cond.instanceMethod yX9_books ∈ GW := GW_of (tb5 (i := 8) rfl) rfl
theorem gC_X9_books : Cond.code yX9_books cX9_books 3 (Option.some .int) ∈ GW := GW_of (tb5 (i := 9) rfl) rfl
theorem gM_X9_155 : Cond.methodLink RX9 155 yX9_mayCome ∈ GW := GW_of (tb5 (i := 10) rfl) rfl
theorem gI_X9_mayCome : Cond.instanceMethod yX9_mayCome ∈ GW := GW_of (tb5 (i := 12) rfl) rfl
theorem gC_X9_mayCome : Cond.code yX9_mayCome cX9_mayCome 3 (Option.some .boolean) ∈ GW := GW_of (tb5 (i := 13) rfl) rfl
theorem gM_X9_161 : Cond.methodLink RX9 161 yX9_same ∈ GW := GW_of (tb5 (i := 14) rfl) rfl
theorem gI_X9_same : Cond.instanceMethod yX9_same ∈ GW := GW_of (tb5 (i := 16) rfl) rfl
theorem gC_X9_same : Cond.code yX9_same cX9_same 6 (Option.some .int) ∈ GW := GW_of (tb5 (i := 17) rfl) rfl
theorem gM_X9_164 : Cond.methodLink RX9 164 yX9_isSo ∈ GW := GW_of (tb5 (i := 18) rfl) rfl
theorem gI_X9_isSo : Cond.instanceMethod yX9_isSo ∈ GW := GW_of (tb5 (i := 20) rfl) rfl
theorem gC_X9_isSo : Cond.code yX9_isSo cX9_isSo 5 (Option.some .boolean) ∈ GW := GW_of (tb5 (i := 21) rfl) rfl
theorem gM_L_67 : Cond.methodLink RL 67 yX9_behind ∈ GW := GW_of (tb5 (i := 22) rfl) rfl
theorem gI_X9_behind : Cond.instanceMethod yX9_behind ∈ GW := GW_of (tb5 (i := 23) rfl) rfl
theorem gE_X9_behind : Cond.selects RX9 yX9_behind yX9_behind ∈ GW := GW_of (tb5 (i := 24) rfl) rfl
theorem gC_X9_behind : Cond.code yX9_behind cX9_behind 3 (Option.some .int) ∈ GW := GW_of (tb5 (i := 25) rfl) rfl
theorem gM_X9_176 : Cond.methodLink RX9 176 yX9_boughtIn ∈ GW := GW_of (tb5 (i := 26) rfl) rfl
theorem gI_X9_boughtIn : Cond.instanceMethod yX9_boughtIn ∈ GW := GW_of (tb5 (i := 28) rfl) rfl
theorem gC_X9_boughtIn : Cond.code yX9_boughtIn cX9_boughtIn 1 (Option.some .int) ∈ GW := GW_of (tb5 (i := 29) rfl) rfl
theorem gM_X9_179 : Cond.methodLink RX9 179 yX9_go ∈ GW := GW_of (tb5 (i := 30) rfl) rfl
theorem gI_X9_go : Cond.instanceMethod yX9_go ∈ GW := GW_of (tb5 (i := 32) rfl) rfl
theorem gC_X9_go : Cond.code yX9_go cX9_go 5 none ∈ GW := GW_of (tb5 (i := 33) rfl) rfl
theorem gM_L_71 : Cond.methodLink RL 71 yX9_ends ∈ GW := GW_of (tb5 (i := 34) rfl) rfl
theorem gI_X9_ends : Cond.instanceMethod yX9_ends ∈ GW := GW_of (tb5 (i := 35) rfl) rfl
theorem gE_X9_ends : Cond.selects RX9 yX9_ends yX9_ends ∈ GW := GW_of (tb5 (i := 36) rfl) rfl
theorem gC_X9_ends : Cond.code yX9_ends cX9_ends 2 (Option.some .int) ∈ GW := GW_of (tb5 (i := 37) rfl) rfl
theorem gM_L_75 : Cond.methodLink RL 75 yX9_lasts ∈ GW := GW_of (tb5 (i := 38) rfl) rfl
theorem gI_X9_lasts : Cond.instanceMethod yX9_lasts ∈ GW := GW_of (tb5 (i := 39) rfl) rfl
theorem gE_X9_lasts : Cond.selects RX9 yX9_lasts yX9_lasts ∈ GW := GW_of (tb5 (i := 40) rfl) rfl
theorem gC_X9_lasts : Cond.code yX9_lasts cX9_lasts 5 (Option.some .int) ∈ GW := GW_of (tb5 (i := 41) rfl) rfl
theorem gM_L_79 : Cond.methodLink RL 79 yX9_buy ∈ GW := GW_of (tb5 (i := 42) rfl) rfl
theorem gI_X9_buy : Cond.instanceMethod yX9_buy ∈ GW := GW_of (tb5 (i := 43) rfl) rfl
theorem gE_X9_buy : Cond.selects RX9 yX9_buy yX9_buy ∈ GW := GW_of (tb5 (i := 44) rfl) rfl
theorem gC_X9_buy : Cond.code yX9_buy cX9_buy 4 (Option.some .int) ∈ GW := GW_of (tb5 (i := 45) rfl) rfl
theorem gM_L_84 : Cond.methodLink RL 84 yX9_odds ∈ GW := GW_of (tb5 (i := 46) rfl) rfl
theorem gI_X9_odds : Cond.instanceMethod yX9_odds ∈ GW := GW_of (tb5 (i := 47) rfl) rfl
theorem gE_X9_odds : Cond.selects RX9 yX9_odds yX9_odds ∈ GW := GW_of (tb5 (i := 48) rfl) rfl
theorem gC_X9_odds : Cond.code yX9_odds cX9_odds 9 (Option.some .int) ∈ GW := GW_of (tb5 (i := 49) rfl) rfl
theorem gM_L_88 : Cond.methodLink RL 88 yX9_way ∈ GW := GW_of (tb5 (i := 50) rfl) rfl
theorem gI_X9_way : Cond.instanceMethod yX9_way ∈ GW := GW_of (tb5 (i := 51) rfl) rfl
theorem gE_X9_way : Cond.selects RX9 yX9_way yX9_way ∈ GW := GW_of (tb5 (i := 52) rfl) rfl
theorem gC_X9_way : Cond.code yX9_way cX9_way 6 (Option.some .int) ∈ GW := GW_of (tb5 (i := 53) rfl) rfl
theorem gM_X9_183 : Cond.methodLink RX9 183 yX9_measure ∈ GW := GW_of (tb5 (i := 54) rfl) rfl
theorem gI_X9_measure : Cond.instanceMethod yX9_measure ∈ GW := GW_of (tb5 (i := 56) rfl) rfl
theorem gC_X9_measure : Cond.code yX9_measure cX9_measure 6 none ∈ GW := GW_of (tb5 (i := 57) rfl) rfl
theorem gM_L_92 : Cond.methodLink RL 92 yX9_from ∈ GW := GW_of (tb5 (i := 58) rfl) rfl
theorem gI_X9_from : Cond.instanceMethod yX9_from ∈ GW := GW_of (tb5 (i := 59) rfl) rfl
theorem gE_X9_from : Cond.selects RX9 yX9_from yX9_from ∈ GW := GW_of (tb5 (i := 60) rfl) rfl
theorem gC_X9_from : Cond.code yX9_from cX9_from 2 (Option.some .int) ∈ GW := GW_of (tb5 (i := 61) rfl) rfl
theorem gM_L_96 : Cond.methodLink RL 96 yX9_saw ∈ GW := GW_of (tb5 (i := 62) rfl) rfl
theorem gI_X9_saw : Cond.instanceMethod yX9_saw ∈ GW := GW_of (tb5 (i := 63) rfl) rfl
theorem gE_X9_saw : Cond.selects RX9 yX9_saw yX9_saw ∈ GW := GW_of (tb5 (i := 64) rfl) rfl
theorem gC_X9_saw : Cond.code yX9_saw cX9_saw 3 (Option.some .int) ∈ GW := GW_of (tb5 (i := 65) rfl) rfl
theorem gM_L_100 : Cond.methodLink RL 100 yX9_forget ∈ GW := GW_of (tb5 (i := 66) rfl) rfl
theorem gI_X9_forget : Cond.instanceMethod yX9_forget ∈ GW := GW_of (tb5 (i := 67) rfl) rfl
theorem gE_X9_forget : Cond.selects RX9 yX9_forget yX9_forget ∈ GW := GW_of (tb5 (i := 68) rfl) rfl
theorem gC_X9_forget : Cond.code yX9_forget cX9_forget 2 (Option.some .int) ∈ GW := GW_of (tb5 (i := 69) rfl) rfl
theorem gM_L_104 : Cond.methodLink RL 104 yX9_fit ∈ GW := GW_of (tb5 (i := 70) rfl) rfl
theorem gI_X9_fit : Cond.instanceMethod yX9_fit ∈ GW := GW_of (tb5 (i := 71) rfl) rfl
theorem gE_X9_fit : Cond.selects RX9 yX9_fit yX9_fit ∈ GW := GW_of (tb5 (i := 72) rfl) rfl
theorem gC_X9_fit : Cond.code yX9_fit cX9_fit 10 (Option.some .int) ∈ GW := GW_of (tb5 (i := 73) rfl) rfl
theorem gM_L_108 : Cond.methodLink RL 108 yX9_mark ∈ GW := GW_of (tb5 (i := 74) rfl) rfl
theorem gI_X9_mark : Cond.instanceMethod yX9_mark ∈ GW := GW_of (tb5 (i := 75) rfl) rfl
theorem gE_X9_mark : Cond.selects RX9 yX9_mark yX9_mark ∈ GW := GW_of (tb5 (i := 76) rfl) rfl
theorem gC_X9_mark : Cond.code yX9_mark cX9_mark 5 (Option.some .int) ∈ GW := GW_of (tb5 (i := 77) rfl) rfl
theorem gK_X9_186 : Cond.constant RX9 186 (-1000000) ∈ GW := GW_of (tb5 (i := 78) rfl) rfl
theorem gQ_X9_191 : Cond.constantLong RX9 191 (11) ∈ GW := GW_of (tb5 (i := 79) rfl) rfl
theorem gQ_X9_193 : Cond.constantLong RX9 193 (101) ∈ GW := GW_of (tb5 (i := 80) rfl) rfl
theorem gQ_X9_195 : Cond.constantLong RX9 195 (1011) ∈ GW := GW_of (tb5 (i := 81) rfl) rfl
theorem gQ_X9_197 : Cond.constantLong RX9 197 (10101) ∈ GW := GW_of (tb5 (i := 82) rfl) rfl
theorem gQ_X9_199 : Cond.constantLong RX9 199 (100001) ∈ GW := GW_of (tb5 (i := 83) rfl) rfl
theorem gM_L_112 : Cond.methodLink RL 112 yX9_keep ∈ GW := GW_of (tb5 (i := 84) rfl) rfl
theorem gI_X9_keep : Cond.instanceMethod yX9_keep ∈ GW := GW_of (tb5 (i := 85) rfl) rfl
theorem gE_X9_keep : Cond.selects RX9 yX9_keep yX9_keep ∈ GW := GW_of (tb5 (i := 86) rfl) rfl
theorem gC_X9_keep : Cond.code yX9_keep cX9_keep 3 (Option.some .int) ∈ GW := GW_of (tb5 (i := 87) rfl) rfl
theorem gM_L_116 : Cond.methodLink RL 116 yX9_back ∈ GW := GW_of (tb5 (i := 88) rfl) rfl
theorem gI_X9_back : Cond.instanceMethod yX9_back ∈ GW := GW_of (tb5 (i := 89) rfl) rfl
theorem gE_X9_back : Cond.selects RX9 yX9_back yX9_back ∈ GW := GW_of (tb5 (i := 90) rfl) rfl
theorem gC_X9_back : Cond.code yX9_back cX9_back 3 (Option.some .int) ∈ GW := GW_of (tb5 (i := 91) rfl) rfl
theorem gM_L_120 : Cond.methodLink RL 120 yX9_count ∈ GW := GW_of (tb5 (i := 92) rfl) rfl
theorem gI_X9_count : Cond.instanceMethod yX9_count ∈ GW := GW_of (tb5 (i := 93) rfl) rfl
theorem gE_X9_count : Cond.selects RX9 yX9_count yX9_count ∈ GW := GW_of (tb5 (i := 94) rfl) rfl
theorem gC_X9_count : Cond.code yX9_count cX9_count 2 (Option.some .int) ∈ GW := GW_of (tb5 (i := 95) rfl) rfl
theorem gM_L_125 : Cond.methodLink RL 125 yX9_trace ∈ GW := GW_of (tb5 (i := 96) rfl) rfl
theorem gI_X9_trace : Cond.instanceMethod yX9_trace ∈ GW := GW_of (tb5 (i := 97) rfl) rfl
theorem gE_X9_trace : Cond.selects RX9 yX9_trace yX9_trace ∈ GW := GW_of (tb5 (i := 98) rfl) rfl
theorem gC_X9_trace : Cond.code yX9_trace cX9_trace 1 (Option.some .long) ∈ GW := GW_of (tb5 (i := 99) rfl) rfl
theorem gE_X4_add : Cond.selects RX4 yX4_add yX4_add ∈ GW := GW_of (tb0 (i := 0) rfl) rfl
theorem gE_X4_empty : Cond.selects RX4 yX4_empty yX4_empty ∈ GW := GW_of (tb0 (i := 1) rfl) rfl
theorem gE_X4_read : Cond.selects RX4 yX4_read yX4_read ∈ GW := GW_of (tb0 (i := 2) rfl) rfl
theorem gE_X0_begin : Cond.selects RX0 yX0_begin yX0_begin ∈ GW := GW_of (tb0 (i := 3) rfl) rfl
theorem gE_X4_readToken : Cond.selects RX4 yX4_readToken yX4_readToken ∈ GW := GW_of (tb0 (i := 4) rfl) rfl
theorem gE_X4_byteAt : Cond.selects RX4 yX4_byteAt yX4_byteAt ∈ GW := GW_of (tb0 (i := 5) rfl) rfl
theorem gE_X4_readLetters : Cond.selects RX4 yX4_readLetters yX4_readLetters ∈ GW := GW_of (tb0 (i := 6) rfl) rfl
theorem gE_X4_readFigures : Cond.selects RX4 yX4_readFigures yX4_readFigures ∈ GW := GW_of (tb0 (i := 7) rfl) rfl
theorem gE_X4_readOpinions : Cond.selects RX4 yX4_readOpinions yX4_readOpinions ∈ GW := GW_of (tb0 (i := 8) rfl) rfl
theorem gE_X4_readNumber : Cond.selects RX4 yX4_readNumber yX4_readNumber ∈ GW := GW_of (tb0 (i := 9) rfl) rfl
theorem gE_X4_readStop : Cond.selects RX4 yX4_readStop yX4_readStop ∈ GW := GW_of (tb0 (i := 10) rfl) rfl
theorem gE_X4_readBook : Cond.selects RX4 yX4_readBook yX4_readBook ∈ GW := GW_of (tb0 (i := 11) rfl) rfl
theorem gE_X0_hasOpinion : Cond.selects RX0 yX0_hasOpinion yX0_hasOpinion ∈ GW := GW_of (tb0 (i := 12) rfl) rfl
theorem gE_X0_addLine : Cond.selects RX0 yX0_addLine yX0_addLine ∈ GW := GW_of (tb0 (i := 13) rfl) rfl
theorem gE_X4_readScribe : Cond.selects RX4 yX4_readScribe yX4_readScribe ∈ GW := GW_of (tb0 (i := 14) rfl) rfl
theorem gE_X0_addScribe : Cond.selects RX0 yX0_addScribe yX0_addScribe ∈ GW := GW_of (tb0 (i := 15) rfl) rfl
theorem gE_X4_readNeed : Cond.selects RX4 yX4_readNeed yX4_readNeed ∈ GW := GW_of (tb0 (i := 16) rfl) rfl
theorem gE_X1_learn : Cond.selects RX1 yX1_learn yX1_learn ∈ GW := GW_of (tb0 (i := 17) rfl) rfl
theorem gE_X0_isConvinced : Cond.selects RX0 yX0_isConvinced yX0_isConvinced ∈ GW := GW_of (tb0 (i := 18) rfl) rfl
theorem gE_X0_unlikeLines : Cond.selects RX0 yX0_unlikeLines yX0_unlikeLines ∈ GW := GW_of (tb0 (i := 19) rfl) rfl
theorem gE_X0_saidBy : Cond.selects RX0 yX0_saidBy yX0_saidBy ∈ GW := GW_of (tb0 (i := 20) rfl) rfl
theorem gE_X0_turnOf : Cond.selects RX0 yX0_turnOf yX0_turnOf ∈ GW := GW_of (tb0 (i := 21) rfl) rfl
theorem gE_X0_hasScribe : Cond.selects RX0 yX0_hasScribe yX0_hasScribe ∈ GW := GW_of (tb0 (i := 22) rfl) rfl
theorem gE_X0_bentOf : Cond.selects RX0 yX0_bentOf yX0_bentOf ∈ GW := GW_of (tb0 (i := 23) rfl) rfl
theorem gE_X0_becomes : Cond.selects RX0 yX0_becomes yX0_becomes ∈ GW := GW_of (tb0 (i := 24) rfl) rfl
theorem gE_X6_begin : Cond.selects RX6 yX6_begin yX6_begin ∈ GW := GW_of (tb0 (i := 25) rfl) rfl
theorem gE_X6_put : Cond.selects RX6 yX6_put yX6_put ∈ GW := GW_of (tb0 (i := 26) rfl) rfl
theorem gE_X2_empty : Cond.selects RX2 yX2_empty yX2_empty ∈ GW := GW_of (tb0 (i := 27) rfl) rfl
theorem gE_X0_hasLine : Cond.selects RX0 yX0_hasLine yX0_hasLine ∈ GW := GW_of (tb0 (i := 28) rfl) rfl
theorem gE_X6_book : Cond.selects RX6 yX6_book yX6_book ∈ GW := GW_of (tb0 (i := 29) rfl) rfl
theorem gE_X6_at : Cond.selects RX6 yX6_at yX6_at ∈ GW := GW_of (tb0 (i := 30) rfl) rfl
theorem gE_X0_lineOf : Cond.selects RX0 yX0_lineOf yX0_lineOf ∈ GW := GW_of (tb0 (i := 31) rfl) rfl
theorem gE_X0_weightOf : Cond.selects RX0 yX0_weightOf yX0_weightOf ∈ GW := GW_of (tb0 (i := 32) rfl) rfl
theorem gE_X6_isReleased : Cond.selects RX6 yX6_isReleased yX6_isReleased ∈ GW := GW_of (tb0 (i := 33) rfl) rfl
theorem gE_X6_released : Cond.selects RX6 yX6_released yX6_released ∈ GW := GW_of (tb0 (i := 34) rfl) rfl
theorem gE_X6_timesOf : Cond.selects RX6 yX6_timesOf yX6_timesOf ∈ GW := GW_of (tb0 (i := 35) rfl) rfl
theorem gE_X0_comesRound : Cond.selects RX0 yX0_comesRound yX0_comesRound ∈ GW := GW_of (tb0 (i := 36) rfl) rfl
theorem gE_X6_copiesNow : Cond.selects RX6 yX6_copiesNow yX6_copiesNow ∈ GW := GW_of (tb0 (i := 37) rfl) rfl
theorem gE_X6_remember : Cond.selects RX6 yX6_remember yX6_remember ∈ GW := GW_of (tb0 (i := 38) rfl) rfl
theorem gE_X6_copyRow : Cond.selects RX6 yX6_copyRow yX6_copyRow ∈ GW := GW_of (tb0 (i := 39) rfl) rfl
theorem gE_X6_copied : Cond.selects RX6 yX6_copied yX6_copied ∈ GW := GW_of (tb0 (i := 40) rfl) rfl
theorem gE_X0_withLine : Cond.selects RX0 yX0_withLine yX0_withLine ∈ GW := GW_of (tb0 (i := 41) rfl) rfl
theorem gE_X6_setBook : Cond.selects RX6 yX6_setBook yX6_setBook ∈ GW := GW_of (tb0 (i := 42) rfl) rfl
theorem gE_X6_turnReleased : Cond.selects RX6 yX6_turnReleased yX6_turnReleased ∈ GW := GW_of (tb0 (i := 43) rfl) rfl
theorem gE_X6_takeBack : Cond.selects RX6 yX6_takeBack yX6_takeBack ∈ GW := GW_of (tb0 (i := 44) rfl) rfl
theorem gE_X8_convinced : Cond.selects RX8 yX8_convinced yX8_convinced ∈ GW := GW_of (tb0 (i := 45) rfl) rfl
theorem gE_X7_lastCopiers : Cond.selects RX7 yX7_lastCopiers yX7_lastCopiers ∈ GW := GW_of (tb0 (i := 46) rfl) rfl
theorem gE_X7_countBefore : Cond.selects RX7 yX7_countBefore yX7_countBefore ∈ GW := GW_of (tb0 (i := 47) rfl) rfl
theorem gE_X1_copyBy : Cond.selects RX1 yX1_copyBy yX1_copyBy ∈ GW := GW_of (tb0 (i := 48) rfl) rfl
theorem gE_X7_sameLines : Cond.selects RX7 yX7_sameLines yX7_sameLines ∈ GW := GW_of (tb0 (i := 49) rfl) rfl
theorem gE_X2_fittingScribes : Cond.selects RX2 yX2_fittingScribes yX2_fittingScribes ∈ GW := GW_of (tb0 (i := 50) rfl) rfl
theorem gE_X2_fits : Cond.selects RX2 yX2_fits yX2_fits ∈ GW := GW_of (tb0 (i := 51) rfl) rfl
theorem gE_X8_bought : Cond.selects RX8 yX8_bought yX8_bought ∈ GW := GW_of (tb0 (i := 52) rfl) rfl
theorem gE_X0_allScribes : Cond.selects RX0 yX0_allScribes yX0_allScribes ∈ GW := GW_of (tb0 (i := 53) rfl) rfl
theorem gE_X5_run : Cond.selects RX5 yX5_run yX5_run ∈ GW := GW_of (tb0 (i := 54) rfl) rfl
theorem gE_X5_runToEnd : Cond.selects RX5 yX5_runToEnd yX5_runToEnd ∈ GW := GW_of (tb0 (i := 55) rfl) rfl
theorem gE_X5_longestBook : Cond.selects RX5 yX5_longestBook yX5_longestBook ∈ GW := GW_of (tb0 (i := 56) rfl) rfl
theorem gE_X5_fewestToBuy : Cond.selects RX5 yX5_fewestToBuy yX5_fewestToBuy ∈ GW := GW_of (tb0 (i := 57) rfl) rfl
theorem gE_X5_reaches : Cond.selects RX5 yX5_reaches yX5_reaches ∈ GW := GW_of (tb0 (i := 58) rfl) rfl
theorem gE_X7_search : Cond.selects RX7 yX7_search yX7_search ∈ GW := GW_of (tb0 (i := 59) rfl) rfl
theorem gE_X7_find : Cond.selects RX7 yX7_find yX7_find ∈ GW := GW_of (tb0 (i := 60) rfl) rfl
theorem gE_X7_isFound : Cond.selects RX7 yX7_isFound yX7_isFound ∈ GW := GW_of (tb0 (i := 61) rfl) rfl
theorem gE_X7_distanceOf : Cond.selects RX7 yX7_distanceOf yX7_distanceOf ∈ GW := GW_of (tb0 (i := 62) rfl) rfl
theorem gE_X7_fewestCopies : Cond.selects RX7 yX7_fewestCopies yX7_fewestCopies ∈ GW := GW_of (tb0 (i := 63) rfl) rfl
theorem gE_X7_scribeOfCopy : Cond.selects RX7 yX7_scribeOfCopy yX7_scribeOfCopy ∈ GW := GW_of (tb0 (i := 64) rfl) rfl
theorem gE_X2_add : Cond.selects RX2 yX2_add yX2_add ∈ GW := GW_of (tb0 (i := 65) rfl) rfl
theorem gE_X2_countFits : Cond.selects RX2 yX2_countFits yX2_countFits ∈ GW := GW_of (tb0 (i := 66) rfl) rfl
theorem gE_X2_firstFit : Cond.selects RX2 yX2_firstFit yX2_firstFit ∈ GW := GW_of (tb0 (i := 67) rfl) rfl
theorem gE_X2_mostTelling : Cond.selects RX2 yX2_mostTelling yX2_mostTelling ∈ GW := GW_of (tb0 (i := 68) rfl) rfl
theorem gE_X2_answersTo : Cond.selects RX2 yX2_answersTo yX2_answersTo ∈ GW := GW_of (tb0 (i := 69) rfl) rfl
theorem gE_X3_ask : Cond.selects RX3 yX3_ask yX3_ask ∈ GW := GW_of (tb0 (i := 70) rfl) rfl
theorem gE_X6_become : Cond.selects RX6 yX6_become yX6_become ∈ GW := GW_of (tb0 (i := 71) rfl) rfl
theorem gE_X9_plain : Cond.selects RX9 yX9_plain yX9_plain ∈ GW := GW_of (tb0 (i := 72) rfl) rfl
theorem gE_X9_takeDraft : Cond.selects RX9 yX9_takeDraft yX9_takeDraft ∈ GW := GW_of (tb0 (i := 73) rfl) rfl
theorem gE_X9_step : Cond.selects RX9 yX9_step yX9_step ∈ GW := GW_of (tb0 (i := 74) rfl) rfl
theorem gE_X9_here : Cond.selects RX9 yX9_here yX9_here ∈ GW := GW_of (tb0 (i := 75) rfl) rfl
theorem gE_X9_mayBe : Cond.selects RX9 yX9_mayBe yX9_mayBe ∈ GW := GW_of (tb0 (i := 76) rfl) rfl
theorem gE_X9_due : Cond.selects RX9 yX9_due yX9_due ∈ GW := GW_of (tb0 (i := 77) rfl) rfl
theorem gE_X9_readRow : Cond.selects RX9 yX9_readRow yX9_readRow ∈ GW := GW_of (tb0 (i := 78) rfl) rfl
theorem gE_X9_number : Cond.selects RX9 yX9_number yX9_number ∈ GW := GW_of (tb0 (i := 79) rfl) rfl
theorem gE_X9_isLine : Cond.selects RX9 yX9_isLine yX9_isLine ∈ GW := GW_of (tb0 (i := 80) rfl) rfl
theorem gE_X9_lineOf : Cond.selects RX9 yX9_lineOf yX9_lineOf ∈ GW := GW_of (tb0 (i := 81) rfl) rfl
theorem gE_X9_isScribe : Cond.selects RX9 yX9_isScribe yX9_isScribe ∈ GW := GW_of (tb0 (i := 82) rfl) rfl
theorem gE_X9_disagrees : Cond.selects RX9 yX9_disagrees yX9_disagrees ∈ GW := GW_of (tb0 (i := 83) rfl) rfl
theorem gE_X9_saysOf : Cond.selects RX9 yX9_saysOf yX9_saysOf ∈ GW := GW_of (tb0 (i := 84) rfl) rfl
theorem gE_X9_isConvinced : Cond.selects RX9 yX9_isConvinced yX9_isConvinced ∈ GW := GW_of (tb0 (i := 85) rfl) rfl
theorem gE_X9_comes : Cond.selects RX9 yX9_comes yX9_comes ∈ GW := GW_of (tb0 (i := 86) rfl) rfl
theorem gE_X9_copyOf : Cond.selects RX9 yX9_copyOf yX9_copyOf ∈ GW := GW_of (tb0 (i := 87) rfl) rfl
theorem gE_X9_isOpinion : Cond.selects RX9 yX9_isOpinion yX9_isOpinion ∈ GW := GW_of (tb0 (i := 88) rfl) rfl
theorem gE_X9_know : Cond.selects RX9 yX9_know yX9_know ∈ GW := GW_of (tb0 (i := 89) rfl) rfl
theorem gE_X9_put : Cond.selects RX9 yX9_put yX9_put ∈ GW := GW_of (tb0 (i := 90) rfl) rfl
theorem gE_X9_fromOf : Cond.selects RX9 yX9_fromOf yX9_fromOf ∈ GW := GW_of (tb0 (i := 91) rfl) rfl
theorem gE_X9_books : Cond.selects RX9 yX9_books yX9_books ∈ GW := GW_of (tb0 (i := 92) rfl) rfl
theorem gE_X9_mayCome : Cond.selects RX9 yX9_mayCome yX9_mayCome ∈ GW := GW_of (tb0 (i := 93) rfl) rfl
theorem gE_X9_same : Cond.selects RX9 yX9_same yX9_same ∈ GW := GW_of (tb0 (i := 94) rfl) rfl
theorem gE_X9_isSo : Cond.selects RX9 yX9_isSo yX9_isSo ∈ GW := GW_of (tb0 (i := 95) rfl) rfl
theorem gE_X9_boughtIn : Cond.selects RX9 yX9_boughtIn yX9_boughtIn ∈ GW := GW_of (tb0 (i := 96) rfl) rfl
theorem gE_X9_go : Cond.selects RX9 yX9_go yX9_go ∈ GW := GW_of (tb0 (i := 97) rfl) rfl
theorem gE_X9_measure : Cond.selects RX9 yX9_measure yX9_measure ∈ GW := GW_of (tb0 (i := 98) rfl) rfl
end
section
/-! ===== loops and branches of the pure functions ===== -/
/-- a loop of at most n turns: .inl goes on, .inr ends it -/
def lpF {σ T : Type} (B : σ → Option (σ ⊕ T)) : Nat → σ → Option T
  | 0, _ => none
  | n + 1, s => (B s).bind (fun y => Sum.elim (lpF B n) some y)
/-- more turns than any loop of the class or of the reference takes -/
def FU : Nat := 30000
theorem bnd {α β : Type} {o : Option α} {f : α → Option β} {y : β} (h : o.bind f = some y) : ∃ r, o = some r ∧ f r = some y := by
  cases o with
  | none => cases h
  | some r => exact ⟨r, rfl, h⟩
theorem lp_ind {σ T : Type} {B : σ → Option (σ ⊕ T)} {Wh : σ → Prop} {K : T → Prop} (hstep : ∀ (z : σ) (y : σ ⊕ T), B z = some y → Sum.elim Wh K y → Wh z) : ∀ (n : Nat) (z : σ) (x : T), lpF B n z = some x → K x → Wh z := by
  intro n
  induction n with
  | zero => intro z x h; cases h
  | succ n ih =>
    intro z x h hK
    obtain ⟨y, h1, h2⟩ := bnd h
    refine hstep z y h1 ?_
    cases y with
    | inl z' => exact ih z' x h2 hK
    | inr t =>
      have h3 : some t = some x := h2
      cases h3
      exact hK
theorem ifP {c : Prop} [Decidable c] {α : Type} {a b x : α} (hc : c) (h : (if c then a else b) = x) : a = x := (if_pos hc).symm.trans h
theorem ifN {c : Prop} [Decidable c] {α : Type} {a b x : α} (hc : ¬ c) (h : (if c then a else b) = x) : b = x := (if_neg hc).symm.trans h
theorem ifS {c : Prop} [Decidable c] {α : Type} {a : Option α} {x : α} (h : (if c then none else a) = some x) : ¬ c ∧ a = some x := by
  by_cases hc : c
  · rw [if_pos hc] at h; cases h
  · rw [if_neg hc] at h; exact ⟨hc, h⟩
theorem leafK {T : Type} {a y : T} {K : T → Prop} (hB : some a = some y) (hK : K y) : K a := by cases hB; exact hK
theorem elimR {α β : Type} {f : α → Prop} {g : β → Prop} {t : β} (h : Sum.elim f g (.inr t)) : g t := h
theorem elimL {α β : Type} {f : α → Prop} {g : β → Prop} {t : α} (h : Sum.elim f g (.inl t)) : f t := h
theorem vinC {i : Int32} {n : Nat} (h : decide (i < 0 ∨ n ≤ i.toNatClampNeg) = false) : vp_in i n := of_decide_eq_false h
/-! ===== the words of a nest, the classes of arrays ===== -/
def isNest : Cond → Bool
  | .fieldLinkNest _ _ _ _ _ _ => true
  | .methodLinkNest _ _ _ _ => true
  | _ => false
def NW (U : State) : Prop := ∀ w ∈ lw_tbl, isNest w = true → va_Nw w U
theorem NW.warm {s U : State} (hW : s.WarmedH U.vm) (h : NW s) : NW U := by
  intro w hw hn
  have h1 := h w hw hn
  cases w <;> first | exact va_Nw.warmF hW h1 | exact va_Nw.warmM hW h1 | (cases hn)
theorem NW.same {u U : State} (e : u.vm = U.vm) (h : NW u) : NW U := by
  intro w hw hn
  have h1 := h w hw hn
  cases w <;> first | exact va_Nw.same rfl e h1 | (cases hn)
theorem NW.of {A : Array Value} {s : State} (h : ∀ w ∈ lw_tbl, w.before A s = true) : NW s := by
  intro w hw hn
  have h1 := h w hw
  cases w <;> first | exact va_Nw.of rfl h1 | (cases hn)
/-- the classes of int[], byte[], boolean[], int[][] -/
def TYS (cs : Nat → ClassId) : List (ClassId × FieldType) := [(cs 0, .int), (cs 1, .byte), (cs 2, .boolean), (cs 3, .array .int)]
abbrev KT (G : va_G) (cs : Nat → ClassId) (U : State) : Prop := va_K G vwCl (TYS cs) U
/-- the start of a method that only reads -/
def PcR (G : va_G) (cs : Nat → ClassId) (av : List Value) (ws : va_W) : Array Value → State → Prop := va_Pc av (fun U => va_P G vwCl ws U.heap ∧ KT G cs U ∧ NW U)
/-- the start of a method that writes -/
def PcW (G : va_G) (cs : Nat → ClassId) (av : List Value) (ws : va_W) (sz : Nat) : Array Value → State → Prop := va_Pc av (fun U => U.heap.size = sz ∧ va_P G vwCl ws U.heap ∧ va_D (fun _ => True) ws ∧ KT G cs U ∧ NW U)
theorem PcR_blind {G : va_G} {cs : Nat → ClassId} {av : List Value} {ws : va_W} : FrameBlind (PcR G cs av ws) := fun a U g mk q => by
  obtain ⟨q0, qP, qK, qN⟩ := q
  exact ⟨q0, qP, va_K.moved (u := U) (U := U.calling g mk a) (Vm.Alike.refl U.vm) qK, NW.same (u := U) (U := U.calling g mk a) rfl qN⟩
theorem PcW_blind {G : va_G} {cs : Nat → ClassId} {av : List Value} {ws : va_W} {sz : Nat} : FrameBlind (PcW G cs av ws sz) := fun a U g mk q => by
  obtain ⟨q0, qz, qP, qD, qK, qN⟩ := q
  exact ⟨q0, qz, qP, qD, va_K.moved (u := U) (U := U.calling g mk a) (Vm.Alike.refl U.vm) qK, NW.same (u := U) (U := U.calling g mk a) rfl qN⟩
/-- the end of a method that writes: what it answers, and its world behind it -/
def QcI (G : va_G) (A : Nat → Prop) (w1 : va_W) (r0 : Int32) : Array Value → State → Outcome → State → Prop := va_Qi (fun r (_ : Unit) => r = r0) (fun _ t => va_P G vwCl w1 t.heap ∧ va_D A w1) A
def QcV (G : va_G) (A : Nat → Prop) (w1 : va_W) : Array Value → State → Outcome → State → Prop := va_Qv (fun (_ : Unit) => True) (fun _ t => va_P G vwCl w1 t.heap ∧ va_D A w1) A
theorem va_P.subM {D : va_G} {cl : List vw_C} {ws wc : va_W} {H : Heap} (h : va_P D cl ws H) (is : List Nat) (hs : is.map (fun i => ws[i]?) = wc.map some) : va_P D cl wc H := by
  intro k q hk
  have h1 : (is.map (fun i => ws[i]?))[k]? = some (some q) := by rw [hs, List.getElem?_map, hk]; rfl
  rw [List.getElem?_map] at h1
  cases hi : is[k]? with
  | none => rw [hi] at h1; cases h1
  | some i => rw [hi] at h1; exact h i q (Option.some.inj h1)
theorem filt_map {ws : va_W} : ∀ (is : List Nat), is.all (fun i => decide (i < ws.length)) = true → is.map (fun i => ws[i]?) = (is.filterMap (fun i => ws[i]?)).map some
  | [], _ => rfl
  | i :: l, h => by
    simp only [List.all_cons, Bool.and_eq_true, decide_eq_true_eq] at h
    have e : ws[i]? = some ws[i] := List.getElem?_eq_getElem h.1
    rw [List.map_cons, List.filterMap_cons, e, filt_map l h.2]
    rfl
/-! ===== what the tables say of a method that is called ===== -/
def MI (y : MethodName) (C : String) (bytes : ByteArray) (maxL : Nat) (ret : Option FieldType) (n : Nat) : Prop :=
  Cond.instanceMethod y ∈ GW ∧ Cond.selects C y y ∈ GW ∧ Cond.initialized C ∈ GW ∧ Cond.code y bytes maxL ret ∈ GW ∧ (y.cls = C ∧ y.cls ≠ "java/lang/invoke/MethodHandle" ∧ y.cls ≠ "java/lang/invoke/VarHandle" ∧ (parseMethodDescriptor y.desc).map (fun d => d.parameters.length) = some n)
def MS (y : MethodName) (bytes : ByteArray) (maxL : Nat) (ret : Option FieldType) (n : Nat) : Prop :=
  Cond.static y ∈ GW ∧ Cond.initialized y.cls ∈ GW ∧ Cond.code y bytes maxL ret ∈ GW ∧ (y.cls ≠ "java/lang/invoke/MethodHandle" ∧ y.cls ≠ "java/lang/invoke/VarHandle" ∧ (parseMethodDescriptor y.desc).map (fun d => d.parameters.length) = some n)
theorem goodC {c : Cond} (h : c ∈ GW) : GoodIn GW (c :: GW) := fun w hw => by
  rcases List.mem_cons.mp hw with e | e
  · rw [e]; exact ⟨h, GW_good h⟩
  · exact ⟨e, GW_good e⟩
theorem goodV {own C : String} {idx maxL : Nat} {y : MethodName} {bytes : ByteArray} {ret : Option FieldType} {n : Nat} (h1 : Cond.methodLink own idx y ∈ GW) (mi : MI y C bytes maxL ret n) : GoodIn GW (wsV own idx C y (.code y bytes maxL ret :: GW)) := fun w hw => by
  obtain ⟨h2, h3, h4, h5, -⟩ := mi
  rcases List.mem_append.mp hw with e | e
  · simp only [List.mem_cons, List.not_mem_nil, or_false] at e
    rcases e with rfl | rfl | rfl | rfl
    · exact ⟨h1, GW_good h1⟩
    · exact ⟨h2, GW_good h2⟩
    · exact ⟨h3, GW_good h3⟩
    · exact ⟨h4, GW_good h4⟩
  · exact goodC h5 w e
theorem goodS {own : String} {idx maxL : Nat} {y : MethodName} {bytes : ByteArray} {ret : Option FieldType} {n : Nat} (h1 : Cond.methodLink own idx y ∈ GW) (mi : MS y bytes maxL ret n) : GoodIn GW (va_wsS own idx y (.code y bytes maxL ret :: GW)) := fun w hw => by
  obtain ⟨h2, h3, h5, -⟩ := mi
  rcases List.mem_append.mp hw with e | e
  · simp only [List.mem_cons, List.not_mem_nil, or_false] at e
    rcases e with rfl | rfl | rfl
    · exact ⟨h1, GW_good h1⟩
    · exact ⟨h2, GW_good h2⟩
    · exact ⟨h3, GW_good h3⟩
  · exact goodC h5 w e
section KCALL
variable {p : Program} {l : Launch} {e : Env} {R : Room} {s : State} {m : MethodId} {args : Array Value} {below : List Frame} {meth : Method} {c : Code} {H H0 : Heap} {locs : List Loc} {cells slots : Nat} {Q : State → Prop} {G : va_G} {cs : Nat → ClassId}
variable {y : MethodName} {bytes cc : ByteArray} {maxL nL n index pc : Nat} {ret : Option FieldType} {rm : Room} {own C host : String} {b : Addr} {As rest st : List Value} {ls : Array Slot} {WS WC : va_W} {r0 : Int32} {A : Nat → Prop}
abbrev RmOk (R rm : Room) (maxL cells slots : Nat) : Prop := rm.cells = 0 ∧ rm.slots = 0 ∧ rm.frames + 1 ≤ R.frames ∧ 8 + (maxL + 11) + rm.locals ≤ R.locals ∧ cells ≤ R.cells ∧ slots ≤ R.slots
theorem cwV' (hg : ∀ w ∈ GW, w.before args s = true) (ml : Cond.methodLink own index y ∈ GW) (mi : MI y C bytes maxL ret n) (hR : RmOk R rm maxL cells slots) : CallW R s args own C index y bytes maxL ret (.code y bytes maxL ret :: GW) rm 0 0 n :=
  cwV n hg (goodV ml mi) rfl hR.1 hR.2.1 mi.2.2.2.2 ⟨hR.2.2.1, hR.2.2.2.1⟩
theorem cwVN' (hg : ∀ w ∈ GW, w.before args s = true) (hN : NW s) (ml : Cond.methodLinkNest own index y host ∈ lw_tbl) (mi : MI y C bytes maxL ret n) (hR : RmOk R rm maxL cells slots) : va_CN R s args own index y host bytes maxL ret (.code y bytes maxL ret :: GW) rm 0 0 n ∧ (Cond.instanceMethod y).before args s = true ∧ (Cond.selects C y y).before args s = true := by
  obtain ⟨h2, h3, h4, h5, h6, h7, h8, h9⟩ := mi
  exact ⟨va_cnB n hg (goodC h5) rfl hR.1 hR.2.1 (hN _ ml rfl) (by rw [h6]; exact hg _ h4) ⟨h7, h8, h9⟩ ⟨hR.2.2.1, hR.2.2.2.1⟩, hg _ h2, hg _ h3⟩
theorem cwS' (hg : ∀ w ∈ GW, w.before args s = true) (ml : Cond.methodLink own index y ∈ GW) (mi : MS y bytes maxL ret n) (hR : RmOk R rm maxL cells slots) : CallB R s args own index y bytes maxL ret (.code y bytes maxL ret :: GW) rm 0 0 n ∧ (Cond.static y).before args s = true :=
  va_cwS n hg (goodS ml mi) rfl hR.1 hR.2.1 mi.2.2.2 ⟨hR.2.2.1, hR.2.2.2.1⟩
theorem cwSN' (hg : ∀ w ∈ GW, w.before args s = true) (hN : NW s) (ml : Cond.methodLinkNest own index y host ∈ lw_tbl) (mi : MS y bytes maxL ret n) (hR : RmOk R rm maxL cells slots) : va_CN R s args own index y host bytes maxL ret (.code y bytes maxL ret :: GW) rm 0 0 n ∧ (Cond.static y).before args s = true ∧ True := by
  obtain ⟨h2, h4, h5, h7, h8, h9⟩ := mi
  exact ⟨va_cnB n hg (goodC h5) rfl hR.1 hR.2.1 (hN _ ml rfl) (hg _ h4) ⟨h7, h8, h9⟩ ⟨hR.2.2.1, hR.2.2.2.1⟩, hg _ h2, trivial⟩
abbrev CFix (p : Program) (m : MethodId) (c : Code) (cc : ByteArray) (nL : Nat) (s : State) (args : Array Value) (own : String) : Prop := CallFix p m c cc nL s args GW own
/-- reading calls -/
theorem kr_V (S : CFix p m c cc nL s args own) (hM : Met l y (.code y bytes maxL ret :: GW) rm (PcR G cs (.ref b :: As) WC) (vp_Si (fun r => r = r0)) 0 0 (fun _ => False)) (ml : Cond.methodLink own index y ∈ GW) (mi : MI y C bytes maxL ret n) (hR : RmOk R rm maxL cells slots)
    (hP : va_P G vwCl WS H) (hK : KT G cs s) (hN : NW s) (q0 : Nat) {ci N : Nat} {T : u_T} {fs : List Value} (he : WS[q0]? = some (b, .inr (ci, fs))) (hcl : vwCl[ci]? = some (C, T, N)) (is : List Nat) (hs : is.map (fun i => WS[i]?) = WC.map some)
    (hn : As.length = n) (hsize : ls.size = nL) (hst : st = As.reverse ++ .ref b :: rest) (hW : (rest.map fun v => v.category).sum ≤ 8) (hdg : decode cc pc = .ok (.invokevirtual index, 3))
    (k : W p l e R s m args below meth c H locs cells slots Q (F0 m (pc + 3) ls (.int r0 :: rest))) : W p l e R s m args below meth c H locs cells slots Q (F0 m pc ls st) := by
  subst hst
  exact vp_callSi (W.runV S hM (cwV' S.2.2.2.2 ml mi hR) ⟨PcR_blind, va_recv hK hP hcl he, fun U hU hWm => ⟨rfl, by rw [hU]; exact hP.subM is hs, va_K.moved hWm.alike hK, NW.warm hWm hN⟩⟩ rfl hn hsize rfl (lv_room hW) hdg ⟨hR.2.2.2.2.1, hR.2.2.2.2.2⟩) (fun r hr => by subst hr; exact k)
theorem kr_VN (S : CFix p m c cc nL s args own) (hM : Met l y (.code y bytes maxL ret :: GW) rm (PcR G cs (.ref b :: As) WC) (vp_Si (fun r => r = r0)) 0 0 (fun _ => False)) (ml : Cond.methodLinkNest own index y host ∈ lw_tbl) (mi : MI y C bytes maxL ret n) (hR : RmOk R rm maxL cells slots)
    (hP : va_P G vwCl WS H) (hK : KT G cs s) (hN : NW s) (q0 : Nat) {ci N : Nat} {T : u_T} {fs : List Value} (he : WS[q0]? = some (b, .inr (ci, fs))) (hcl : vwCl[ci]? = some (C, T, N)) (is : List Nat) (hs : is.map (fun i => WS[i]?) = WC.map some)
    (hn : As.length = n) (hsize : ls.size = nL) (hst : st = As.reverse ++ .ref b :: rest) (hW : (rest.map fun v => v.category).sum ≤ 8) (hdg : decode cc pc = .ok (.invokevirtual index, 3))
    (k : W p l e R s m args below meth c H locs cells slots Q (F0 m (pc + 3) ls (.int r0 :: rest))) : W p l e R s m args below meth c H locs cells slots Q (F0 m pc ls st) := by
  subst hst
  exact vp_callSi (va_Run.run (va_runVN S hM (cwVN' S.2.2.2.2 hN ml mi hR) ⟨PcR_blind, va_recv hK hP hcl he, fun U hU hWm => ⟨rfl, by rw [hU]; exact hP.subM is hs, va_K.moved hWm.alike hK, NW.warm hWm hN⟩⟩ rfl hn hsize rfl (lv_room hW) hdg ⟨hR.2.2.2.2.1, hR.2.2.2.2.2⟩)) (fun r hr => by subst hr; exact k)
theorem kr_S (S : CFix p m c cc nL s args own) (hM : Met l y (.code y bytes maxL ret :: GW) rm (PcR G cs As WC) (vp_Si (fun r => r = r0)) 0 0 (fun _ => False)) (ml : Cond.methodLink own index y ∈ GW) (mi : MS y bytes maxL ret n) (hR : RmOk R rm maxL cells slots)
    (hP : va_P G vwCl WS H) (hK : KT G cs s) (hN : NW s) (is : List Nat) (hs : is.map (fun i => WS[i]?) = WC.map some)
    (hn : As.length = n) (hsize : ls.size = nL) (hst : st = As.reverse ++ rest) (hW : (rest.map fun v => v.category).sum ≤ 8) (hdg : decode cc pc = .ok (.invokestatic index, 3))
    (k : W p l e R s m args below meth c H locs cells slots Q (F0 m (pc + 3) ls (.int r0 :: rest))) : W p l e R s m args below meth c H locs cells slots Q (F0 m pc ls st) := by
  subst hst
  exact vp_callSi (W.runS S hM (cwS' S.2.2.2.2 ml mi hR) ⟨PcR_blind, fun U hU hWm => ⟨rfl, by rw [hU]; exact hP.subM is hs, va_K.moved hWm.alike hK, NW.warm hWm hN⟩⟩ rfl hn hsize rfl (lv_room hW) hdg ⟨hR.2.2.2.2.1, hR.2.2.2.2.2⟩) (fun r hr => by subst hr; exact k)
theorem kr_SN (S : CFix p m c cc nL s args own) (hM : Met l y (.code y bytes maxL ret :: GW) rm (PcR G cs As WC) (vp_Si (fun r => r = r0)) 0 0 (fun _ => False)) (ml : Cond.methodLinkNest own index y host ∈ lw_tbl) (mi : MS y bytes maxL ret n) (hR : RmOk R rm maxL cells slots)
    (hP : va_P G vwCl WS H) (hK : KT G cs s) (hN : NW s) (is : List Nat) (hs : is.map (fun i => WS[i]?) = WC.map some)
    (hn : As.length = n) (hsize : ls.size = nL) (hst : st = As.reverse ++ rest) (hW : (rest.map fun v => v.category).sum ≤ 8) (hdg : decode cc pc = .ok (.invokestatic index, 3))
    (k : W p l e R s m args below meth c H locs cells slots Q (F0 m (pc + 3) ls (.int r0 :: rest))) : W p l e R s m args below meth c H locs cells slots Q (F0 m pc ls st) := by
  subst hst
  exact vp_callSi (va_Run.run (va_runSN S hM (cwSN' S.2.2.2.2 hN ml mi hR) ⟨PcR_blind, fun U hU hWm => ⟨rfl, by rw [hU]; exact hP.subM is hs, va_K.moved hWm.alike hK, NW.warm hWm hN⟩⟩ rfl hn hsize rfl (lv_room hW) hdg ⟨hR.2.2.2.2.1, hR.2.2.2.2.2⟩)) (fun r hr => by subst hr; exact k)
/-- writing calls: isC the callee's places, isR the others', pe the order behind it -/
abbrev Cut (WS WC W1 W2 : va_W) (isC isR pe : List Nat) : Prop := isC.map (fun i => WS[i]?) = WC.map some ∧ va_nd isC = true ∧ isR.all (fun i => decide (i < WS.length)) = true ∧ va_nd isR = true ∧ isR.all (fun i => decide (i ∉ isC)) = true ∧ pe.map (fun i => (isR.filterMap (fun i => WS[i]?) ++ W1)[i]?) = W2.map some ∧ va_nd pe = true
theorem cut_join {W1 W2 : va_W} {isC isR pe : List Nat} {H1 : Heap} (hP : va_P G vwCl WS H) (hD : va_D A WS) (hc : Cut WS WC W1 W2 isC isR pe) (hk : ∀ q : Nat, q < H.size → ¬ va_A WC H.size q → H1[q]? = H[q]?) (hF : ∀ q, va_A WC H.size q → A q) (hP1 : va_P G vwCl W1 H1) (hD1 : va_D (va_A WC H.size) W1) : va_P G vwCl W2 H1 ∧ va_D A W2 := by
  obtain ⟨h1, h2, h3, h4, h5, h6, h7⟩ := hc
  obtain ⟨jP, jD⟩ := va_join (wr := isR.filterMap (fun i => WS[i]?)) (w1 := W1) hP hD isC isR h1 (filt_map isR h3) h4 (fun i hi => of_decide_eq_true (List.all_eq_true.mp h5 i hi)) hk hF hP1 hD1
  exact ⟨jP.subM pe h6, jD.sub pe h7 h6⟩
theorem kw_i {W1 W2 : va_W} (hr : va_Run p l e R s m args below meth c H locs cells slots 0 0 (F0 m pc ls st) rest (QcI G (va_A WC H.size) W1 r0 As.toArray) (va_A WC H.size)) (hP : va_P G vwCl WS H) (hD : va_D A WS) (hS : va_S A H0 H locs) (hA : ∀ q, H0.size ≤ q → A q) (isC isR pe : List Nat) (hc : Cut WS WC W1 W2 isC isR pe)
    (k : ∀ (H1 : Heap) (locs1 : List Loc), va_P G vwCl W2 H1 → va_D A W2 → va_S A H0 H1 locs1 → W p l e R s m args below meth c H1 locs1 cells slots Q (F0 m (pc + 3) ls (.int r0 :: rest))) : W p l e R s m args below meth c H locs cells slots Q (F0 m pc ls st) := by
  have hF := va_free (wc := WC) hD hS hA isC hc.1
  refine va_calli hr hS (fun q _ h => hF q h) hF (fun r u t H1 locs1 ht hvm hw hB hz1 hk1 hS1 => ?_)
  obtain ⟨hP1, hD1⟩ := hB
  rw [ht] at hP1
  obtain ⟨jP, jD⟩ := cut_join hP hD hc hk1 hF hP1 hD1
  have e : r = r0 := hw
  subst e
  exact k H1 locs1 jP jD hS1
theorem kw_v {W1 W2 : va_W} (hr : va_Run p l e R s m args below meth c H locs cells slots 0 0 (F0 m pc ls st) rest (QcV G (va_A WC H.size) W1 As.toArray) (va_A WC H.size)) (hP : va_P G vwCl WS H) (hD : va_D A WS) (hS : va_S A H0 H locs) (hA : ∀ q, H0.size ≤ q → A q) (isC isR pe : List Nat) (hc : Cut WS WC W1 W2 isC isR pe)
    (k : ∀ (H1 : Heap) (locs1 : List Loc), va_P G vwCl W2 H1 → va_D A W2 → va_S A H0 H1 locs1 → W p l e R s m args below meth c H1 locs1 cells slots Q (F0 m (pc + 3) ls rest)) : W p l e R s m args below meth c H locs cells slots Q (F0 m pc ls st) := by
  have hF := va_free (wc := WC) hD hS hA isC hc.1
  refine va_callv hr hS (fun q _ h => hF q h) hF (fun u t H1 locs1 ht hvm hw hB hz1 hk1 hS1 => ?_)
  obtain ⟨hP1, hD1⟩ := hB
  rw [ht] at hP1
  obtain ⟨jP, jD⟩ := cut_join hP hD hc hk1 hF hP1 hD1
  exact k H1 locs1 jP jD hS1
/-- a writing call as a run: virtual, of its own class or of a nest mate's -/
theorem rw_V {Qc : Array Value → State → Outcome → State → Prop} {fr : Addr → Prop} (S : CFix p m c cc nL s args own) (hM : Met l y (.code y bytes maxL ret :: GW) rm (PcW G cs (.ref b :: As) WC H.size) Qc 0 0 fr) (ml : Cond.methodLink own index y ∈ GW) (mi : MI y C bytes maxL ret n) (hR : RmOk R rm maxL cells slots)
    (hP : va_P G vwCl WS H) (hD : va_D A WS) (hK : KT G cs s) (hN : NW s) (q0 : Nat) {ci N : Nat} {T : u_T} {fs : List Value} (he : WS[q0]? = some (b, .inr (ci, fs))) (hcl : vwCl[ci]? = some (C, T, N)) (is : List Nat) (hs : is.map (fun i => WS[i]?) = WC.map some) (hnd : va_nd is = true)
    (hn : As.length = n) (hsize : ls.size = nL) (hst : st = As.reverse ++ .ref b :: rest) (hW : (rest.map fun v => v.category).sum ≤ 8) (hdg : decode cc pc = .ok (.invokevirtual index, 3)) : va_Run p l e R s m args below meth c H locs cells slots 0 0 (F0 m pc ls st) rest (Qc (Value.ref b :: As).toArray) fr := by
  subst hst
  exact va_runV S hM (cwV' S.2.2.2.2 ml mi hR) ⟨PcW_blind, va_recv hK hP hcl he, fun U hU hWm => ⟨rfl, by rw [hU], by rw [hU]; exact hP.subM is hs, (hD.sub is hnd hs).weaken (fun _ _ _ _ => trivial), va_K.moved hWm.alike hK, NW.warm hWm hN⟩⟩ rfl hn hsize rfl (lv_room hW) hdg ⟨hR.2.2.2.2.1, hR.2.2.2.2.2⟩
theorem rw_VN {Qc : Array Value → State → Outcome → State → Prop} {fr : Addr → Prop} (S : CFix p m c cc nL s args own) (hM : Met l y (.code y bytes maxL ret :: GW) rm (PcW G cs (.ref b :: As) WC H.size) Qc 0 0 fr) (ml : Cond.methodLinkNest own index y host ∈ lw_tbl) (mi : MI y C bytes maxL ret n) (hR : RmOk R rm maxL cells slots)
    (hP : va_P G vwCl WS H) (hD : va_D A WS) (hK : KT G cs s) (hN : NW s) (q0 : Nat) {ci N : Nat} {T : u_T} {fs : List Value} (he : WS[q0]? = some (b, .inr (ci, fs))) (hcl : vwCl[ci]? = some (C, T, N)) (is : List Nat) (hs : is.map (fun i => WS[i]?) = WC.map some) (hnd : va_nd is = true)
    (hn : As.length = n) (hsize : ls.size = nL) (hst : st = As.reverse ++ .ref b :: rest) (hW : (rest.map fun v => v.category).sum ≤ 8) (hdg : decode cc pc = .ok (.invokevirtual index, 3)) : va_Run p l e R s m args below meth c H locs cells slots 0 0 (F0 m pc ls st) rest (Qc (Value.ref b :: As).toArray) fr := by
  subst hst
  exact va_runVN S hM (cwVN' S.2.2.2.2 hN ml mi hR) ⟨PcW_blind, va_recv hK hP hcl he, fun U hU hWm => ⟨rfl, by rw [hU], by rw [hU]; exact hP.subM is hs, (hD.sub is hnd hs).weaken (fun _ _ _ _ => trivial), va_K.moved hWm.alike hK, NW.warm hWm hN⟩⟩ rfl hn hsize rfl (lv_room hW) hdg ⟨hR.2.2.2.2.1, hR.2.2.2.2.2⟩
end KCALL
/-! ===== Java's own numbers ===== -/
def jrem (x y : Int32) : Int32 := x - x / y * y
def jshl (x y : Int32) : Int32 := x <<< (y &&& 31)
def jshr (x y : Int32) : Int32 := x >>> (y &&& 31)
def jushr (x y : Int32) : Int32 := (x.toUInt32 >>> (y.toUInt32 &&& Int32.toUInt32 31)).toInt32
theorem inc_ok {x c : Int32} {n : Int} (h : Int32.ofInt n = c) : x + Int32.ofInt n = x + c := by rw [h]
theorem ifG {c : Prop} [Decidable c] {α : Type} {a : Option α} {x : α} (h : (if c then a else none) = some x) : c ∧ a = some x := by
  by_cases hc : c
  · rw [if_pos hc] at h; exact ⟨hc, h⟩
  · rw [if_neg hc] at h; cases h
theorem nar01 {r : Int32} (h : r = 0 ∨ r = 1) : narrow .boolean (.int r) = .int r := by
  rcases h with rfl | rfl <;> rfl
theorem rmk {R rm : Room} {maxL : Nat} (h : (Nat.beq rm.cells 0 && Nat.beq rm.slots 0 && Nat.ble (rm.frames + 1) R.frames && Nat.ble (8 + (maxL + 11) + rm.locals) R.locals) = true) : RmOk R rm maxL 0 0 := by
  simp only [Bool.and_eq_true] at h
  obtain ⟨⟨⟨h1, h2⟩, h3⟩, h4⟩ := h
  exact ⟨Nat.eq_of_beq_eq_true h1, Nat.eq_of_beq_eq_true h2, Nat.le_of_ble_eq_true h3, Nat.le_of_ble_eq_true h4, Nat.zero_le _, Nat.zero_le _⟩
/-! ===== the grid of a Standing: 11 rows of 9 ===== -/
def gO (ra : Nat → Nat) : Nat → Option Nat := fun i => if i < 11 then some (ra i) else none
def gR (c : ClassId) (ra : Nat → Nat) (M : Nat → Nat → Int32) : va_W := [(ra 0, .inl (c, 9, .inl (M 0))), (ra 1, .inl (c, 9, .inl (M 1))), (ra 2, .inl (c, 9, .inl (M 2))), (ra 3, .inl (c, 9, .inl (M 3))), (ra 4, .inl (c, 9, .inl (M 4))), (ra 5, .inl (c, 9, .inl (M 5))), (ra 6, .inl (c, 9, .inl (M 6))), (ra 7, .inl (c, 9, .inl (M 7))), (ra 8, .inl (c, 9, .inl (M 8))), (ra 9, .inl (c, 9, .inl (M 9))), (ra 10, .inl (c, 9, .inl (M 10)))]
theorem gR_at {c : ClassId} {ra : Nat → Nat} {M : Nat → Nat → Int32} {k : Nat} (h : k < 11) : (gR c ra M)[k]? = some (ra k, .inl (c, 9, .inl (M k))) := by
  rcases (show k = 0 ∨ k = 1 ∨ k = 2 ∨ k = 3 ∨ k = 4 ∨ k = 5 ∨ k = 6 ∨ k = 7 ∨ k = 8 ∨ k = 9 ∨ k = 10 by omega) with rfl | rfl | rfl | rfl | rfl | rfl | rfl | rfl | rfl | rfl | rfl <;> rfl
theorem gR_set {c : ClassId} {ra : Nat → Nat} {M : Nat → Nat → Int32} {k : Nat} {f : Nat → Int32} (h : k < 11) : (gR c ra M).set k (ra k, .inl (c, 9, .inl f)) = gR c ra (va_up M k f) := by
  rcases (show k = 0 ∨ k = 1 ∨ k = 2 ∨ k = 3 ∨ k = 4 ∨ k = 5 ∨ k = 6 ∨ k = 7 ∨ k = 8 ∨ k = 9 ∨ k = 10 by omega) with rfl | rfl | rfl | rfl | rfl | rfl | rfl | rfl | rfl | rfl | rfl <;> rfl
theorem vp_lt {i : Int32} {n : Nat} (h : vp_in i n) : i.toNatClampNeg < n := Nat.not_le.mp fun q => h (Or.inr q)
section VROW
variable {p : Program} {l : Launch} {e : Env} {R : Room} {s : State} {m : MethodId} {args : Array Value} {below : List Frame} {meth : Method} {c : Code} {H : Heap} {locs : List Loc} {cells slots : Nat} {Q : State → Prop} {cc : ByteArray} {pc : Nat} {ls : Array Slot} {rest : List Value} {G : va_G} {a : Nat} {ws : va_W} {cs : Nat → ClassId}
/-- a row's address is read out of the grid -/
theorem va_row (hexec : p.tables.exec = Jvm.exec) (hb : c.code = cc) (hK : KT G cs s) (hP : va_P G vwCl ws H) (q0 : Nat) {ra : Nat → Nat} (ha : ws[q0]? = some (a, .inl (cs 3, 11, .inr (.inr (.inr (.inr (gO ra))))))) {i : Int32} (hin : vp_in i 11) (hdg : decode cc pc = .ok (.aaload, 1))
    (kk : W p l e R s m args below meth c H locs cells slots Q (F0 m (pc + 1) ls (.ref (ra i.toNatClampNeg) :: rest))) : W p l e R s m args below meth c H locs cells slots Q (F0 m pc ls (.int i :: .ref a :: rest)) := by
  have hlt := vp_lt hin
  have e1 : va_rf (gO ra i.toNatClampNeg) = .ref (ra i.toNatClampNeg) := by rw [show gO ra i.toNatClampNeg = some (ra i.toNatClampNeg) from if_pos hlt]; rfl
  refine W.aald (v := va_rf (gO ra i.toNatClampNeg)) (ty := .array .int) hexec hb (hP q0 _ ha) ((hK.2 3 (cs 3, .array .int) rfl).1 11 (fun j => va_rf (gO ra j))) rfl (fun q => by cases q) (by show ¬ (i < 0 ∨ (arrV _ _ _).slots.size ≤ _); rw [arrV_size]; exact hin) (by show (arrV _ _ _).slots[_]? = _; rw [arrV_read _ _ hlt]) rfl rfl hdg ?_
  rw [e1]
  exact kk
end VROW
end
