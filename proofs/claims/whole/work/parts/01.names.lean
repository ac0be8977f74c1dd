-- ===== PART A: goes FIRST, ahead of the names: the tables' words, and 'selects' of the private methods out of them =====
/-- a private method of a class that the tables say can be made, by its rows of tables_1 -/
def lw_okq (q : MethodName × Nat) : Prop := (q.1.cls ≠ "java/lang/invoke/MethodHandle" ∧ q.1.cls ≠ "java/lang/invoke/VarHandle") ∧ Cond.instantiable q.1.cls q.2 ∈ tables_1 ∧ Cond.privateMethod q.1 ∈ tables_1 ∧ Cond.instanceMethod q.1 ∈ tables_1
theorem lw_p0 : lw_okq (⟨"PartedPension$Plan", "beginAnew", "(I)V"⟩, 10) := ⟨⟨by decide +kernel, by decide +kernel⟩, List.mem_of_getElem? (i := 31) (by decide +kernel), List.mem_of_getElem? (i := 142) (by decide +kernel), List.mem_of_getElem? (i := 143) (by decide +kernel)⟩
theorem lw_p1 : lw_okq (⟨"PartedPension$Reader", "append", "(I)V"⟩, 8) := ⟨⟨by decide +kernel, by decide +kernel⟩, List.mem_of_getElem? (i := 206) (by decide +kernel), List.mem_of_getElem? (i := 314) (by decide +kernel), List.mem_of_getElem? (i := 315) (by decide +kernel)⟩
theorem lw_p2 : lw_okq (⟨"PartedPension$Plan", "copyFrom", "(LPartedPension$Plan;)V"⟩, 10) := ⟨⟨by decide +kernel, by decide +kernel⟩, List.mem_of_getElem? (i := 31) (by decide +kernel), List.mem_of_getElem? (i := 326) (by decide +kernel), List.mem_of_getElem? (i := 327) (by decide +kernel)⟩
theorem lw_p3 : lw_okq (⟨"PartedPension$Span", "copyFrom", "(LPartedPension$Span;)V"⟩, 3) := ⟨⟨by decide +kernel, by decide +kernel⟩, List.mem_of_getElem? (i := 59) (by decide +kernel), List.mem_of_getElem? (i := 330) (by decide +kernel), List.mem_of_getElem? (i := 331) (by decide +kernel)⟩
theorem lw_p4 : lw_okq (⟨"PartedPension$Spouse", "copyFrom", "(LPartedPension$Spouse;)V"⟩, 9) := ⟨⟨by decide +kernel, by decide +kernel⟩, List.mem_of_getElem? (i := 82) (by decide +kernel), List.mem_of_getElem? (i := 334) (by decide +kernel), List.mem_of_getElem? (i := 335) (by decide +kernel)⟩
theorem lw_p5 : lw_okq (⟨"PartedPension$LifeTable", "copyFrom", "(LPartedPension$LifeTable;)V"⟩, 3) := ⟨⟨by decide +kernel, by decide +kernel⟩, List.mem_of_getElem? (i := 41) (by decide +kernel), List.mem_of_getElem? (i := 338) (by decide +kernel), List.mem_of_getElem? (i := 339) (by decide +kernel)⟩
theorem lw_p6 : lw_okq (⟨"PartedPension$Reader", "readAll", "(LPartedPension$Plan;)I"⟩, 8) := ⟨⟨by decide +kernel, by decide +kernel⟩, List.mem_of_getElem? (i := 206) (by decide +kernel), List.mem_of_getElem? (i := 342) (by decide +kernel), List.mem_of_getElem? (i := 343) (by decide +kernel)⟩
theorem lw_p7 : lw_okq (⟨"PartedPension$Reader", "readToken", "()V"⟩, 8) := ⟨⟨by decide +kernel, by decide +kernel⟩, List.mem_of_getElem? (i := 206) (by decide +kernel), List.mem_of_getElem? (i := 346) (by decide +kernel), List.mem_of_getElem? (i := 347) (by decide +kernel)⟩
theorem lw_p8 : lw_okq (⟨"PartedPension$Reader", "byteAt", "(I)I"⟩, 8) := ⟨⟨by decide +kernel, by decide +kernel⟩, List.mem_of_getElem? (i := 206) (by decide +kernel), List.mem_of_getElem? (i := 350) (by decide +kernel), List.mem_of_getElem? (i := 351) (by decide +kernel)⟩
theorem lw_p9 : lw_okq (⟨"PartedPension$Reader", "readWord", "()V"⟩, 8) := ⟨⟨by decide +kernel, by decide +kernel⟩, List.mem_of_getElem? (i := 206) (by decide +kernel), List.mem_of_getElem? (i := 357) (by decide +kernel), List.mem_of_getElem? (i := 358) (by decide +kernel)⟩
theorem lw_p10 : lw_okq (⟨"PartedPension$Reader", "readNumber", "()V"⟩, 8) := ⟨⟨by decide +kernel, by decide +kernel⟩, List.mem_of_getElem? (i := 206) (by decide +kernel), List.mem_of_getElem? (i := 364) (by decide +kernel), List.mem_of_getElem? (i := 365) (by decide +kernel)⟩
theorem lw_p11 : lw_okq (⟨"PartedPension$Reader", "readStatement", "(LPartedPension$Plan;)V"⟩, 8) := ⟨⟨by decide +kernel, by decide +kernel⟩, List.mem_of_getElem? (i := 206) (by decide +kernel), List.mem_of_getElem? (i := 368) (by decide +kernel), List.mem_of_getElem? (i := 369) (by decide +kernel)⟩
theorem lw_p12 : lw_okq (⟨"PartedPension$Reader", "verbHere", "()LPartedPension$Verb;"⟩, 8) := ⟨⟨by decide +kernel, by decide +kernel⟩, List.mem_of_getElem? (i := 206) (by decide +kernel), List.mem_of_getElem? (i := 372) (by decide +kernel), List.mem_of_getElem? (i := 373) (by decide +kernel)⟩
theorem lw_p13 : lw_okq (⟨"PartedPension$Reader", "isWord", "(Ljava/lang/String;)Z"⟩, 8) := ⟨⟨by decide +kernel, by decide +kernel⟩, List.mem_of_getElem? (i := 206) (by decide +kernel), List.mem_of_getElem? (i := 378) (by decide +kernel), List.mem_of_getElem? (i := 379) (by decide +kernel)⟩
theorem lw_p14 : lw_okq (⟨"PartedPension$Reader", "blame", "(II)V"⟩, 8) := ⟨⟨by decide +kernel, by decide +kernel⟩, List.mem_of_getElem? (i := 206) (by decide +kernel), List.mem_of_getElem? (i := 430) (by decide +kernel), List.mem_of_getElem? (i := 431) (by decide +kernel)⟩
theorem lw_p15 : lw_okq (⟨"PartedPension$Verb", "isFull", "(LPartedPension$Plan;)Z"⟩, 8) := ⟨⟨by decide +kernel, by decide +kernel⟩, List.mem_of_getElem? (i := 436) (by decide +kernel), List.mem_of_getElem? (i := 434) (by decide +kernel), List.mem_of_getElem? (i := 435) (by decide +kernel)⟩
def lw_privs_1 : List (MethodName × Nat) := [(⟨"PartedPension$Plan", "beginAnew", "(I)V"⟩, 10), (⟨"PartedPension$Reader", "append", "(I)V"⟩, 8), (⟨"PartedPension$Plan", "copyFrom", "(LPartedPension$Plan;)V"⟩, 10), (⟨"PartedPension$Span", "copyFrom", "(LPartedPension$Span;)V"⟩, 3), (⟨"PartedPension$Spouse", "copyFrom", "(LPartedPension$Spouse;)V"⟩, 9), (⟨"PartedPension$LifeTable", "copyFrom", "(LPartedPension$LifeTable;)V"⟩, 3), (⟨"PartedPension$Reader", "readAll", "(LPartedPension$Plan;)I"⟩, 8), (⟨"PartedPension$Reader", "readToken", "()V"⟩, 8), (⟨"PartedPension$Reader", "byteAt", "(I)I"⟩, 8), (⟨"PartedPension$Reader", "readWord", "()V"⟩, 8), (⟨"PartedPension$Reader", "readNumber", "()V"⟩, 8), (⟨"PartedPension$Reader", "readStatement", "(LPartedPension$Plan;)V"⟩, 8), (⟨"PartedPension$Reader", "verbHere", "()LPartedPension$Verb;"⟩, 8), (⟨"PartedPension$Reader", "isWord", "(Ljava/lang/String;)Z"⟩, 8), (⟨"PartedPension$Reader", "blame", "(II)V"⟩, 8), (⟨"PartedPension$Verb", "isFull", "(LPartedPension$Plan;)Z"⟩, 8)]
theorem lw_r1 : ∀ q ∈ lw_privs_1, lw_okq q := List.forall_mem_cons.mpr ⟨lw_p0, List.forall_mem_cons.mpr ⟨lw_p1, List.forall_mem_cons.mpr ⟨lw_p2, List.forall_mem_cons.mpr ⟨lw_p3, List.forall_mem_cons.mpr ⟨lw_p4, List.forall_mem_cons.mpr ⟨lw_p5, List.forall_mem_cons.mpr ⟨lw_p6, List.forall_mem_cons.mpr ⟨lw_p7, List.forall_mem_cons.mpr ⟨lw_p8, List.forall_mem_cons.mpr ⟨lw_p9, List.forall_mem_cons.mpr ⟨lw_p10, List.forall_mem_cons.mpr ⟨lw_p11, List.forall_mem_cons.mpr ⟨lw_p12, List.forall_mem_cons.mpr ⟨lw_p13, List.forall_mem_cons.mpr ⟨lw_p14, List.forall_mem_cons.mpr ⟨lw_p15, fun _ h => absurd h List.not_mem_nil⟩⟩⟩⟩⟩⟩⟩⟩⟩⟩⟩⟩⟩⟩⟩⟩
theorem lw_p16 : lw_okq (⟨"PartedPension$Verb", "slot", "(I)I"⟩, 8) := ⟨⟨by decide +kernel, by decide +kernel⟩, List.mem_of_getElem? (i := 436) (by decide +kernel), List.mem_of_getElem? (i := 447) (by decide +kernel), List.mem_of_getElem? (i := 448) (by decide +kernel)⟩
theorem lw_p17 : lw_okq (⟨"PartedPension$Reader", "readSlot", "(LPartedPension$Plan;II)V"⟩, 8) := ⟨⟨by decide +kernel, by decide +kernel⟩, List.mem_of_getElem? (i := 206) (by decide +kernel), List.mem_of_getElem? (i := 451) (by decide +kernel), List.mem_of_getElem? (i := 452) (by decide +kernel)⟩
theorem lw_p18 : lw_okq (⟨"PartedPension$Reader", "readHow", "(I)V"⟩, 8) := ⟨⟨by decide +kernel, by decide +kernel⟩, List.mem_of_getElem? (i := 206) (by decide +kernel), List.mem_of_getElem? (i := 455) (by decide +kernel), List.mem_of_getElem? (i := 456) (by decide +kernel)⟩
theorem lw_p19 : lw_okq (⟨"PartedPension$Plan", "hasSpouse", "(I)Z"⟩, 10) := ⟨⟨by decide +kernel, by decide +kernel⟩, List.mem_of_getElem? (i := 31) (by decide +kernel), List.mem_of_getElem? (i := 468) (by decide +kernel), List.mem_of_getElem? (i := 469) (by decide +kernel)⟩
theorem lw_p20 : lw_okq (⟨"PartedPension$Reader", "readClose", "()V"⟩, 8) := ⟨⟨by decide +kernel, by decide +kernel⟩, List.mem_of_getElem? (i := 206) (by decide +kernel), List.mem_of_getElem? (i := 472) (by decide +kernel), List.mem_of_getElem? (i := 473) (by decide +kernel)⟩
theorem lw_p21 : lw_okq (⟨"PartedPension$Verb", "perform", "(LPartedPension$Plan;IIII)Z"⟩, 8) := ⟨⟨by decide +kernel, by decide +kernel⟩, List.mem_of_getElem? (i := 436) (by decide +kernel), List.mem_of_getElem? (i := 476) (by decide +kernel), List.mem_of_getElem? (i := 477) (by decide +kernel)⟩
theorem lw_p22 : lw_okq (⟨"PartedPension$Plan", "serve", "(III)Z"⟩, 10) := ⟨⟨by decide +kernel, by decide +kernel⟩, List.mem_of_getElem? (i := 31) (by decide +kernel), List.mem_of_getElem? (i := 481) (by decide +kernel), List.mem_of_getElem? (i := 482) (by decide +kernel)⟩
theorem lw_p23 : lw_okq (⟨"PartedPension$Plan", "serviceWithin", "(II)I"⟩, 10) := ⟨⟨by decide +kernel, by decide +kernel⟩, List.mem_of_getElem? (i := 31) (by decide +kernel), List.mem_of_getElem? (i := 485) (by decide +kernel), List.mem_of_getElem? (i := 486) (by decide +kernel)⟩
theorem lw_p24 : lw_okq (⟨"PartedPension$Plan", "recount", "()V"⟩, 10) := ⟨⟨by decide +kernel, by decide +kernel⟩, List.mem_of_getElem? (i := 31) (by decide +kernel), List.mem_of_getElem? (i := 489) (by decide +kernel), List.mem_of_getElem? (i := 490) (by decide +kernel)⟩
theorem lw_p25 : lw_okq (⟨"PartedPension$Plan", "wed", "(II)Z"⟩, 10) := ⟨⟨by decide +kernel, by decide +kernel⟩, List.mem_of_getElem? (i := 31) (by decide +kernel), List.mem_of_getElem? (i := 493) (by decide +kernel), List.mem_of_getElem? (i := 494) (by decide +kernel)⟩
theorem lw_p26 : lw_okq (⟨"PartedPension$Spouse", "isPartedBy", "(I)Z"⟩, 9) := ⟨⟨by decide +kernel, by decide +kernel⟩, List.mem_of_getElem? (i := 82) (by decide +kernel), List.mem_of_getElem? (i := 497) (by decide +kernel), List.mem_of_getElem? (i := 498) (by decide +kernel)⟩
theorem lw_p27 : lw_okq (⟨"PartedPension$Spouse", "begin", "(II)V"⟩, 9) := ⟨⟨by decide +kernel, by decide +kernel⟩, List.mem_of_getElem? (i := 82) (by decide +kernel), List.mem_of_getElem? (i := 501) (by decide +kernel), List.mem_of_getElem? (i := 502) (by decide +kernel)⟩
theorem lw_p28 : lw_okq (⟨"PartedPension$Plan", "part", "(IIII)Z"⟩, 10) := ⟨⟨by decide +kernel, by decide +kernel⟩, List.mem_of_getElem? (i := 31) (by decide +kernel), List.mem_of_getElem? (i := 505) (by decide +kernel), List.mem_of_getElem? (i := 506) (by decide +kernel)⟩
theorem lw_p29 : lw_okq (⟨"PartedPension$LifeTable", "tellYear", "(II)Z"⟩, 3) := ⟨⟨by decide +kernel, by decide +kernel⟩, List.mem_of_getElem? (i := 41) (by decide +kernel), List.mem_of_getElem? (i := 509) (by decide +kernel), List.mem_of_getElem? (i := 510) (by decide +kernel)⟩
theorem lw_p30 : lw_okq (⟨"PartedPension$LifeTable", "makeRoom", "(I)V"⟩, 3) := ⟨⟨by decide +kernel, by decide +kernel⟩, List.mem_of_getElem? (i := 41) (by decide +kernel), List.mem_of_getElem? (i := 514) (by decide +kernel), List.mem_of_getElem? (i := 515) (by decide +kernel)⟩
theorem lw_p31 : lw_okq (⟨"PartedPension$Plan", "alter", "(III)Z"⟩, 10) := ⟨⟨by decide +kernel, by decide +kernel⟩, List.mem_of_getElem? (i := 31) (by decide +kernel), List.mem_of_getElem? (i := 518) (by decide +kernel), List.mem_of_getElem? (i := 519) (by decide +kernel)⟩
def lw_privs_2 : List (MethodName × Nat) := [(⟨"PartedPension$Verb", "slot", "(I)I"⟩, 8), (⟨"PartedPension$Reader", "readSlot", "(LPartedPension$Plan;II)V"⟩, 8), (⟨"PartedPension$Reader", "readHow", "(I)V"⟩, 8), (⟨"PartedPension$Plan", "hasSpouse", "(I)Z"⟩, 10), (⟨"PartedPension$Reader", "readClose", "()V"⟩, 8), (⟨"PartedPension$Verb", "perform", "(LPartedPension$Plan;IIII)Z"⟩, 8), (⟨"PartedPension$Plan", "serve", "(III)Z"⟩, 10), (⟨"PartedPension$Plan", "serviceWithin", "(II)I"⟩, 10), (⟨"PartedPension$Plan", "recount", "()V"⟩, 10), (⟨"PartedPension$Plan", "wed", "(II)Z"⟩, 10), (⟨"PartedPension$Spouse", "isPartedBy", "(I)Z"⟩, 9), (⟨"PartedPension$Spouse", "begin", "(II)V"⟩, 9), (⟨"PartedPension$Plan", "part", "(IIII)Z"⟩, 10), (⟨"PartedPension$LifeTable", "tellYear", "(II)Z"⟩, 3), (⟨"PartedPension$LifeTable", "makeRoom", "(I)V"⟩, 3), (⟨"PartedPension$Plan", "alter", "(III)Z"⟩, 10)]
theorem lw_r2 : ∀ q ∈ lw_privs_2, lw_okq q := List.forall_mem_cons.mpr ⟨lw_p16, List.forall_mem_cons.mpr ⟨lw_p17, List.forall_mem_cons.mpr ⟨lw_p18, List.forall_mem_cons.mpr ⟨lw_p19, List.forall_mem_cons.mpr ⟨lw_p20, List.forall_mem_cons.mpr ⟨lw_p21, List.forall_mem_cons.mpr ⟨lw_p22, List.forall_mem_cons.mpr ⟨lw_p23, List.forall_mem_cons.mpr ⟨lw_p24, List.forall_mem_cons.mpr ⟨lw_p25, List.forall_mem_cons.mpr ⟨lw_p26, List.forall_mem_cons.mpr ⟨lw_p27, List.forall_mem_cons.mpr ⟨lw_p28, List.forall_mem_cons.mpr ⟨lw_p29, List.forall_mem_cons.mpr ⟨lw_p30, List.forall_mem_cons.mpr ⟨lw_p31, fun _ h => absurd h List.not_mem_nil⟩⟩⟩⟩⟩⟩⟩⟩⟩⟩⟩⟩⟩⟩⟩⟩
theorem lw_p32 : lw_okq (⟨"PartedPension$Plan", "canChange", "(III)Z"⟩, 10) := ⟨⟨by decide +kernel, by decide +kernel⟩, List.mem_of_getElem? (i := 31) (by decide +kernel), List.mem_of_getElem? (i := 522) (by decide +kernel), List.mem_of_getElem? (i := 523) (by decide +kernel)⟩
theorem lw_p33 : lw_okq (⟨"PartedPension$Plan", "lastTo", "()I"⟩, 10) := ⟨⟨by decide +kernel, by decide +kernel⟩, List.mem_of_getElem? (i := 31) (by decide +kernel), List.mem_of_getElem? (i := 533) (by decide +kernel), List.mem_of_getElem? (i := 534) (by decide +kernel)⟩
theorem lw_p34 : lw_okq (⟨"PartedPension$Plan", "change", "(III)V"⟩, 10) := ⟨⟨by decide +kernel, by decide +kernel⟩, List.mem_of_getElem? (i := 31) (by decide +kernel), List.mem_of_getElem? (i := 538) (by decide +kernel), List.mem_of_getElem? (i := 539) (by decide +kernel)⟩
theorem lw_p35 : lw_okq (⟨"PartedPension", "keepPast", "()V"⟩, 8) := ⟨⟨by decide +kernel, by decide +kernel⟩, List.mem_of_getElem? (i := 23) (by decide +kernel), List.mem_of_getElem? (i := 545) (by decide +kernel), List.mem_of_getElem? (i := 546) (by decide +kernel)⟩
theorem lw_p36 : lw_okq (⟨"PartedPension$Plan", "valueOf", "(II)I"⟩, 10) := ⟨⟨by decide +kernel, by decide +kernel⟩, List.mem_of_getElem? (i := 31) (by decide +kernel), List.mem_of_getElem? (i := 558) (by decide +kernel), List.mem_of_getElem? (i := 559) (by decide +kernel)⟩
theorem lw_p37 : lw_okq (⟨"PartedPension$Plan", "finalPay", "()I"⟩, 10) := ⟨⟨by decide +kernel, by decide +kernel⟩, List.mem_of_getElem? (i := 31) (by decide +kernel), List.mem_of_getElem? (i := 582) (by decide +kernel), List.mem_of_getElem? (i := 583) (by decide +kernel)⟩
theorem lw_p38 : lw_okq (⟨"PartedPension$Plan", "basePay", "()I"⟩, 10) := ⟨⟨by decide +kernel, by decide +kernel⟩, List.mem_of_getElem? (i := 31) (by decide +kernel), List.mem_of_getElem? (i := 586) (by decide +kernel), List.mem_of_getElem? (i := 587) (by decide +kernel)⟩
theorem lw_p39 : lw_okq (⟨"PartedPension$Plan", "firstPay", "()I"⟩, 10) := ⟨⟨by decide +kernel, by decide +kernel⟩, List.mem_of_getElem? (i := 31) (by decide +kernel), List.mem_of_getElem? (i := 592) (by decide +kernel), List.mem_of_getElem? (i := 593) (by decide +kernel)⟩
theorem lw_p40 : lw_okq (⟨"PartedPension$Reckoner", "fillWholes", "(LPartedPension$Plan;)V"⟩, 6) := ⟨⟨by decide +kernel, by decide +kernel⟩, List.mem_of_getElem? (i := 240) (by decide +kernel), List.mem_of_getElem? (i := 605) (by decide +kernel), List.mem_of_getElem? (i := 606) (by decide +kernel)⟩
theorem lw_p41 : lw_okq (⟨"PartedPension", "isPaid", "(I)Z"⟩, 8) := ⟨⟨by decide +kernel, by decide +kernel⟩, List.mem_of_getElem? (i := 23) (by decide +kernel), List.mem_of_getElem? (i := 623) (by decide +kernel), List.mem_of_getElem? (i := 624) (by decide +kernel)⟩
theorem lw_p42 : lw_okq (⟨"PartedPension$Reckoner", "prepare", "(LPartedPension$Plan;)V"⟩, 6) := ⟨⟨by decide +kernel, by decide +kernel⟩, List.mem_of_getElem? (i := 240) (by decide +kernel), List.mem_of_getElem? (i := 628) (by decide +kernel), List.mem_of_getElem? (i := 629) (by decide +kernel)⟩
theorem lw_p43 : lw_okq (⟨"PartedPension$Reckoner", "ownOf", "(LPartedPension$Plan;LPartedPension$Spouse;)J"⟩, 6) := ⟨⟨by decide +kernel, by decide +kernel⟩, List.mem_of_getElem? (i := 240) (by decide +kernel), List.mem_of_getElem? (i := 633) (by decide +kernel), List.mem_of_getElem? (i := 634) (by decide +kernel)⟩
theorem lw_p44 : lw_okq (⟨"PartedPension$Plan", "shareOf", "(LPartedPension$Spouse;I)J"⟩, 10) := ⟨⟨by decide +kernel, by decide +kernel⟩, List.mem_of_getElem? (i := 31) (by decide +kernel), List.mem_of_getElem? (i := 637) (by decide +kernel), List.mem_of_getElem? (i := 638) (by decide +kernel)⟩
theorem lw_p45 : lw_okq (⟨"PartedPension$Reckoner", "annuityOf", "(LPartedPension$Plan;III)J"⟩, 6) := ⟨⟨by decide +kernel, by decide +kernel⟩, List.mem_of_getElem? (i := 240) (by decide +kernel), List.mem_of_getElem? (i := 641) (by decide +kernel), List.mem_of_getElem? (i := 642) (by decide +kernel)⟩
theorem lw_p46 : lw_okq (⟨"PartedPension$Reckoner", "fillDiscounts", "(LPartedPension$Plan;)V"⟩, 6) := ⟨⟨by decide +kernel, by decide +kernel⟩, List.mem_of_getElem? (i := 240) (by decide +kernel), List.mem_of_getElem? (i := 645) (by decide +kernel), List.mem_of_getElem? (i := 646) (by decide +kernel)⟩
theorem lw_p47 : lw_okq (⟨"PartedPension$LifeTable", "livesAt", "(I)I"⟩, 3) := ⟨⟨by decide +kernel, by decide +kernel⟩, List.mem_of_getElem? (i := 41) (by decide +kernel), List.mem_of_getElem? (i := 654) (by decide +kernel), List.mem_of_getElem? (i := 655) (by decide +kernel)⟩
def lw_privs_3 : List (MethodName × Nat) := [(⟨"PartedPension$Plan", "canChange", "(III)Z"⟩, 10), (⟨"PartedPension$Plan", "lastTo", "()I"⟩, 10), (⟨"PartedPension$Plan", "change", "(III)V"⟩, 10), (⟨"PartedPension", "keepPast", "()V"⟩, 8), (⟨"PartedPension$Plan", "valueOf", "(II)I"⟩, 10), (⟨"PartedPension$Plan", "finalPay", "()I"⟩, 10), (⟨"PartedPension$Plan", "basePay", "()I"⟩, 10), (⟨"PartedPension$Plan", "firstPay", "()I"⟩, 10), (⟨"PartedPension$Reckoner", "fillWholes", "(LPartedPension$Plan;)V"⟩, 6), (⟨"PartedPension", "isPaid", "(I)Z"⟩, 8), (⟨"PartedPension$Reckoner", "prepare", "(LPartedPension$Plan;)V"⟩, 6), (⟨"PartedPension$Reckoner", "ownOf", "(LPartedPension$Plan;LPartedPension$Spouse;)J"⟩, 6), (⟨"PartedPension$Plan", "shareOf", "(LPartedPension$Spouse;I)J"⟩, 10), (⟨"PartedPension$Reckoner", "annuityOf", "(LPartedPension$Plan;III)J"⟩, 6), (⟨"PartedPension$Reckoner", "fillDiscounts", "(LPartedPension$Plan;)V"⟩, 6), (⟨"PartedPension$LifeTable", "livesAt", "(I)I"⟩, 3)]
theorem lw_r3 : ∀ q ∈ lw_privs_3, lw_okq q := List.forall_mem_cons.mpr ⟨lw_p32, List.forall_mem_cons.mpr ⟨lw_p33, List.forall_mem_cons.mpr ⟨lw_p34, List.forall_mem_cons.mpr ⟨lw_p35, List.forall_mem_cons.mpr ⟨lw_p36, List.forall_mem_cons.mpr ⟨lw_p37, List.forall_mem_cons.mpr ⟨lw_p38, List.forall_mem_cons.mpr ⟨lw_p39, List.forall_mem_cons.mpr ⟨lw_p40, List.forall_mem_cons.mpr ⟨lw_p41, List.forall_mem_cons.mpr ⟨lw_p42, List.forall_mem_cons.mpr ⟨lw_p43, List.forall_mem_cons.mpr ⟨lw_p44, List.forall_mem_cons.mpr ⟨lw_p45, List.forall_mem_cons.mpr ⟨lw_p46, List.forall_mem_cons.mpr ⟨lw_p47, fun _ h => absurd h List.not_mem_nil⟩⟩⟩⟩⟩⟩⟩⟩⟩⟩⟩⟩⟩⟩⟩⟩
theorem lw_p48 : lw_okq (⟨"PartedPension$Reckoner", "annuityIn", "(II)J"⟩, 6) := ⟨⟨by decide +kernel, by decide +kernel⟩, List.mem_of_getElem? (i := 240) (by decide +kernel), List.mem_of_getElem? (i := 658) (by decide +kernel), List.mem_of_getElem? (i := 659) (by decide +kernel)⟩
theorem lw_p49 : lw_okq (⟨"PartedPension$Plan", "beginOf", "(LPartedPension$Spouse;)I"⟩, 10) := ⟨⟨by decide +kernel, by decide +kernel⟩, List.mem_of_getElem? (i := 31) (by decide +kernel), List.mem_of_getElem? (i := 662) (by decide +kernel), List.mem_of_getElem? (i := 663) (by decide +kernel)⟩
theorem lw_p50 : lw_okq (⟨"PartedPension$Reckoner", "paidTo", "(LPartedPension$Plan;II)J"⟩, 6) := ⟨⟨by decide +kernel, by decide +kernel⟩, List.mem_of_getElem? (i := 240) (by decide +kernel), List.mem_of_getElem? (i := 672) (by decide +kernel), List.mem_of_getElem? (i := 673) (by decide +kernel)⟩
theorem lw_p51 : lw_okq (⟨"PartedPension$Reckoner", "paidToMember", "(LPartedPension$Plan;I)J"⟩, 6) := ⟨⟨by decide +kernel, by decide +kernel⟩, List.mem_of_getElem? (i := 240) (by decide +kernel), List.mem_of_getElem? (i := 676) (by decide +kernel), List.mem_of_getElem? (i := 677) (by decide +kernel)⟩
theorem lw_p52 : lw_okq (⟨"PartedPension$Reckoner", "paidToSpouse", "(LPartedPension$Plan;LPartedPension$Spouse;IJ)J"⟩, 6) := ⟨⟨by decide +kernel, by decide +kernel⟩, List.mem_of_getElem? (i := 240) (by decide +kernel), List.mem_of_getElem? (i := 683) (by decide +kernel), List.mem_of_getElem? (i := 684) (by decide +kernel)⟩
theorem lw_p53 : lw_okq (⟨"PartedPension$Reckoner", "restOf", "(LPartedPension$Plan;I)J"⟩, 6) := ⟨⟨by decide +kernel, by decide +kernel⟩, List.mem_of_getElem? (i := 240) (by decide +kernel), List.mem_of_getElem? (i := 688) (by decide +kernel), List.mem_of_getElem? (i := 689) (by decide +kernel)⟩
theorem lw_p54 : lw_okq (⟨"PartedPension$Reckoner", "paidWithin", "(LPartedPension$Plan;III)J"⟩, 6) := ⟨⟨by decide +kernel, by decide +kernel⟩, List.mem_of_getElem? (i := 240) (by decide +kernel), List.mem_of_getElem? (i := 697) (by decide +kernel), List.mem_of_getElem? (i := 698) (by decide +kernel)⟩
theorem lw_p55 : lw_okq (⟨"PartedPension$Calendar", "fill", "(LPartedPension$Plan;)V"⟩, 2) := ⟨⟨by decide +kernel, by decide +kernel⟩, List.mem_of_getElem? (i := 270) (by decide +kernel), List.mem_of_getElem? (i := 710) (by decide +kernel), List.mem_of_getElem? (i := 711) (by decide +kernel)⟩
theorem lw_p56 : lw_okq (⟨"PartedPension$Calendar", "add", "(III)V"⟩, 2) := ⟨⟨by decide +kernel, by decide +kernel⟩, List.mem_of_getElem? (i := 270) (by decide +kernel), List.mem_of_getElem? (i := 714) (by decide +kernel), List.mem_of_getElem? (i := 715) (by decide +kernel)⟩
theorem lw_p57 : lw_okq (⟨"PartedPension$Reckoner", "worthOfAll", "(LPartedPension$Plan;I)J"⟩, 6) := ⟨⟨by decide +kernel, by decide +kernel⟩, List.mem_of_getElem? (i := 240) (by decide +kernel), List.mem_of_getElem? (i := 744) (by decide +kernel), List.mem_of_getElem? (i := 745) (by decide +kernel)⟩
theorem lw_p58 : lw_okq (⟨"PartedPension$Reckoner", "worthOfSpouse", "(LPartedPension$Plan;LPartedPension$Spouse;I)J"⟩, 6) := ⟨⟨by decide +kernel, by decide +kernel⟩, List.mem_of_getElem? (i := 240) (by decide +kernel), List.mem_of_getElem? (i := 749) (by decide +kernel), List.mem_of_getElem? (i := 750) (by decide +kernel)⟩
theorem lw_p59 : lw_okq (⟨"PartedPension$Reckoner", "worthApart", "(JII)J"⟩, 6) := ⟨⟨by decide +kernel, by decide +kernel⟩, List.mem_of_getElem? (i := 240) (by decide +kernel), List.mem_of_getElem? (i := 753) (by decide +kernel), List.mem_of_getElem? (i := 754) (by decide +kernel)⟩
theorem lw_p60 : lw_okq (⟨"PartedPension$Reckoner", "worthShared", "(LPartedPension$Plan;LPartedPension$Spouse;II)J"⟩, 6) := ⟨⟨by decide +kernel, by decide +kernel⟩, List.mem_of_getElem? (i := 240) (by decide +kernel), List.mem_of_getElem? (i := 757) (by decide +kernel), List.mem_of_getElem? (i := 758) (by decide +kernel)⟩
theorem lw_p61 : lw_okq (⟨"PartedPension", "hasWorthInRetires", "(I)Z"⟩, 8) := ⟨⟨by decide +kernel, by decide +kernel⟩, List.mem_of_getElem? (i := 23) (by decide +kernel), List.mem_of_getElem? (i := 765) (by decide +kernel), List.mem_of_getElem? (i := 766) (by decide +kernel)⟩
theorem lw_p62 : lw_okq (⟨"PartedPension$Reckoner", "bestClaim", "(LPartedPension$Plan;LPartedPension$Spouse;)I"⟩, 6) := ⟨⟨by decide +kernel, by decide +kernel⟩, List.mem_of_getElem? (i := 240) (by decide +kernel), List.mem_of_getElem? (i := 769) (by decide +kernel), List.mem_of_getElem? (i := 770) (by decide +kernel)⟩
theorem lw_p63 : lw_okq (⟨"PartedPension$Reckoner", "leastHalf", "(LPartedPension$Plan;LPartedPension$Spouse;)I"⟩, 6) := ⟨⟨by decide +kernel, by decide +kernel⟩, List.mem_of_getElem? (i := 240) (by decide +kernel), List.mem_of_getElem? (i := 778) (by decide +kernel), List.mem_of_getElem? (i := 779) (by decide +kernel)⟩
def lw_privs_4 : List (MethodName × Nat) := [(⟨"PartedPension$Reckoner", "annuityIn", "(II)J"⟩, 6), (⟨"PartedPension$Plan", "beginOf", "(LPartedPension$Spouse;)I"⟩, 10), (⟨"PartedPension$Reckoner", "paidTo", "(LPartedPension$Plan;II)J"⟩, 6), (⟨"PartedPension$Reckoner", "paidToMember", "(LPartedPension$Plan;I)J"⟩, 6), (⟨"PartedPension$Reckoner", "paidToSpouse", "(LPartedPension$Plan;LPartedPension$Spouse;IJ)J"⟩, 6), (⟨"PartedPension$Reckoner", "restOf", "(LPartedPension$Plan;I)J"⟩, 6), (⟨"PartedPension$Reckoner", "paidWithin", "(LPartedPension$Plan;III)J"⟩, 6), (⟨"PartedPension$Calendar", "fill", "(LPartedPension$Plan;)V"⟩, 2), (⟨"PartedPension$Calendar", "add", "(III)V"⟩, 2), (⟨"PartedPension$Reckoner", "worthOfAll", "(LPartedPension$Plan;I)J"⟩, 6), (⟨"PartedPension$Reckoner", "worthOfSpouse", "(LPartedPension$Plan;LPartedPension$Spouse;I)J"⟩, 6), (⟨"PartedPension$Reckoner", "worthApart", "(JII)J"⟩, 6), (⟨"PartedPension$Reckoner", "worthShared", "(LPartedPension$Plan;LPartedPension$Spouse;II)J"⟩, 6), (⟨"PartedPension", "hasWorthInRetires", "(I)Z"⟩, 8), (⟨"PartedPension$Reckoner", "bestClaim", "(LPartedPension$Plan;LPartedPension$Spouse;)I"⟩, 6), (⟨"PartedPension$Reckoner", "leastHalf", "(LPartedPension$Plan;LPartedPension$Spouse;)I"⟩, 6)]
theorem lw_r4 : ∀ q ∈ lw_privs_4, lw_okq q := List.forall_mem_cons.mpr ⟨lw_p48, List.forall_mem_cons.mpr ⟨lw_p49, List.forall_mem_cons.mpr ⟨lw_p50, List.forall_mem_cons.mpr ⟨lw_p51, List.forall_mem_cons.mpr ⟨lw_p52, List.forall_mem_cons.mpr ⟨lw_p53, List.forall_mem_cons.mpr ⟨lw_p54, List.forall_mem_cons.mpr ⟨lw_p55, List.forall_mem_cons.mpr ⟨lw_p56, List.forall_mem_cons.mpr ⟨lw_p57, List.forall_mem_cons.mpr ⟨lw_p58, List.forall_mem_cons.mpr ⟨lw_p59, List.forall_mem_cons.mpr ⟨lw_p60, List.forall_mem_cons.mpr ⟨lw_p61, List.forall_mem_cons.mpr ⟨lw_p62, List.forall_mem_cons.mpr ⟨lw_p63, fun _ h => absurd h List.not_mem_nil⟩⟩⟩⟩⟩⟩⟩⟩⟩⟩⟩⟩⟩⟩⟩⟩
theorem lw_p64 : lw_okq (⟨"PartedPension$Reckoner", "firstCrossing", "(LPartedPension$Plan;LPartedPension$Spouse;)I"⟩, 6) := ⟨⟨by decide +kernel, by decide +kernel⟩, List.mem_of_getElem? (i := 240) (by decide +kernel), List.mem_of_getElem? (i := 790) (by decide +kernel), List.mem_of_getElem? (i := 791) (by decide +kernel)⟩
theorem lw_p65 : lw_okq (⟨"java/lang/Throwable", "fillInStackTrace", "(I)Ljava/lang/Throwable;"⟩, 6) := ⟨⟨by decide +kernel, by decide +kernel⟩, List.mem_of_getElem? (i := 838) (by decide +kernel), List.mem_of_getElem? (i := 836) (by decide +kernel), List.mem_of_getElem? (i := 837) (by decide +kernel)⟩
theorem lw_p66 : lw_okq (⟨"PartedPensionModel", "begins", "(I)V"⟩, 22) := ⟨⟨by decide +kernel, by decide +kernel⟩, List.mem_of_getElem? (i := 878) (by decide +kernel), List.mem_of_getElem? (i := 884) (by decide +kernel), List.mem_of_getElem? (i := 885) (by decide +kernel)⟩
theorem lw_p67 : lw_okq (⟨"PartedPensionModel", "isWho", "(I)Z"⟩, 22) := ⟨⟨by decide +kernel, by decide +kernel⟩, List.mem_of_getElem? (i := 878) (by decide +kernel), List.mem_of_getElem? (i := 969) (by decide +kernel), List.mem_of_getElem? (i := 970) (by decide +kernel)⟩
theorem lw_p68 : lw_okq (⟨"PartedPensionModel", "isSpouse", "(I)Z"⟩, 22) := ⟨⟨by decide +kernel, by decide +kernel⟩, List.mem_of_getElem? (i := 878) (by decide +kernel), List.mem_of_getElem? (i := 973) (by decide +kernel), List.mem_of_getElem? (i := 974) (by decide +kernel)⟩
theorem lw_p69 : lw_okq (⟨"PartedPensionModel", "laysOwns", "()V"⟩, 22) := ⟨⟨by decide +kernel, by decide +kernel⟩, List.mem_of_getElem? (i := 878) (by decide +kernel), List.mem_of_getElem? (i := 978) (by decide +kernel), List.mem_of_getElem? (i := 979) (by decide +kernel)⟩
theorem lw_p70 : lw_okq (⟨"PartedPensionModel", "ownOf", "(I)J"⟩, 22) := ⟨⟨by decide +kernel, by decide +kernel⟩, List.mem_of_getElem? (i := 878) (by decide +kernel), List.mem_of_getElem? (i := 982) (by decide +kernel), List.mem_of_getElem? (i := 983) (by decide +kernel)⟩
theorem lw_p71 : lw_okq (⟨"PartedPensionModel", "isParted", "(I)Z"⟩, 22) := ⟨⟨by decide +kernel, by decide +kernel⟩, List.mem_of_getElem? (i := 878) (by decide +kernel), List.mem_of_getElem? (i := 986) (by decide +kernel), List.mem_of_getElem? (i := 987) (by decide +kernel)⟩
theorem lw_p72 : lw_okq (⟨"PartedPensionModel", "its", "(II)I"⟩, 22) := ⟨⟨by decide +kernel, by decide +kernel⟩, List.mem_of_getElem? (i := 878) (by decide +kernel), List.mem_of_getElem? (i := 990) (by decide +kernel), List.mem_of_getElem? (i := 991) (by decide +kernel)⟩
theorem lw_p73 : lw_okq (⟨"PartedPensionModel", "areBorn", "(II)Z"⟩, 22) := ⟨⟨by decide +kernel, by decide +kernel⟩, List.mem_of_getElem? (i := 878) (by decide +kernel), List.mem_of_getElem? (i := 994) (by decide +kernel), List.mem_of_getElem? (i := 995) (by decide +kernel)⟩
theorem lw_p74 : lw_okq (⟨"PartedPensionModel", "laysOdds", "([JII)V"⟩, 22) := ⟨⟨by decide +kernel, by decide +kernel⟩, List.mem_of_getElem? (i := 878) (by decide +kernel), List.mem_of_getElem? (i := 998) (by decide +kernel), List.mem_of_getElem? (i := 999) (by decide +kernel)⟩
theorem lw_p75 : lw_okq (⟨"PartedPensionModel", "bornOf", "(I)I"⟩, 22) := ⟨⟨by decide +kernel, by decide +kernel⟩, List.mem_of_getElem? (i := 878) (by decide +kernel), List.mem_of_getElem? (i := 1002) (by decide +kernel), List.mem_of_getElem? (i := 1003) (by decide +kernel)⟩
theorem lw_p76 : lw_okq (⟨"PartedPensionModel", "livesAt", "(I)I"⟩, 22) := ⟨⟨by decide +kernel, by decide +kernel⟩, List.mem_of_getElem? (i := 878) (by decide +kernel), List.mem_of_getElem? (i := 1006) (by decide +kernel), List.mem_of_getElem? (i := 1007) (by decide +kernel)⟩
theorem lw_p77 : lw_okq (⟨"PartedPensionModel", "annuityBy", "([JII)J"⟩, 22) := ⟨⟨by decide +kernel, by decide +kernel⟩, List.mem_of_getElem? (i := 878) (by decide +kernel), List.mem_of_getElem? (i := 1012) (by decide +kernel), List.mem_of_getElem? (i := 1013) (by decide +kernel)⟩
theorem lw_p78 : lw_okq (⟨"PartedPensionModel", "laysWholes", "()V"⟩, 22) := ⟨⟨by decide +kernel, by decide +kernel⟩, List.mem_of_getElem? (i := 878) (by decide +kernel), List.mem_of_getElem? (i := 1016) (by decide +kernel), List.mem_of_getElem? (i := 1017) (by decide +kernel)⟩
theorem lw_p79 : lw_okq (⟨"PartedPensionModel", "firstPaid", "()I"⟩, 22) := ⟨⟨by decide +kernel, by decide +kernel⟩, List.mem_of_getElem? (i := 878) (by decide +kernel), List.mem_of_getElem? (i := 1020) (by decide +kernel), List.mem_of_getElem? (i := 1021) (by decide +kernel)⟩
def lw_privs_5 : List (MethodName × Nat) := [(⟨"PartedPension$Reckoner", "firstCrossing", "(LPartedPension$Plan;LPartedPension$Spouse;)I"⟩, 6), (⟨"java/lang/Throwable", "fillInStackTrace", "(I)Ljava/lang/Throwable;"⟩, 6), (⟨"PartedPensionModel", "begins", "(I)V"⟩, 22), (⟨"PartedPensionModel", "isWho", "(I)Z"⟩, 22), (⟨"PartedPensionModel", "isSpouse", "(I)Z"⟩, 22), (⟨"PartedPensionModel", "laysOwns", "()V"⟩, 22), (⟨"PartedPensionModel", "ownOf", "(I)J"⟩, 22), (⟨"PartedPensionModel", "isParted", "(I)Z"⟩, 22), (⟨"PartedPensionModel", "its", "(II)I"⟩, 22), (⟨"PartedPensionModel", "areBorn", "(II)Z"⟩, 22), (⟨"PartedPensionModel", "laysOdds", "([JII)V"⟩, 22), (⟨"PartedPensionModel", "bornOf", "(I)I"⟩, 22), (⟨"PartedPensionModel", "livesAt", "(I)I"⟩, 22), (⟨"PartedPensionModel", "annuityBy", "([JII)J"⟩, 22), (⟨"PartedPensionModel", "laysWholes", "()V"⟩, 22), (⟨"PartedPensionModel", "firstPaid", "()I"⟩, 22)]
theorem lw_r5 : ∀ q ∈ lw_privs_5, lw_okq q := List.forall_mem_cons.mpr ⟨lw_p64, List.forall_mem_cons.mpr ⟨lw_p65, List.forall_mem_cons.mpr ⟨lw_p66, List.forall_mem_cons.mpr ⟨lw_p67, List.forall_mem_cons.mpr ⟨lw_p68, List.forall_mem_cons.mpr ⟨lw_p69, List.forall_mem_cons.mpr ⟨lw_p70, List.forall_mem_cons.mpr ⟨lw_p71, List.forall_mem_cons.mpr ⟨lw_p72, List.forall_mem_cons.mpr ⟨lw_p73, List.forall_mem_cons.mpr ⟨lw_p74, List.forall_mem_cons.mpr ⟨lw_p75, List.forall_mem_cons.mpr ⟨lw_p76, List.forall_mem_cons.mpr ⟨lw_p77, List.forall_mem_cons.mpr ⟨lw_p78, List.forall_mem_cons.mpr ⟨lw_p79, fun _ h => absurd h List.not_mem_nil⟩⟩⟩⟩⟩⟩⟩⟩⟩⟩⟩⟩⟩⟩⟩⟩
theorem lw_p80 : lw_okq (⟨"PartedPensionModel", "base", "()I"⟩, 22) := ⟨⟨by decide +kernel, by decide +kernel⟩, List.mem_of_getElem? (i := 878) (by decide +kernel), List.mem_of_getElem? (i := 1024) (by decide +kernel), List.mem_of_getElem? (i := 1025) (by decide +kernel)⟩
theorem lw_p81 : lw_okq (⟨"PartedPensionModel", "finalPay", "()I"⟩, 22) := ⟨⟨by decide +kernel, by decide +kernel⟩, List.mem_of_getElem? (i := 878) (by decide +kernel), List.mem_of_getElem? (i := 1028) (by decide +kernel), List.mem_of_getElem? (i := 1029) (by decide +kernel)⟩
theorem lw_p82 : lw_okq (⟨"PartedPensionModel", "spanOf", "(II)I"⟩, 22) := ⟨⟨by decide +kernel, by decide +kernel⟩, List.mem_of_getElem? (i := 878) (by decide +kernel), List.mem_of_getElem? (i := 1032) (by decide +kernel), List.mem_of_getElem? (i := 1033) (by decide +kernel)⟩
theorem lw_p83 : lw_okq (⟨"PartedPensionModel", "served", "()I"⟩, 22) := ⟨⟨by decide +kernel, by decide +kernel⟩, List.mem_of_getElem? (i := 878) (by decide +kernel), List.mem_of_getElem? (i := 1036) (by decide +kernel), List.mem_of_getElem? (i := 1037) (by decide +kernel)⟩
theorem lw_p84 : lw_okq (⟨"PartedPensionModel", "serviceIn", "(II)I"⟩, 22) := ⟨⟨by decide +kernel, by decide +kernel⟩, List.mem_of_getElem? (i := 878) (by decide +kernel), List.mem_of_getElem? (i := 1040) (by decide +kernel), List.mem_of_getElem? (i := 1041) (by decide +kernel)⟩
theorem lw_p85 : lw_okq (⟨"PartedPensionModel", "begin", "(I)I"⟩, 22) := ⟨⟨by decide +kernel, by decide +kernel⟩, List.mem_of_getElem? (i := 878) (by decide +kernel), List.mem_of_getElem? (i := 1047) (by decide +kernel), List.mem_of_getElem? (i := 1048) (by decide +kernel)⟩
theorem lw_p86 : lw_okq (⟨"PartedPensionModel", "ownBy", "(IJJ)J"⟩, 22) := ⟨⟨by decide +kernel, by decide +kernel⟩, List.mem_of_getElem? (i := 878) (by decide +kernel), List.mem_of_getElem? (i := 1051) (by decide +kernel), List.mem_of_getElem? (i := 1052) (by decide +kernel)⟩
theorem lw_p87 : lw_okq (⟨"PartedPensionModel", "shareIn", "(II)J"⟩, 22) := ⟨⟨by decide +kernel, by decide +kernel⟩, List.mem_of_getElem? (i := 878) (by decide +kernel), List.mem_of_getElem? (i := 1055) (by decide +kernel), List.mem_of_getElem? (i := 1056) (by decide +kernel)⟩
theorem lw_p88 : lw_okq (⟨"PartedPensionModel", "wedIn", "(I)I"⟩, 22) := ⟨⟨by decide +kernel, by decide +kernel⟩, List.mem_of_getElem? (i := 878) (by decide +kernel), List.mem_of_getElem? (i := 1059) (by decide +kernel), List.mem_of_getElem? (i := 1060) (by decide +kernel)⟩
theorem lw_p89 : lw_okq (⟨"PartedPensionModel", "paidTo", "(II)J"⟩, 22) := ⟨⟨by decide +kernel, by decide +kernel⟩, List.mem_of_getElem? (i := 878) (by decide +kernel), List.mem_of_getElem? (i := 1063) (by decide +kernel), List.mem_of_getElem? (i := 1064) (by decide +kernel)⟩
theorem lw_p90 : lw_okq (⟨"PartedPensionModel", "paidMember", "(I)J"⟩, 22) := ⟨⟨by decide +kernel, by decide +kernel⟩, List.mem_of_getElem? (i := 878) (by decide +kernel), List.mem_of_getElem? (i := 1067) (by decide +kernel), List.mem_of_getElem? (i := 1068) (by decide +kernel)⟩
theorem lw_p91 : lw_okq (⟨"PartedPensionModel", "livesIn", "(II)Z"⟩, 22) := ⟨⟨by decide +kernel, by decide +kernel⟩, List.mem_of_getElem? (i := 878) (by decide +kernel), List.mem_of_getElem? (i := 1071) (by decide +kernel), List.mem_of_getElem? (i := 1072) (by decide +kernel)⟩
theorem lw_p92 : lw_okq (⟨"PartedPensionModel", "paidBy", "(III)J"⟩, 22) := ⟨⟨by decide +kernel, by decide +kernel⟩, List.mem_of_getElem? (i := 878) (by decide +kernel), List.mem_of_getElem? (i := 1075) (by decide +kernel), List.mem_of_getElem? (i := 1076) (by decide +kernel)⟩
theorem lw_p93 : lw_okq (⟨"PartedPensionModel", "isPaid", "(II)Z"⟩, 22) := ⟨⟨by decide +kernel, by decide +kernel⟩, List.mem_of_getElem? (i := 878) (by decide +kernel), List.mem_of_getElem? (i := 1079) (by decide +kernel), List.mem_of_getElem? (i := 1080) (by decide +kernel)⟩
theorem lw_p94 : lw_okq (⟨"PartedPensionModel", "sumOf", "(III)J"⟩, 22) := ⟨⟨by decide +kernel, by decide +kernel⟩, List.mem_of_getElem? (i := 878) (by decide +kernel), List.mem_of_getElem? (i := 1087) (by decide +kernel), List.mem_of_getElem? (i := 1088) (by decide +kernel)⟩
theorem lw_p95 : lw_okq (⟨"PartedPensionModel", "happensIn", "(III)V"⟩, 22) := ⟨⟨by decide +kernel, by decide +kernel⟩, List.mem_of_getElem? (i := 878) (by decide +kernel), List.mem_of_getElem? (i := 1134) (by decide +kernel), List.mem_of_getElem? (i := 1135) (by decide +kernel)⟩
def lw_privs_6 : List (MethodName × Nat) := [(⟨"PartedPensionModel", "base", "()I"⟩, 22), (⟨"PartedPensionModel", "finalPay", "()I"⟩, 22), (⟨"PartedPensionModel", "spanOf", "(II)I"⟩, 22), (⟨"PartedPensionModel", "served", "()I"⟩, 22), (⟨"PartedPensionModel", "serviceIn", "(II)I"⟩, 22), (⟨"PartedPensionModel", "begin", "(I)I"⟩, 22), (⟨"PartedPensionModel", "ownBy", "(IJJ)J"⟩, 22), (⟨"PartedPensionModel", "shareIn", "(II)J"⟩, 22), (⟨"PartedPensionModel", "wedIn", "(I)I"⟩, 22), (⟨"PartedPensionModel", "paidTo", "(II)J"⟩, 22), (⟨"PartedPensionModel", "paidMember", "(I)J"⟩, 22), (⟨"PartedPensionModel", "livesIn", "(II)Z"⟩, 22), (⟨"PartedPensionModel", "paidBy", "(III)J"⟩, 22), (⟨"PartedPensionModel", "isPaid", "(II)Z"⟩, 22), (⟨"PartedPensionModel", "sumOf", "(III)J"⟩, 22), (⟨"PartedPensionModel", "happensIn", "(III)V"⟩, 22)]
theorem lw_r6 : ∀ q ∈ lw_privs_6, lw_okq q := List.forall_mem_cons.mpr ⟨lw_p80, List.forall_mem_cons.mpr ⟨lw_p81, List.forall_mem_cons.mpr ⟨lw_p82, List.forall_mem_cons.mpr ⟨lw_p83, List.forall_mem_cons.mpr ⟨lw_p84, List.forall_mem_cons.mpr ⟨lw_p85, List.forall_mem_cons.mpr ⟨lw_p86, List.forall_mem_cons.mpr ⟨lw_p87, List.forall_mem_cons.mpr ⟨lw_p88, List.forall_mem_cons.mpr ⟨lw_p89, List.forall_mem_cons.mpr ⟨lw_p90, List.forall_mem_cons.mpr ⟨lw_p91, List.forall_mem_cons.mpr ⟨lw_p92, List.forall_mem_cons.mpr ⟨lw_p93, List.forall_mem_cons.mpr ⟨lw_p94, List.forall_mem_cons.mpr ⟨lw_p95, fun _ h => absurd h List.not_mem_nil⟩⟩⟩⟩⟩⟩⟩⟩⟩⟩⟩⟩⟩⟩⟩⟩
theorem lw_p96 : lw_okq (⟨"PartedPensionModel", "hasWorth", "(II)Z"⟩, 22) := ⟨⟨by decide +kernel, by decide +kernel⟩, List.mem_of_getElem? (i := 878) (by decide +kernel), List.mem_of_getElem? (i := 1159) (by decide +kernel), List.mem_of_getElem? (i := 1160) (by decide +kernel)⟩
theorem lw_p97 : lw_okq (⟨"PartedPensionModel", "worthOfAll", "(I)J"⟩, 22) := ⟨⟨by decide +kernel, by decide +kernel⟩, List.mem_of_getElem? (i := 878) (by decide +kernel), List.mem_of_getElem? (i := 1163) (by decide +kernel), List.mem_of_getElem? (i := 1164) (by decide +kernel)⟩
theorem lw_p98 : lw_okq (⟨"PartedPensionModel", "worthOfSpouse", "(II)J"⟩, 22) := ⟨⟨by decide +kernel, by decide +kernel⟩, List.mem_of_getElem? (i := 878) (by decide +kernel), List.mem_of_getElem? (i := 1167) (by decide +kernel), List.mem_of_getElem? (i := 1168) (by decide +kernel)⟩
theorem lw_p99 : lw_okq (⟨"PartedPensionModel", "worthIn", "(IIJ)J"⟩, 22) := ⟨⟨by decide +kernel, by decide +kernel⟩, List.mem_of_getElem? (i := 878) (by decide +kernel), List.mem_of_getElem? (i := 1171) (by decide +kernel), List.mem_of_getElem? (i := 1172) (by decide +kernel)⟩
theorem lw_p100 : lw_okq (⟨"PartedPensionModel", "placeOf", "(III)I"⟩, 22) := ⟨⟨by decide +kernel, by decide +kernel⟩, List.mem_of_getElem? (i := 878) (by decide +kernel), List.mem_of_getElem? (i := 1188) (by decide +kernel), List.mem_of_getElem? (i := 1189) (by decide +kernel)⟩
theorem lw_p101 : lw_okq (⟨"PartedPensionModel", "canRetire", "(I)Z"⟩, 22) := ⟨⟨by decide +kernel, by decide +kernel⟩, List.mem_of_getElem? (i := 878) (by decide +kernel), List.mem_of_getElem? (i := 1195) (by decide +kernel), List.mem_of_getElem? (i := 1196) (by decide +kernel)⟩
theorem lw_p102 : lw_okq (⟨"PartedPensionModel", "lastService", "()I"⟩, 22) := ⟨⟨by decide +kernel, by decide +kernel⟩, List.mem_of_getElem? (i := 878) (by decide +kernel), List.mem_of_getElem? (i := 1199) (by decide +kernel), List.mem_of_getElem? (i := 1200) (by decide +kernel)⟩
theorem lw_p103 : lw_okq (⟨"PartedPensionModel", "keeps", "([I)V"⟩, 22) := ⟨⟨by decide +kernel, by decide +kernel⟩, List.mem_of_getElem? (i := 878) (by decide +kernel), List.mem_of_getElem? (i := 1203) (by decide +kernel), List.mem_of_getElem? (i := 1204) (by decide +kernel)⟩
theorem lw_p104 : lw_okq (⟨"PartedPensionModel", "four", "(I)V"⟩, 22) := ⟨⟨by decide +kernel, by decide +kernel⟩, List.mem_of_getElem? (i := 878) (by decide +kernel), List.mem_of_getElem? (i := 1215) (by decide +kernel), List.mem_of_getElem? (i := 1216) (by decide +kernel)⟩
theorem lw_p105 : lw_okq (⟨"PartedPensionModel", "here", "()I"⟩, 22) := ⟨⟨by decide +kernel, by decide +kernel⟩, List.mem_of_getElem? (i := 878) (by decide +kernel), List.mem_of_getElem? (i := 1227) (by decide +kernel), List.mem_of_getElem? (i := 1228) (by decide +kernel)⟩
theorem lw_p106 : lw_okq (⟨"PartedPensionModel", "readStatement", "()Z"⟩, 22) := ⟨⟨by decide +kernel, by decide +kernel⟩, List.mem_of_getElem? (i := 878) (by decide +kernel), List.mem_of_getElem? (i := 1231) (by decide +kernel), List.mem_of_getElem? (i := 1232) (by decide +kernel)⟩
theorem lw_p107 : lw_okq (⟨"PartedPensionModel", "fails", "(II)Z"⟩, 22) := ⟨⟨by decide +kernel, by decide +kernel⟩, List.mem_of_getElem? (i := 878) (by decide +kernel), List.mem_of_getElem? (i := 1235) (by decide +kernel), List.mem_of_getElem? (i := 1236) (by decide +kernel)⟩
theorem lw_p108 : lw_okq (⟨"PartedPensionModel", "readWord", "()J"⟩, 22) := ⟨⟨by decide +kernel, by decide +kernel⟩, List.mem_of_getElem? (i := 878) (by decide +kernel), List.mem_of_getElem? (i := 1239) (by decide +kernel), List.mem_of_getElem? (i := 1240) (by decide +kernel)⟩
theorem lw_p109 : lw_okq (⟨"PartedPensionModel", "readBorn", "()Z"⟩, 22) := ⟨⟨by decide +kernel, by decide +kernel⟩, List.mem_of_getElem? (i := 878) (by decide +kernel), List.mem_of_getElem? (i := 1246) (by decide +kernel), List.mem_of_getElem? (i := 1247) (by decide +kernel)⟩
theorem lw_p110 : lw_okq (⟨"PartedPensionModel", "month", "(I)Z"⟩, 22) := ⟨⟨by decide +kernel, by decide +kernel⟩, List.mem_of_getElem? (i := 878) (by decide +kernel), List.mem_of_getElem? (i := 1250) (by decide +kernel), List.mem_of_getElem? (i := 1251) (by decide +kernel)⟩
theorem lw_p111 : lw_okq (⟨"PartedPensionModel", "number", "(III)Z"⟩, 22) := ⟨⟨by decide +kernel, by decide +kernel⟩, List.mem_of_getElem? (i := 878) (by decide +kernel), List.mem_of_getElem? (i := 1254) (by decide +kernel), List.mem_of_getElem? (i := 1255) (by decide +kernel)⟩
def lw_privs_7 : List (MethodName × Nat) := [(⟨"PartedPensionModel", "hasWorth", "(II)Z"⟩, 22), (⟨"PartedPensionModel", "worthOfAll", "(I)J"⟩, 22), (⟨"PartedPensionModel", "worthOfSpouse", "(II)J"⟩, 22), (⟨"PartedPensionModel", "worthIn", "(IIJ)J"⟩, 22), (⟨"PartedPensionModel", "placeOf", "(III)I"⟩, 22), (⟨"PartedPensionModel", "canRetire", "(I)Z"⟩, 22), (⟨"PartedPensionModel", "lastService", "()I"⟩, 22), (⟨"PartedPensionModel", "keeps", "([I)V"⟩, 22), (⟨"PartedPensionModel", "four", "(I)V"⟩, 22), (⟨"PartedPensionModel", "here", "()I"⟩, 22), (⟨"PartedPensionModel", "readStatement", "()Z"⟩, 22), (⟨"PartedPensionModel", "fails", "(II)Z"⟩, 22), (⟨"PartedPensionModel", "readWord", "()J"⟩, 22), (⟨"PartedPensionModel", "readBorn", "()Z"⟩, 22), (⟨"PartedPensionModel", "month", "(I)Z"⟩, 22), (⟨"PartedPensionModel", "number", "(III)Z"⟩, 22)]
theorem lw_r7 : ∀ q ∈ lw_privs_7, lw_okq q := List.forall_mem_cons.mpr ⟨lw_p96, List.forall_mem_cons.mpr ⟨lw_p97, List.forall_mem_cons.mpr ⟨lw_p98, List.forall_mem_cons.mpr ⟨lw_p99, List.forall_mem_cons.mpr ⟨lw_p100, List.forall_mem_cons.mpr ⟨lw_p101, List.forall_mem_cons.mpr ⟨lw_p102, List.forall_mem_cons.mpr ⟨lw_p103, List.forall_mem_cons.mpr ⟨lw_p104, List.forall_mem_cons.mpr ⟨lw_p105, List.forall_mem_cons.mpr ⟨lw_p106, List.forall_mem_cons.mpr ⟨lw_p107, List.forall_mem_cons.mpr ⟨lw_p108, List.forall_mem_cons.mpr ⟨lw_p109, List.forall_mem_cons.mpr ⟨lw_p110, List.forall_mem_cons.mpr ⟨lw_p111, fun _ h => absurd h List.not_mem_nil⟩⟩⟩⟩⟩⟩⟩⟩⟩⟩⟩⟩⟩⟩⟩⟩
theorem lw_p112 : lw_okq (⟨"PartedPensionModel", "ends", "()Z"⟩, 22) := ⟨⟨by decide +kernel, by decide +kernel⟩, List.mem_of_getElem? (i := 878) (by decide +kernel), List.mem_of_getElem? (i := 1258) (by decide +kernel), List.mem_of_getElem? (i := 1259) (by decide +kernel)⟩
theorem lw_p113 : lw_okq (⟨"PartedPensionModel", "readServe", "(I)Z"⟩, 22) := ⟨⟨by decide +kernel, by decide +kernel⟩, List.mem_of_getElem? (i := 878) (by decide +kernel), List.mem_of_getElem? (i := 1263) (by decide +kernel), List.mem_of_getElem? (i := 1264) (by decide +kernel)⟩
theorem lw_p114 : lw_okq (⟨"PartedPensionModel", "readWed", "(I)Z"⟩, 22) := ⟨⟨by decide +kernel, by decide +kernel⟩, List.mem_of_getElem? (i := 878) (by decide +kernel), List.mem_of_getElem? (i := 1269) (by decide +kernel), List.mem_of_getElem? (i := 1270) (by decide +kernel)⟩
theorem lw_p115 : lw_okq (⟨"PartedPensionModel", "readPart", "(I)Z"⟩, 22) := ⟨⟨by decide +kernel, by decide +kernel⟩, List.mem_of_getElem? (i := 878) (by decide +kernel), List.mem_of_getElem? (i := 1274) (by decide +kernel), List.mem_of_getElem? (i := 1275) (by decide +kernel)⟩
theorem lw_p116 : lw_okq (⟨"PartedPensionModel", "readLives", "(I)Z"⟩, 22) := ⟨⟨by decide +kernel, by decide +kernel⟩, List.mem_of_getElem? (i := 878) (by decide +kernel), List.mem_of_getElem? (i := 1281) (by decide +kernel), List.mem_of_getElem? (i := 1282) (by decide +kernel)⟩
theorem lw_p117 : lw_okq (⟨"PartedPensionModel", "readOfSpouse", "(II)Z"⟩, 22) := ⟨⟨by decide +kernel, by decide +kernel⟩, List.mem_of_getElem? (i := 878) (by decide +kernel), List.mem_of_getElem? (i := 1287) (by decide +kernel), List.mem_of_getElem? (i := 1288) (by decide +kernel)⟩
theorem lw_p118 : lw_okq (⟨"PartedPensionModel", "readOne", "(II)Z"⟩, 22) := ⟨⟨by decide +kernel, by decide +kernel⟩, List.mem_of_getElem? (i := 878) (by decide +kernel), List.mem_of_getElem? (i := 1293) (by decide +kernel), List.mem_of_getElem? (i := 1294) (by decide +kernel)⟩
def lw_privs_8 : List (MethodName × Nat) := [(⟨"PartedPensionModel", "ends", "()Z"⟩, 22), (⟨"PartedPensionModel", "readServe", "(I)Z"⟩, 22), (⟨"PartedPensionModel", "readWed", "(I)Z"⟩, 22), (⟨"PartedPensionModel", "readPart", "(I)Z"⟩, 22), (⟨"PartedPensionModel", "readLives", "(I)Z"⟩, 22), (⟨"PartedPensionModel", "readOfSpouse", "(II)Z"⟩, 22), (⟨"PartedPensionModel", "readOne", "(II)Z"⟩, 22)]
theorem lw_r8 : ∀ q ∈ lw_privs_8, lw_okq q := List.forall_mem_cons.mpr ⟨lw_p112, List.forall_mem_cons.mpr ⟨lw_p113, List.forall_mem_cons.mpr ⟨lw_p114, List.forall_mem_cons.mpr ⟨lw_p115, List.forall_mem_cons.mpr ⟨lw_p116, List.forall_mem_cons.mpr ⟨lw_p117, List.forall_mem_cons.mpr ⟨lw_p118, fun _ h => absurd h List.not_mem_nil⟩⟩⟩⟩⟩⟩⟩
def lw_privs : List (MethodName × Nat) := lw_privs_1 ++ (lw_privs_2 ++ (lw_privs_3 ++ (lw_privs_4 ++ (lw_privs_5 ++ (lw_privs_6 ++ (lw_privs_7 ++ (lw_privs_8)))))))
def lw_tbl : List Cond := k2_sels lw_privs ++ tables_1
theorem lw_privs_ok : ∀ q ∈ lw_privs, lw_okq q := by
  show ∀ q ∈ lw_privs_1 ++ (lw_privs_2 ++ (lw_privs_3 ++ (lw_privs_4 ++ (lw_privs_5 ++ (lw_privs_6 ++ (lw_privs_7 ++ (lw_privs_8))))))), lw_okq q
  exact List.forall_mem_append.mpr ⟨lw_r1, List.forall_mem_append.mpr ⟨lw_r2, List.forall_mem_append.mpr ⟨lw_r3, List.forall_mem_append.mpr ⟨lw_r4, List.forall_mem_append.mpr ⟨lw_r5, List.forall_mem_append.mpr ⟨lw_r6, List.forall_mem_append.mpr ⟨lw_r7, lw_r8⟩⟩⟩⟩⟩⟩⟩
def RX0 : String := "PartedPension$1"
def TX0 : u_T := fun k => match k with
  | _ => ("", "", "", false)
def tyX0 : Nat → FieldType := fun k => match k with
  | _ => .int
theorem nmX0 : ∀ a, a < 0 → ∀ b, b < 0 → a ≠ b → (TX0 a).2.1 ≠ (TX0 b).2.1 := by decide +kernel
theorem tyX0_ok : ∀ k, k < 0 → parseFieldDescriptor (TX0 k).2.2.1 = some (tyX0 k) := by decide +kernel
def RX1 : String := "PartedPension$Calendar"
def TX1 : u_T := fun k => match k with
  | 0 => ("PartedPension$Calendar", "codes", "[I", true)
  | _ => ("PartedPension$Calendar", "size", "I", false)
def tyX1 : Nat → FieldType := fun k => match k with
  | 0 => .array .int
  | _ => .int
theorem nmX1 : ∀ a, a < 2 → ∀ b, b < 2 → a ≠ b → (TX1 a).2.1 ≠ (TX1 b).2.1 := by decide +kernel
theorem tyX1_ok : ∀ k, k < 2 → parseFieldDescriptor (TX1 k).2.2.1 = some (tyX1 k) := by decide +kernel
abbrev cX1_init : ByteArray := prog_3_method_1_code
def yX1_init : MethodName := ⟨RX1, "<init>", "()V"⟩
abbrev cX1_fill : ByteArray := prog_3_method_2_code
def yX1_fill : MethodName := ⟨RX1, "fill", "(LPartedPension$Plan;)V"⟩
abbrev cX1_add : ByteArray := prog_3_method_3_code
def yX1_add : MethodName := ⟨RX1, "add", "(III)V"⟩
def RX2 : String := "PartedPension$LifeTable"
def TX2 : u_T := fun k => match k with
  | 0 => ("PartedPension$LifeTable", "years", "[I", true)
  | 1 => ("PartedPension$LifeTable", "living", "[I", true)
  | _ => ("PartedPension$LifeTable", "told", "I", false)
def tyX2 : Nat → FieldType := fun k => match k with
  | 0 => .array .int
  | 1 => .array .int
  | _ => .int
theorem nmX2 : ∀ a, a < 3 → ∀ b, b < 3 → a ≠ b → (TX2 a).2.1 ≠ (TX2 b).2.1 := by decide +kernel
theorem tyX2_ok : ∀ k, k < 3 → parseFieldDescriptor (TX2 k).2.2.1 = some (tyX2 k) := by decide +kernel
abbrev cX2_init : ByteArray := prog_4_method_1_code
def yX2_init : MethodName := ⟨RX2, "<init>", "()V"⟩
abbrev cX2_copyFrom : ByteArray := prog_4_method_2_code
def yX2_copyFrom : MethodName := ⟨RX2, "copyFrom", "(LPartedPension$LifeTable;)V"⟩
abbrev cX2_tellYear : ByteArray := prog_4_method_3_code
def yX2_tellYear : MethodName := ⟨RX2, "tellYear", "(II)Z"⟩
abbrev cX2_makeRoom : ByteArray := prog_4_method_4_code
def yX2_makeRoom : MethodName := ⟨RX2, "makeRoom", "(I)V"⟩
abbrev cX2_livesAt : ByteArray := prog_4_method_5_code
def yX2_livesAt : MethodName := ⟨RX2, "livesAt", "(I)I"⟩
def RX3 : String := "PartedPension$Plan"
def TX3 : u_T := fun k => match k with
  | 0 => ("PartedPension$Plan", "born", "I", false)
  | 1 => ("PartedPension$Plan", "retires", "I", false)
  | 2 => ("PartedPension$Plan", "dies", "I", false)
  | 3 => ("PartedPension$Plan", "terms", "[I", true)
  | 4 => ("PartedPension$Plan", "spans", "[LPartedPension$Span;", true)
  | 5 => ("PartedPension$Plan", "spanCount", "I", false)
  | 6 => ("PartedPension$Plan", "served", "I", false)
  | 7 => ("PartedPension$Plan", "spouses", "[LPartedPension$Spouse;", true)
  | 8 => ("PartedPension$Plan", "spouseCount", "I", false)
  | _ => ("PartedPension$Plan", "table", "LPartedPension$LifeTable;", true)
def tyX3 : Nat → FieldType := fun k => match k with
  | 0 => .int
  | 1 => .int
  | 2 => .int
  | 3 => .array .int
  | 4 => .array (.object "PartedPension$Span")
  | 5 => .int
  | 6 => .int
  | 7 => .array (.object "PartedPension$Spouse")
  | 8 => .int
  | _ => .object "PartedPension$LifeTable"
theorem nmX3 : ∀ a, a < 10 → ∀ b, b < 10 → a ≠ b → (TX3 a).2.1 ≠ (TX3 b).2.1 := by decide +kernel
theorem tyX3_ok : ∀ k, k < 10 → parseFieldDescriptor (TX3 k).2.2.1 = some (tyX3 k) := by decide +kernel
abbrev cX3_init : ByteArray := prog_5_method_1_code
def yX3_init : MethodName := ⟨RX3, "<init>", "()V"⟩
abbrev cX3_beginAnew : ByteArray := prog_5_method_2_code
def yX3_beginAnew : MethodName := ⟨RX3, "beginAnew", "(I)V"⟩
abbrev cX3_copyFrom : ByteArray := prog_5_method_3_code
def yX3_copyFrom : MethodName := ⟨RX3, "copyFrom", "(LPartedPension$Plan;)V"⟩
abbrev cX3_hasSpouse : ByteArray := prog_5_method_4_code
def yX3_hasSpouse : MethodName := ⟨RX3, "hasSpouse", "(I)Z"⟩
abbrev cX3_serve : ByteArray := prog_5_method_5_code
def yX3_serve : MethodName := ⟨RX3, "serve", "(III)Z"⟩
abbrev cX3_wed : ByteArray := prog_5_method_6_code
def yX3_wed : MethodName := ⟨RX3, "wed", "(II)Z"⟩
abbrev cX3_part : ByteArray := prog_5_method_7_code
def yX3_part : MethodName := ⟨RX3, "part", "(IIII)Z"⟩
abbrev cX3_alter : ByteArray := prog_5_method_8_code
def yX3_alter : MethodName := ⟨RX3, "alter", "(III)Z"⟩
abbrev cX3_canChange : ByteArray := prog_5_method_9_code
def yX3_canChange : MethodName := ⟨RX3, "canChange", "(III)Z"⟩
abbrev cX3_valueOf : ByteArray := prog_5_method_10_code
def yX3_valueOf : MethodName := ⟨RX3, "valueOf", "(II)I"⟩
abbrev cX3_change : ByteArray := prog_5_method_11_code
def yX3_change : MethodName := ⟨RX3, "change", "(III)V"⟩
abbrev cX3_changeSpouse : ByteArray := prog_5_method_12_code
def yX3_changeSpouse : MethodName := ⟨RX3, "changeSpouse", "(LPartedPension$Spouse;II)V"⟩
abbrev cX3_lastTo : ByteArray := prog_5_method_13_code
def yX3_lastTo : MethodName := ⟨RX3, "lastTo", "()I"⟩
abbrev cX3_serviceWithin : ByteArray := prog_5_method_14_code
def yX3_serviceWithin : MethodName := ⟨RX3, "serviceWithin", "(II)I"⟩
abbrev cX3_recount : ByteArray := prog_5_method_15_code
def yX3_recount : MethodName := ⟨RX3, "recount", "()V"⟩
abbrev cX3_finalPay : ByteArray := prog_5_method_16_code
def yX3_finalPay : MethodName := ⟨RX3, "finalPay", "()I"⟩
abbrev cX3_basePay : ByteArray := prog_5_method_17_code
def yX3_basePay : MethodName := ⟨RX3, "basePay", "()I"⟩
abbrev cX3_firstPay : ByteArray := prog_5_method_18_code
def yX3_firstPay : MethodName := ⟨RX3, "firstPay", "()I"⟩
abbrev cX3_shareOf : ByteArray := prog_5_method_19_code
def yX3_shareOf : MethodName := ⟨RX3, "shareOf", "(LPartedPension$Spouse;I)J"⟩
abbrev cX3_beginOf : ByteArray := prog_5_method_20_code
def yX3_beginOf : MethodName := ⟨RX3, "beginOf", "(LPartedPension$Spouse;)I"⟩
def RX4 : String := "PartedPension$Reader"
def TX4 : u_T := fun k => match k with
  | 0 => ("PartedPension$Reader", "bytes", "[B", true)
  | 1 => ("PartedPension$Reader", "length", "I", false)
  | 2 => ("PartedPension$Reader", "next", "I", false)
  | 3 => ("PartedPension$Reader", "token", "I", false)
  | 4 => ("PartedPension$Reader", "place", "I", false)
  | 5 => ("PartedPension$Reader", "number", "I", false)
  | 6 => ("PartedPension$Reader", "values", "[I", true)
  | _ => ("PartedPension$Reader", "fault", "I", false)
def tyX4 : Nat → FieldType := fun k => match k with
  | 0 => .array .byte
  | 1 => .int
  | 2 => .int
  | 3 => .int
  | 4 => .int
  | 5 => .int
  | 6 => .array .int
  | _ => .int
theorem nmX4 : ∀ a, a < 8 → ∀ b, b < 8 → a ≠ b → (TX4 a).2.1 ≠ (TX4 b).2.1 := by decide +kernel
theorem tyX4_ok : ∀ k, k < 8 → parseFieldDescriptor (TX4 k).2.2.1 = some (tyX4 k) := by decide +kernel
abbrev cX4_init : ByteArray := prog_6_method_1_code
def yX4_init : MethodName := ⟨RX4, "<init>", "()V"⟩
abbrev cX4_append : ByteArray := prog_6_method_2_code
def yX4_append : MethodName := ⟨RX4, "append", "(I)V"⟩
abbrev cX4_readAll : ByteArray := prog_6_method_3_code
def yX4_readAll : MethodName := ⟨RX4, "readAll", "(LPartedPension$Plan;)I"⟩
abbrev cX4_readStatement : ByteArray := prog_6_method_4_code
def yX4_readStatement : MethodName := ⟨RX4, "readStatement", "(LPartedPension$Plan;)V"⟩
abbrev cX4_readSlot : ByteArray := prog_6_method_5_code
def yX4_readSlot : MethodName := ⟨RX4, "readSlot", "(LPartedPension$Plan;II)V"⟩
abbrev cX4_readHow : ByteArray := prog_6_method_6_code
def yX4_readHow : MethodName := ⟨RX4, "readHow", "(I)V"⟩
abbrev cX4_readClose : ByteArray := prog_6_method_7_code
def yX4_readClose : MethodName := ⟨RX4, "readClose", "()V"⟩
abbrev cX4_blame : ByteArray := prog_6_method_8_code
def yX4_blame : MethodName := ⟨RX4, "blame", "(II)V"⟩
abbrev cX4_verbHere : ByteArray := prog_6_method_9_code
def yX4_verbHere : MethodName := ⟨RX4, "verbHere", "()LPartedPension$Verb;"⟩
abbrev cX4_isWord : ByteArray := prog_6_method_10_code
def yX4_isWord : MethodName := ⟨RX4, "isWord", "(Ljava/lang/String;)Z"⟩
abbrev cX4_readToken : ByteArray := prog_6_method_11_code
def yX4_readToken : MethodName := ⟨RX4, "readToken", "()V"⟩
abbrev cX4_readWord : ByteArray := prog_6_method_12_code
def yX4_readWord : MethodName := ⟨RX4, "readWord", "()V"⟩
abbrev cX4_readNumber : ByteArray := prog_6_method_13_code
def yX4_readNumber : MethodName := ⟨RX4, "readNumber", "()V"⟩
abbrev cX4_byteAt : ByteArray := prog_6_method_14_code
def yX4_byteAt : MethodName := ⟨RX4, "byteAt", "(I)I"⟩
abbrev cX4_isLetter : ByteArray := prog_6_method_15_code
def yX4_isLetter : MethodName := ⟨RX4, "isLetter", "(I)Z"⟩
abbrev cX4_isDigit : ByteArray := prog_6_method_16_code
def yX4_isDigit : MethodName := ⟨RX4, "isDigit", "(I)Z"⟩
def RX5 : String := "PartedPension$Reckoner"
def TX5 : u_T := fun k => match k with
  | 0 => ("PartedPension$Reckoner", "wholes", "[I", true)
  | 1 => ("PartedPension$Reckoner", "discounts", "[I", true)
  | 2 => ("PartedPension$Reckoner", "memberOdds", "[I", true)
  | 3 => ("PartedPension$Reckoner", "spouseOdds", "[I", true)
  | 4 => ("PartedPension$Reckoner", "owns", "[J", true)
  | _ => ("PartedPension$Reckoner", "changed", "LPartedPension$Spouse;", true)
def tyX5 : Nat → FieldType := fun k => match k with
  | 0 => .array .int
  | 1 => .array .int
  | 2 => .array .int
  | 3 => .array .int
  | 4 => .array .long
  | _ => .object "PartedPension$Spouse"
theorem nmX5 : ∀ a, a < 6 → ∀ b, b < 6 → a ≠ b → (TX5 a).2.1 ≠ (TX5 b).2.1 := by decide +kernel
theorem tyX5_ok : ∀ k, k < 6 → parseFieldDescriptor (TX5 k).2.2.1 = some (tyX5 k) := by decide +kernel
abbrev cX5_init : ByteArray := prog_7_method_1_code
def yX5_init : MethodName := ⟨RX5, "<init>", "()V"⟩
abbrev cX5_fillWholes : ByteArray := prog_7_method_2_code
def yX5_fillWholes : MethodName := ⟨RX5, "fillWholes", "(LPartedPension$Plan;)V"⟩
abbrev cX5_fillDiscounts : ByteArray := prog_7_method_3_code
def yX5_fillDiscounts : MethodName := ⟨RX5, "fillDiscounts", "(LPartedPension$Plan;)V"⟩
abbrev cX5_fillOdds : ByteArray := prog_7_method_4_code
def yX5_fillOdds : MethodName := ⟨RX5, "fillOdds", "(LPartedPension$Plan;II[I)V"⟩
abbrev cX5_prepare : ByteArray := prog_7_method_5_code
def yX5_prepare : MethodName := ⟨RX5, "prepare", "(LPartedPension$Plan;)V"⟩
abbrev cX5_paidWithin : ByteArray := prog_7_method_6_code
def yX5_paidWithin : MethodName := ⟨RX5, "paidWithin", "(LPartedPension$Plan;III)J"⟩
abbrev cX5_paidTo : ByteArray := prog_7_method_7_code
def yX5_paidTo : MethodName := ⟨RX5, "paidTo", "(LPartedPension$Plan;II)J"⟩
abbrev cX5_paidToSpouse : ByteArray := prog_7_method_8_code
def yX5_paidToSpouse : MethodName := ⟨RX5, "paidToSpouse", "(LPartedPension$Plan;LPartedPension$Spouse;IJ)J"⟩
abbrev cX5_paidToMember : ByteArray := prog_7_method_9_code
def yX5_paidToMember : MethodName := ⟨RX5, "paidToMember", "(LPartedPension$Plan;I)J"⟩
abbrev cX5_restOf : ByteArray := prog_7_method_10_code
def yX5_restOf : MethodName := ⟨RX5, "restOf", "(LPartedPension$Plan;I)J"⟩
abbrev cX5_isAlive : ByteArray := prog_7_method_11_code
def yX5_isAlive : MethodName := ⟨RX5, "isAlive", "(II)Z"⟩
abbrev cX5_firstCrossing : ByteArray := prog_7_method_12_code
def yX5_firstCrossing : MethodName := ⟨RX5, "firstCrossing", "(LPartedPension$Plan;LPartedPension$Spouse;)I"⟩
abbrev cX5_annuityOf : ByteArray := prog_7_method_13_code
def yX5_annuityOf : MethodName := ⟨RX5, "annuityOf", "(LPartedPension$Plan;III)J"⟩
abbrev cX5_annuityIn : ByteArray := prog_7_method_14_code
def yX5_annuityIn : MethodName := ⟨RX5, "annuityIn", "(II)J"⟩
abbrev cX5_ownOf : ByteArray := prog_7_method_15_code
def yX5_ownOf : MethodName := ⟨RX5, "ownOf", "(LPartedPension$Plan;LPartedPension$Spouse;)J"⟩
abbrev cX5_ownBy : ByteArray := prog_7_method_16_code
def yX5_ownBy : MethodName := ⟨RX5, "ownBy", "(JJJ)J"⟩
abbrev cX5_worthOfAll : ByteArray := prog_7_method_17_code
def yX5_worthOfAll : MethodName := ⟨RX5, "worthOfAll", "(LPartedPension$Plan;I)J"⟩
abbrev cX5_worthOfSpouse : ByteArray := prog_7_method_18_code
def yX5_worthOfSpouse : MethodName := ⟨RX5, "worthOfSpouse", "(LPartedPension$Plan;LPartedPension$Spouse;I)J"⟩
abbrev cX5_worthApart : ByteArray := prog_7_method_19_code
def yX5_worthApart : MethodName := ⟨RX5, "worthApart", "(JII)J"⟩
abbrev cX5_worthShared : ByteArray := prog_7_method_20_code
def yX5_worthShared : MethodName := ⟨RX5, "worthShared", "(LPartedPension$Plan;LPartedPension$Spouse;II)J"⟩
abbrev cX5_bestClaim : ByteArray := prog_7_method_21_code
def yX5_bestClaim : MethodName := ⟨RX5, "bestClaim", "(LPartedPension$Plan;LPartedPension$Spouse;)I"⟩
abbrev cX5_leastHalf : ByteArray := prog_7_method_22_code
def yX5_leastHalf : MethodName := ⟨RX5, "leastHalf", "(LPartedPension$Plan;LPartedPension$Spouse;)I"⟩
def RX6 : String := "PartedPension$Span"
def TX6 : u_T := fun k => match k with
  | 0 => ("PartedPension$Span", "from", "I", false)
  | 1 => ("PartedPension$Span", "to", "I", false)
  | _ => ("PartedPension$Span", "pay", "I", false)
def tyX6 : Nat → FieldType := fun k => match k with
  | 0 => .int
  | 1 => .int
  | _ => .int
theorem nmX6 : ∀ a, a < 3 → ∀ b, b < 3 → a ≠ b → (TX6 a).2.1 ≠ (TX6 b).2.1 := by decide +kernel
theorem tyX6_ok : ∀ k, k < 3 → parseFieldDescriptor (TX6 k).2.2.1 = some (tyX6 k) := by decide +kernel
abbrev cX6_init : ByteArray := prog_8_method_1_code
def yX6_init : MethodName := ⟨RX6, "<init>", "()V"⟩
abbrev cX6_copyFrom : ByteArray := prog_8_method_2_code
def yX6_copyFrom : MethodName := ⟨RX6, "copyFrom", "(LPartedPension$Span;)V"⟩
def RX7 : String := "PartedPension$Spouse"
def TX7 : u_T := fun k => match k with
  | 0 => ("PartedPension$Spouse", "born", "I", false)
  | 1 => ("PartedPension$Spouse", "wed", "I", false)
  | 2 => ("PartedPension$Spouse", "parted", "I", false)
  | 3 => ("PartedPension$Spouse", "portion", "I", false)
  | 4 => ("PartedPension$Spouse", "how", "I", false)
  | 5 => ("PartedPension$Spouse", "survivor", "I", false)
  | 6 => ("PartedPension$Spouse", "claims", "I", false)
  | 7 => ("PartedPension$Spouse", "dies", "I", false)
  | _ => ("PartedPension$Spouse", "served", "I", false)
def tyX7 : Nat → FieldType := fun k => match k with
  | 0 => .int
  | 1 => .int
  | 2 => .int
  | 3 => .int
  | 4 => .int
  | 5 => .int
  | 6 => .int
  | 7 => .int
  | _ => .int
theorem nmX7 : ∀ a, a < 9 → ∀ b, b < 9 → a ≠ b → (TX7 a).2.1 ≠ (TX7 b).2.1 := by decide +kernel
theorem tyX7_ok : ∀ k, k < 9 → parseFieldDescriptor (TX7 k).2.2.1 = some (tyX7 k) := by decide +kernel
abbrev cX7_init : ByteArray := prog_9_method_1_code
def yX7_init : MethodName := ⟨RX7, "<init>", "()V"⟩
abbrev cX7_begin : ByteArray := prog_9_method_2_code
def yX7_begin : MethodName := ⟨RX7, "begin", "(II)V"⟩
abbrev cX7_copyFrom : ByteArray := prog_9_method_3_code
def yX7_copyFrom : MethodName := ⟨RX7, "copyFrom", "(LPartedPension$Spouse;)V"⟩
abbrev cX7_isPartedBy : ByteArray := prog_9_method_4_code
def yX7_isPartedBy : MethodName := ⟨RX7, "isPartedBy", "(I)Z"⟩
def RX8 : String := "PartedPension$Verb"
def TX8 : u_T := fun k => match k with
  | _ => ("", "", "", false)
def tyX8 : Nat → FieldType := fun k => match k with
  | _ => .int
theorem nmX8 : ∀ a, a < 0 → ∀ b, b < 0 → a ≠ b → (TX8 a).2.1 ≠ (TX8 b).2.1 := by decide +kernel
theorem tyX8_ok : ∀ k, k < 0 → parseFieldDescriptor (TX8 k).2.2.1 = some (tyX8 k) := by decide +kernel
abbrev cX8_slot : ByteArray := prog_10_method_4_code
def yX8_slot : MethodName := ⟨RX8, "slot", "(I)I"⟩
abbrev cX8_isFull : ByteArray := prog_10_method_5_code
def yX8_isFull : MethodName := ⟨RX8, "isFull", "(LPartedPension$Plan;)Z"⟩
abbrev cX8_perform : ByteArray := prog_10_method_6_code
def yX8_perform : MethodName := ⟨RX8, "perform", "(LPartedPension$Plan;IIII)Z"⟩
def RX9 : String := "PartedPension"
def TX9 : u_T := fun k => match k with
  | 0 => ("PartedPension", "latestFault", "I", false)
  | 1 => ("PartedPension", "plan", "LPartedPension$Plan;", true)
  | 2 => ("PartedPension", "trial", "LPartedPension$Plan;", true)
  | 3 => ("PartedPension", "past", "[LPartedPension$Plan;", true)
  | 4 => ("PartedPension", "pastCount", "I", false)
  | 5 => ("PartedPension", "reader", "LPartedPension$Reader;", true)
  | 6 => ("PartedPension", "reckoner", "LPartedPension$Reckoner;", true)
  | _ => ("PartedPension", "calendar", "LPartedPension$Calendar;", true)
def tyX9 : Nat → FieldType := fun k => match k with
  | 0 => .int
  | 1 => .object "PartedPension$Plan"
  | 2 => .object "PartedPension$Plan"
  | 3 => .array (.object "PartedPension$Plan")
  | 4 => .int
  | 5 => .object "PartedPension$Reader"
  | 6 => .object "PartedPension$Reckoner"
  | _ => .object "PartedPension$Calendar"
theorem nmX9 : ∀ a, a < 8 → ∀ b, b < 8 → a ≠ b → (TX9 a).2.1 ≠ (TX9 b).2.1 := by decide +kernel
theorem tyX9_ok : ∀ k, k < 8 → parseFieldDescriptor (TX9 k).2.2.1 = some (tyX9 k) := by decide +kernel
abbrev cX9_init : ByteArray := prog_1_method_1_code
def yX9_init : MethodName := ⟨RX9, "<init>", "()V"⟩
abbrev cX9_feed : ByteArray := prog_1_method_2_code
def yX9_feed : MethodName := ⟨RX9, "feed", "(IIIII)I"⟩
abbrev cX9_end : ByteArray := prog_1_method_3_code
def yX9_end : MethodName := ⟨RX9, "end", "(I)Z"⟩
abbrev cX9_tell : ByteArray := prog_1_method_4_code
def yX9_tell : MethodName := ⟨RX9, "tell", "()I"⟩
abbrev cX9_fault : ByteArray := prog_1_method_5_code
def yX9_fault : MethodName := ⟨RX9, "fault", "()I"⟩
abbrev cX9_set : ByteArray := prog_1_method_6_code
def yX9_set : MethodName := ⟨RX9, "set", "(III)Z"⟩
abbrev cX9_undo : ByteArray := prog_1_method_7_code
def yX9_undo : MethodName := ⟨RX9, "undo", "()I"⟩
abbrev cX9_keepPast : ByteArray := prog_1_method_8_code
def yX9_keepPast : MethodName := ⟨RX9, "keepPast", "()V"⟩
abbrev cX9_count : ByteArray := prog_1_method_9_code
def yX9_count : MethodName := ⟨RX9, "count", "(I)I"⟩
abbrev cX9_span : ByteArray := prog_1_method_10_code
def yX9_span : MethodName := ⟨RX9, "span", "(II)I"⟩
abbrev cX9_spouse : ByteArray := prog_1_method_11_code
def yX9_spouse : MethodName := ⟨RX9, "spouse", "(II)I"⟩
abbrev cX9_service : ByteArray := prog_1_method_12_code
def yX9_service : MethodName := ⟨RX9, "service", "(II)I"⟩
abbrev cX9_benefit : ByteArray := prog_1_method_13_code
def yX9_benefit : MethodName := ⟨RX9, "benefit", "(I)I"⟩
abbrev cX9_whole : ByteArray := prog_1_method_14_code
def yX9_whole : MethodName := ⟨RX9, "whole", "(I)I"⟩
abbrev cX9_share : ByteArray := prog_1_method_15_code
def yX9_share : MethodName := ⟨RX9, "share", "(IZ)I"⟩
abbrev cX9_paid : ByteArray := prog_1_method_16_code
def yX9_paid : MethodName := ⟨RX9, "paid", "(II)J"⟩
abbrev cX9_sum : ByteArray := prog_1_method_17_code
def yX9_sum : MethodName := ⟨RX9, "sum", "(III)J"⟩
abbrev cX9_richest : ByteArray := prog_1_method_18_code
def yX9_richest : MethodName := ⟨RX9, "richest", "(I)I"⟩
abbrev cX9_happens : ByteArray := prog_1_method_19_code
def yX9_happens : MethodName := ⟨RX9, "happens", "(I)I"⟩
abbrev cX9_lives : ByteArray := prog_1_method_20_code
def yX9_lives : MethodName := ⟨RX9, "lives", "(I)I"⟩
abbrev cX9_discount : ByteArray := prog_1_method_21_code
def yX9_discount : MethodName := ⟨RX9, "discount", "(I)I"⟩
abbrev cX9_annuity : ByteArray := prog_1_method_22_code
def yX9_annuity : MethodName := ⟨RX9, "annuity", "(III)J"⟩
abbrev cX9_own : ByteArray := prog_1_method_23_code
def yX9_own : MethodName := ⟨RX9, "own", "(I)J"⟩
abbrev cX9_worth : ByteArray := prog_1_method_24_code
def yX9_worth : MethodName := ⟨RX9, "worth", "(II)J"⟩
abbrev cX9_claimBest : ByteArray := prog_1_method_25_code
def yX9_claimBest : MethodName := ⟨RX9, "claimBest", "(I)I"⟩
abbrev cX9_half : ByteArray := prog_1_method_26_code
def yX9_half : MethodName := ⟨RX9, "half", "(I)I"⟩
abbrev cX9_crosses : ByteArray := prog_1_method_27_code
def yX9_crosses : MethodName := ⟨RX9, "crosses", "(I)I"⟩
abbrev cX9_hasWorthInRetires : ByteArray := prog_1_method_28_code
def yX9_hasWorthInRetires : MethodName := ⟨RX9, "hasWorthInRetires", "(I)Z"⟩
abbrev cX9_isPaid : ByteArray := prog_1_method_29_code
def yX9_isPaid : MethodName := ⟨RX9, "isPaid", "(I)Z"⟩
abbrev cX9_isMonth : ByteArray := prog_1_method_30_code
def yX9_isMonth : MethodName := ⟨RX9, "isMonth", "(I)Z"⟩
abbrev cX9_isTerm : ByteArray := prog_1_method_31_code
def yX9_isTerm : MethodName := ⟨RX9, "isTerm", "(I)Z"⟩
abbrev cX9_isWithin : ByteArray := prog_1_method_32_code
def yX9_isWithin : MethodName := ⟨RX9, "isWithin", "(II)Z"⟩
abbrev cX9_commonDivisor : ByteArray := prog_1_method_33_code
def yX9_commonDivisor : MethodName := ⟨RX9, "commonDivisor", "(II)I"⟩
def RX10 : String := "PartedPensionModel"
def TX10 : u_T := fun k => match k with
  | 0 => ("PartedPensionModel", "raised", "I", false)
  | 1 => ("PartedPensionModel", "w", "[I", true)
  | 2 => ("PartedPensionModel", "was", "[I", true)
  | 3 => ("PartedPensionModel", "draft", "[I", true)
  | 4 => ("PartedPensionModel", "kept", "I", false)
  | 5 => ("PartedPensionModel", "wholes", "[J", true)
  | 6 => ("PartedPensionModel", "isLaid", "Z", false)
  | 7 => ("PartedPensionModel", "worthOf", "[J", true)
  | 8 => ("PartedPensionModel", "oddsMember", "[J", true)
  | 9 => ("PartedPensionModel", "oddsSpouse", "[J", true)
  | 10 => ("PartedPensionModel", "owns", "[J", true)
  | 11 => ("PartedPensionModel", "event", "[I", true)
  | 12 => ("PartedPensionModel", "events", "I", false)
  | 13 => ("PartedPensionModel", "tape", "[I", true)
  | 14 => ("PartedPensionModel", "taped", "I", false)
  | 15 => ("PartedPensionModel", "fault", "I", false)
  | 16 => ("PartedPensionModel", "at", "I", false)
  | 17 => ("PartedPensionModel", "wrong", "I", false)
  | 18 => ("PartedPensionModel", "value", "I", false)
  | 19 => ("PartedPensionModel", "place", "I", false)
  | 20 => ("PartedPensionModel", "statements", "I", false)
  | _ => ("PartedPensionModel", "told", "[I", true)
def tyX10 : Nat → FieldType := fun k => match k with
  | 0 => .int
  | 1 => .array .int
  | 2 => .array .int
  | 3 => .array .int
  | 4 => .int
  | 5 => .array .long
  | 6 => .boolean
  | 7 => .array .long
  | 8 => .array .long
  | 9 => .array .long
  | 10 => .array .long
  | 11 => .array .int
  | 12 => .int
  | 13 => .array .int
  | 14 => .int
  | 15 => .int
  | 16 => .int
  | 17 => .int
  | 18 => .int
  | 19 => .int
  | 20 => .int
  | _ => .array .int
theorem nmX10 : ∀ a, a < 22 → ∀ b, b < 22 → a ≠ b → (TX10 a).2.1 ≠ (TX10 b).2.1 := by decide +kernel
theorem tyX10_ok : ∀ k, k < 22 → parseFieldDescriptor (TX10 k).2.2.1 = some (tyX10 k) := by decide +kernel
abbrev cX10_init : ByteArray := prog_12_method_1_code
def yX10_init : MethodName := ⟨RX10, "<init>", "()V"⟩
abbrev cX10_thrown : ByteArray := prog_12_method_2_code
def yX10_thrown : MethodName := ⟨RX10, "thrown", "()I"⟩
abbrev cX10_in : ByteArray := prog_12_method_3_code
def yX10_in : MethodName := ⟨RX10, "in", "(III)Z"⟩
abbrev cX10_isMonth : ByteArray := prog_12_method_4_code
def yX10_isMonth : MethodName := ⟨RX10, "isMonth", "(I)Z"⟩
abbrev cX10_begins : ByteArray := prog_12_method_5_code
def yX10_begins : MethodName := ⟨RX10, "begins", "(I)V"⟩
abbrev cX10_mostOf : ByteArray := prog_12_method_6_code
def yX10_mostOf : MethodName := ⟨RX10, "mostOf", "(I)I"⟩
abbrev cX10_isSpouse : ByteArray := prog_12_method_7_code
def yX10_isSpouse : MethodName := ⟨RX10, "isSpouse", "(I)Z"⟩
abbrev cX10_its : ByteArray := prog_12_method_8_code
def yX10_its : MethodName := ⟨RX10, "its", "(II)I"⟩
abbrev cX10_isParted : ByteArray := prog_12_method_9_code
def yX10_isParted : MethodName := ⟨RX10, "isParted", "(I)Z"⟩
abbrev cX10_spanOf : ByteArray := prog_12_method_10_code
def yX10_spanOf : MethodName := ⟨RX10, "spanOf", "(II)I"⟩
abbrev cX10_serviceIn : ByteArray := prog_12_method_11_code
def yX10_serviceIn : MethodName := ⟨RX10, "serviceIn", "(II)I"⟩
abbrev cX10_served : ByteArray := prog_12_method_12_code
def yX10_served : MethodName := ⟨RX10, "served", "()I"⟩
abbrev cX10_finalPay : ByteArray := prog_12_method_13_code
def yX10_finalPay : MethodName := ⟨RX10, "finalPay", "()I"⟩
abbrev cX10_base : ByteArray := prog_12_method_14_code
def yX10_base : MethodName := ⟨RX10, "base", "()I"⟩
abbrev cX10_firstPaid : ByteArray := prog_12_method_15_code
def yX10_firstPaid : MethodName := ⟨RX10, "firstPaid", "()I"⟩
abbrev cX10_laysWholes : ByteArray := prog_12_method_16_code
def yX10_laysWholes : MethodName := ⟨RX10, "laysWholes", "()V"⟩
abbrev cX10_wedIn : ByteArray := prog_12_method_17_code
def yX10_wedIn : MethodName := ⟨RX10, "wedIn", "(I)I"⟩
abbrev cX10_shareIn : ByteArray := prog_12_method_18_code
def yX10_shareIn : MethodName := ⟨RX10, "shareIn", "(II)J"⟩
abbrev cX10_begin : ByteArray := prog_12_method_19_code
def yX10_begin : MethodName := ⟨RX10, "begin", "(I)I"⟩
abbrev cX10_livesAt : ByteArray := prog_12_method_20_code
def yX10_livesAt : MethodName := ⟨RX10, "livesAt", "(I)I"⟩
abbrev cX10_bornOf : ByteArray := prog_12_method_21_code
def yX10_bornOf : MethodName := ⟨RX10, "bornOf", "(I)I"⟩
abbrev cX10_laysOdds : ByteArray := prog_12_method_22_code
def yX10_laysOdds : MethodName := ⟨RX10, "laysOdds", "([JII)V"⟩
abbrev cX10_annuityBy : ByteArray := prog_12_method_23_code
def yX10_annuityBy : MethodName := ⟨RX10, "annuityBy", "([JII)J"⟩
abbrev cX10_areBorn : ByteArray := prog_12_method_24_code
def yX10_areBorn : MethodName := ⟨RX10, "areBorn", "(II)Z"⟩
abbrev cX10_ownOf : ByteArray := prog_12_method_25_code
def yX10_ownOf : MethodName := ⟨RX10, "ownOf", "(I)J"⟩
abbrev cX10_ownBy : ByteArray := prog_12_method_26_code
def yX10_ownBy : MethodName := ⟨RX10, "ownBy", "(IJJ)J"⟩
abbrev cX10_livesIn : ByteArray := prog_12_method_27_code
def yX10_livesIn : MethodName := ⟨RX10, "livesIn", "(II)Z"⟩
abbrev cX10_laysOwns : ByteArray := prog_12_method_28_code
def yX10_laysOwns : MethodName := ⟨RX10, "laysOwns", "()V"⟩
abbrev cX10_isPaid : ByteArray := prog_12_method_29_code
def yX10_isPaid : MethodName := ⟨RX10, "isPaid", "(II)Z"⟩
abbrev cX10_paidBy : ByteArray := prog_12_method_30_code
def yX10_paidBy : MethodName := ⟨RX10, "paidBy", "(III)J"⟩
abbrev cX10_paidMember : ByteArray := prog_12_method_31_code
def yX10_paidMember : MethodName := ⟨RX10, "paidMember", "(I)J"⟩
abbrev cX10_paidTo : ByteArray := prog_12_method_32_code
def yX10_paidTo : MethodName := ⟨RX10, "paidTo", "(II)J"⟩
abbrev cX10_isWho : ByteArray := prog_12_method_33_code
def yX10_isWho : MethodName := ⟨RX10, "isWho", "(I)Z"⟩
abbrev cX10_sumOf : ByteArray := prog_12_method_34_code
def yX10_sumOf : MethodName := ⟨RX10, "sumOf", "(III)J"⟩
abbrev cX10_paid : ByteArray := prog_12_method_35_code
def yX10_paid : MethodName := ⟨RX10, "paid", "(II)J"⟩
abbrev cX10_sum : ByteArray := prog_12_method_36_code
def yX10_sum : MethodName := ⟨RX10, "sum", "(III)J"⟩
abbrev cX10_richest : ByteArray := prog_12_method_37_code
def yX10_richest : MethodName := ⟨RX10, "richest", "(I)I"⟩
abbrev cX10_crosses : ByteArray := prog_12_method_38_code
def yX10_crosses : MethodName := ⟨RX10, "crosses", "(I)I"⟩
abbrev cX10_count : ByteArray := prog_12_method_39_code
def yX10_count : MethodName := ⟨RX10, "count", "(I)I"⟩
abbrev cX10_span : ByteArray := prog_12_method_40_code
def yX10_span : MethodName := ⟨RX10, "span", "(II)I"⟩
abbrev cX10_spouse : ByteArray := prog_12_method_41_code
def yX10_spouse : MethodName := ⟨RX10, "spouse", "(II)I"⟩
abbrev cX10_service : ByteArray := prog_12_method_42_code
def yX10_service : MethodName := ⟨RX10, "service", "(II)I"⟩
abbrev cX10_benefit : ByteArray := prog_12_method_43_code
def yX10_benefit : MethodName := ⟨RX10, "benefit", "(I)I"⟩
abbrev cX10_whole : ByteArray := prog_12_method_44_code
def yX10_whole : MethodName := ⟨RX10, "whole", "(I)I"⟩
abbrev cX10_divisor : ByteArray := prog_12_method_45_code
def yX10_divisor : MethodName := ⟨RX10, "divisor", "(II)I"⟩
abbrev cX10_share : ByteArray := prog_12_method_46_code
def yX10_share : MethodName := ⟨RX10, "share", "(IZ)I"⟩
abbrev cX10_happensIn : ByteArray := prog_12_method_47_code
def yX10_happensIn : MethodName := ⟨RX10, "happensIn", "(III)V"⟩
abbrev cX10_happens : ByteArray := prog_12_method_48_code
def yX10_happens : MethodName := ⟨RX10, "happens", "(I)I"⟩
abbrev cX10_lives : ByteArray := prog_12_method_49_code
def yX10_lives : MethodName := ⟨RX10, "lives", "(I)I"⟩
abbrev cX10_discount : ByteArray := prog_12_method_50_code
def yX10_discount : MethodName := ⟨RX10, "discount", "(I)I"⟩
abbrev cX10_annuity : ByteArray := prog_12_method_51_code
def yX10_annuity : MethodName := ⟨RX10, "annuity", "(III)J"⟩
abbrev cX10_own : ByteArray := prog_12_method_52_code
def yX10_own : MethodName := ⟨RX10, "own", "(I)J"⟩
abbrev cX10_worthIn : ByteArray := prog_12_method_53_code
def yX10_worthIn : MethodName := ⟨RX10, "worthIn", "(IIJ)J"⟩
abbrev cX10_worthOfSpouse : ByteArray := prog_12_method_54_code
def yX10_worthOfSpouse : MethodName := ⟨RX10, "worthOfSpouse", "(II)J"⟩
abbrev cX10_worthOfAll : ByteArray := prog_12_method_55_code
def yX10_worthOfAll : MethodName := ⟨RX10, "worthOfAll", "(I)J"⟩
abbrev cX10_hasWorth : ByteArray := prog_12_method_56_code
def yX10_hasWorth : MethodName := ⟨RX10, "hasWorth", "(II)Z"⟩
abbrev cX10_worth : ByteArray := prog_12_method_57_code
def yX10_worth : MethodName := ⟨RX10, "worth", "(II)J"⟩
abbrev cX10_claimBest : ByteArray := prog_12_method_58_code
def yX10_claimBest : MethodName := ⟨RX10, "claimBest", "(I)I"⟩
abbrev cX10_half : ByteArray := prog_12_method_59_code
def yX10_half : MethodName := ⟨RX10, "half", "(I)I"⟩
abbrev cX10_keeps : ByteArray := prog_12_method_60_code
def yX10_keeps : MethodName := ⟨RX10, "keeps", "([I)V"⟩
abbrev cX10_lastService : ByteArray := prog_12_method_61_code
def yX10_lastService : MethodName := ⟨RX10, "lastService", "()I"⟩
abbrev cX10_canRetire : ByteArray := prog_12_method_62_code
def yX10_canRetire : MethodName := ⟨RX10, "canRetire", "(I)Z"⟩
abbrev cX10_placeOf : ByteArray := prog_12_method_63_code
def yX10_placeOf : MethodName := ⟨RX10, "placeOf", "(III)I"⟩
abbrev cX10_set : ByteArray := prog_12_method_64_code
def yX10_set : MethodName := ⟨RX10, "set", "(III)Z"⟩
abbrev cX10_undo : ByteArray := prog_12_method_65_code
def yX10_undo : MethodName := ⟨RX10, "undo", "()I"⟩
abbrev cX10_four : ByteArray := prog_12_method_66_code
def yX10_four : MethodName := ⟨RX10, "four", "(I)V"⟩
abbrev cX10_feed : ByteArray := prog_12_method_67_code
def yX10_feed : MethodName := ⟨RX10, "feed", "(IIIII)I"⟩
abbrev cX10_end : ByteArray := prog_12_method_68_code
def yX10_end : MethodName := ⟨RX10, "end", "(I)Z"⟩
abbrev cX10_here : ByteArray := prog_12_method_69_code
def yX10_here : MethodName := ⟨RX10, "here", "()I"⟩
abbrev cX10_fails : ByteArray := prog_12_method_70_code
def yX10_fails : MethodName := ⟨RX10, "fails", "(II)Z"⟩
abbrev cX10_number : ByteArray := prog_12_method_71_code
def yX10_number : MethodName := ⟨RX10, "number", "(III)Z"⟩
abbrev cX10_month : ByteArray := prog_12_method_72_code
def yX10_month : MethodName := ⟨RX10, "month", "(I)Z"⟩
abbrev cX10_readWord : ByteArray := prog_12_method_73_code
def yX10_readWord : MethodName := ⟨RX10, "readWord", "()J"⟩
abbrev cX10_ends : ByteArray := prog_12_method_74_code
def yX10_ends : MethodName := ⟨RX10, "ends", "()Z"⟩
abbrev cX10_readServe : ByteArray := prog_12_method_75_code
def yX10_readServe : MethodName := ⟨RX10, "readServe", "(I)Z"⟩
abbrev cX10_readWed : ByteArray := prog_12_method_76_code
def yX10_readWed : MethodName := ⟨RX10, "readWed", "(I)Z"⟩
abbrev cX10_readPart : ByteArray := prog_12_method_77_code
def yX10_readPart : MethodName := ⟨RX10, "readPart", "(I)Z"⟩
abbrev cX10_readLives : ByteArray := prog_12_method_78_code
def yX10_readLives : MethodName := ⟨RX10, "readLives", "(I)Z"⟩
abbrev cX10_readOfSpouse : ByteArray := prog_12_method_79_code
def yX10_readOfSpouse : MethodName := ⟨RX10, "readOfSpouse", "(II)Z"⟩
abbrev cX10_readOne : ByteArray := prog_12_method_80_code
def yX10_readOne : MethodName := ⟨RX10, "readOne", "(II)Z"⟩
abbrev cX10_readBorn : ByteArray := prog_12_method_81_code
def yX10_readBorn : MethodName := ⟨RX10, "readBorn", "()Z"⟩
abbrev cX10_termOf : ByteArray := prog_12_method_82_code
def yX10_termOf : MethodName := ⟨RX10, "termOf", "(J)I"⟩
abbrev cX10_readStatement : ByteArray := prog_12_method_83_code
def yX10_readStatement : MethodName := ⟨RX10, "readStatement", "()Z"⟩
abbrev cX10_tell : ByteArray := prog_12_method_84_code
def yX10_tell : MethodName := ⟨RX10, "tell", "()I"⟩
abbrev cX10_fault : ByteArray := prog_12_method_85_code
def yX10_fault : MethodName := ⟨RX10, "fault", "()I"⟩
def RJx145de : String := "java/io/Serializable"
def TJx145de : u_T := fun k => match k with
  | _ => ("", "", "", false)
def tyJx145de : Nat → FieldType := fun k => match k with
  | _ => .int
theorem tyJx145de_ok : ∀ k, k < 0 → parseFieldDescriptor (TJx145de k).2.2.1 = some (tyJx145de k) := by decide +kernel
def RJx9f9b0 : String := "java/lang/CharSequence"
def TJx9f9b0 : u_T := fun k => match k with
  | _ => ("", "", "", false)
def tyJx9f9b0 : Nat → FieldType := fun k => match k with
  | _ => .int
theorem tyJx9f9b0_ok : ∀ k, k < 0 → parseFieldDescriptor (TJx9f9b0 k).2.2.1 = some (tyJx9f9b0 k) := by decide +kernel
def RJxb160c : String := "java/lang/Comparable"
def TJxb160c : u_T := fun k => match k with
  | _ => ("", "", "", false)
def tyJxb160c : Nat → FieldType := fun k => match k with
  | _ => .int
theorem tyJxb160c_ok : ∀ k, k < 0 → parseFieldDescriptor (TJxb160c k).2.2.1 = some (tyJxb160c k) := by decide +kernel
def RJx29ce0 : String := "java/lang/Enum"
def TJx29ce0 : u_T := fun k => match k with
  | _ => ("", "", "", false)
def tyJx29ce0 : Nat → FieldType := fun k => match k with
  | _ => .int
theorem tyJx29ce0_ok : ∀ k, k < 0 → parseFieldDescriptor (TJx29ce0 k).2.2.1 = some (tyJx29ce0 k) := by decide +kernel
abbrev cJx29ce0_ordinal_8abf5 : ByteArray := prog_16_method_2_code
def yJx29ce0_ordinal_8abf5 : MethodName := ⟨RJx29ce0, "ordinal", "()I"⟩
def RJ9 : String := "java/lang/Math"
def TJ9 : u_T := fun k => match k with
  | _ => ("", "", "", false)
def tyJ9 : Nat → FieldType := fun k => match k with
  | _ => .int
theorem tyJ9_ok : ∀ k, k < 0 → parseFieldDescriptor (TJ9 k).2.2.1 = some (tyJ9 k) := by decide +kernel
abbrev cJ9_max_7cf53 : ByteArray := prog_18_method_65_code
def yJ9_max_7cf53 : MethodName := ⟨RJ9, "max", "(II)I"⟩
abbrev cJ9_min_f86c9 : ByteArray := prog_18_method_70_code
def yJ9_min_f86c9 : MethodName := ⟨RJ9, "min", "(JJ)J"⟩
def RJ0 : String := "java/lang/String"
def TJ0 : u_T := fun k => match k with
  | _ => ("", "", "", false)
def tyJ0 : Nat → FieldType := fun k => match k with
  | _ => .int
theorem tyJ0_ok : ∀ k, k < 0 → parseFieldDescriptor (TJ0 k).2.2.1 = some (tyJ0 k) := by decide +kernel
abbrev cJ0_length_8abf5 : ByteArray := prog_20_method_54_code
def yJ0_length_8abf5 : MethodName := ⟨RJ0, "length", "()I"⟩
abbrev cJ0_charAt_5068e : ByteArray := prog_20_method_56_code
def yJ0_charAt_5068e : MethodName := ⟨RJ0, "charAt", "(I)C"⟩
abbrev cJ0_coder_7d493 : ByteArray := prog_20_method_152_code
def yJ0_coder_7d493 : MethodName := ⟨RJ0, "coder", "()B"⟩
abbrev cJ0_isLatin1_aae02 : ByteArray := prog_20_method_154_code
def yJ0_isLatin1_aae02 : MethodName := ⟨RJ0, "isLatin1", "()Z"⟩
abbrev cJ0_checkIndex_df160 : ByteArray := prog_20_method_155_code
def yJ0_checkIndex_df160 : MethodName := ⟨RJ0, "checkIndex", "(II)V"⟩
def RJ1 : String := "java/lang/StringLatin1"
def TJ1 : u_T := fun k => match k with
  | _ => ("", "", "", false)
def tyJ1 : Nat → FieldType := fun k => match k with
  | _ => .int
theorem tyJ1_ok : ∀ k, k < 0 → parseFieldDescriptor (TJ1 k).2.2.1 = some (tyJ1 k) := by decide +kernel
abbrev cJ1_charAt_3b067 : ByteArray := prog_21_method_2_code
def yJ1_charAt_3b067 : MethodName := ⟨RJ1, "charAt", "([BI)C"⟩
def RJ2 : String := "java/lang/StringUTF16"
def TJ2 : u_T := fun k => match k with
  | _ => ("", "", "", false)
def tyJ2 : Nat → FieldType := fun k => match k with
  | _ => .int
theorem tyJ2_ok : ∀ k, k < 0 → parseFieldDescriptor (TJ2 k).2.2.1 = some (tyJ2 k) := by decide +kernel
abbrev cJ2_getChar_3b067 : ByteArray := prog_22_method_5_code
def yJ2_getChar_3b067 : MethodName := ⟨RJ2, "getChar", "([BI)C"⟩
abbrev cJ2_length_9d52b : ByteArray := prog_22_method_6_code
def yJ2_length_9d52b : MethodName := ⟨RJ2, "length", "([B)I"⟩
abbrev cJ2_charAt_3b067 : ByteArray := prog_22_method_83_code
def yJ2_charAt_3b067 : MethodName := ⟨RJ2, "charAt", "([BI)C"⟩
abbrev cJ2_checkIndex_2214a : ByteArray := prog_22_method_91_code
def yJ2_checkIndex_2214a : MethodName := ⟨RJ2, "checkIndex", "(I[B)V"⟩
def RJxfd54e : String := "java/lang/constant/Constable"
def TJxfd54e : u_T := fun k => match k with
  | _ => ("", "", "", false)
def tyJxfd54e : Nat → FieldType := fun k => match k with
  | _ => .int
theorem tyJxfd54e_ok : ∀ k, k < 0 → parseFieldDescriptor (TJxfd54e k).2.2.1 = some (tyJxfd54e k) := by decide +kernel
def RJx3cf43 : String := "java/lang/constant/ConstantDesc"
def TJx3cf43 : u_T := fun k => match k with
  | _ => ("", "", "", false)
def tyJx3cf43 : Nat → FieldType := fun k => match k with
  | _ => .int
theorem tyJx3cf43_ok : ∀ k, k < 0 → parseFieldDescriptor (TJx3cf43 k).2.2.1 = some (tyJx3cf43 k) := by decide +kernel
def RJ3 : String := "jdk/internal/util/Preconditions"
def TJ3 : u_T := fun k => match k with
  | _ => ("", "", "", false)
def tyJ3 : Nat → FieldType := fun k => match k with
  | _ => .int
theorem tyJ3_ok : ∀ k, k < 0 → parseFieldDescriptor (TJ3 k).2.2.1 = some (tyJ3 k) := by decide +kernel
abbrev cJ3_checkIndex_8e157 : ByteArray := prog_27_method_11_code
def yJ3_checkIndex_8e157 : MethodName := ⟨RJ3, "checkIndex", "(IILjava/util/function/BiFunction;)I"⟩
def RL : String := "PartedPensionLaw"
abbrev cL_span : ByteArray := method_3_code
def yL_span : MethodName := ⟨RL, "span", "(LPartedPension;II[J)I"⟩
abbrev cL_spouse : ByteArray := method_4_code
def yL_spouse : MethodName := ⟨RL, "spouse", "(LPartedPension;II[J)I"⟩
abbrev cL_law : ByteArray := code
def yL_law : MethodName := ⟨RL, "law", "([I)Z"⟩
abbrev vwCl : List vw_C := [(RX1, TX1, 2), (RX2, TX2, 3), (RX3, TX3, 10), (RX4, TX4, 8), (RX5, TX5, 6), (RX6, TX6, 3), (RX7, TX7, 9), (RX8, TX8, 0), (RX9, TX9, 8), (RX10, TX10, 22)]
