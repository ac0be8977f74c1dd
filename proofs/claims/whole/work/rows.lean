section
-- ===== PART A: goes FIRST, ahead of the names: the tables' words, and 'selects' of the private methods out of them =====
/-- a private method of a class that the tables say can be made, by its rows of tables_1 -/
def lw_okq (q : MethodName × Nat) : Prop := (q.1.cls ≠ "java/lang/invoke/MethodHandle" ∧ q.1.cls ≠ "java/lang/invoke/VarHandle") ∧ Cond.instantiable q.1.cls q.2 ∈ tables_1 ∧ Cond.privateMethod q.1 ∈ tables_1 ∧ Cond.instanceMethod q.1 ∈ tables_1
theorem lw_p0 : lw_okq (⟨"PartedPension$Plan", "beginAnew", "(I)V"⟩, 10) := ⟨⟨by decide +kernel, by decide +kernel⟩, List.mem_of_getElem? (i := 31) (by decide +kernel), List.mem_of_getElem? (i := 142) (by decide +kernel), List.mem_of_getElem? (i := 143) (by decide +kernel)⟩
theorem lw_p1 : lw_okq (⟨"PartedPension$Reader", "append", "(I)V"⟩, 8) := ⟨⟨by decide +kernel, by decide +kernel⟩, List.mem_of_getElem? (i := 206) (by decide +kernel), List.mem_of_getElem? (i := 314) (by decide +kernel), List.mem_of_getElem? (i := 315) (by decide +kernel)⟩
theorem lw_p2 : lw_okq (⟨"PartedPension$Plan", "copyFrom", "(LPartedPension$Plan;)V"⟩, 10) := ⟨⟨by decide +kernel, by decide +kernel⟩, List.mem_of_getElem? (i := 31) (by decide +kernel), List.mem_of_getElem? (i := 326) (by decide +kernel), List.mem_of_getElem? (i := 327) (by decide +kernel)⟩
theorem lw_p3 : lw_okq (⟨"PartedPension$Span", "copyFrom", "(LPartedPension$Span;)V"⟩, 3) := ⟨⟨by decide +kernel, by decide +kernel⟩, List.mem_of_getElem? (i := 59) (by decide +kernel), List.mem_of_getElem? (i := 330) (by decide +kernel), List.mem_of_getElem? (i := 331) (by decide +kernel)⟩
theorem lw_p4 : lw_okq (⟨"PartedPension$Spouse", "copyFrom", "(LPartedPension$Spouse;)V"⟩, 9) := ⟨⟨by decide +kernel, by decide +kernel⟩, List.mem_of_getElem? (i := 82) (by decide +kernel), List.mem_of_getElem? (i := 334) (by decide +kernel), List.mem_of_getElem? (i := 335) (by decide +kernel)⟩
theorem lw_p5 : lw_okq (⟨"PartedPension$LifeTable", "copyFrom", "(LPartedPension$LifeTable;)V"⟩, 3) := ⟨⟨by decide +kernel, by decide +kernel⟩, List.mem_of_getElem? (i := 41) (by decide +kernel), List.mem_of_getElem? (i := 338) (by decide +kernel), List.mem_of_getElem? (i := 339) (by decide +kernel)⟩
theorem lw_p6 : lw_okq (⟨"PartedPension$Reader", "readAll", "(LPartedPension$Plan;)I"⟩, 8) := ⟨⟨by decide +kernel, by decide +kernel⟩, List.mem_of_getElem? (i := 206) (by decide +kernel), List.mem_of_getElem? (i := 342) (by decide +kernel), List.mem_of_getElem? (i := 343) (by decide +kernel)⟩
theorem lw_p7 : lw_okq (⟨"PartedPension$Reader", "readToken", "()V"⟩, 8) := ⟨⟨by decide +kernel, by decide +kernel⟩, List.mem_of_getElem? (i := 206) (by decide +kernel), List.mem_of_getElem? (i := 346) (by decide +kernel), List.mem_of_getElem? (i := 347) (by decide +kernel)⟩
theorem lw_p8 : lw_okq (⟨"PartedPension$Reader", "byteAt", "(I)I"⟩, 8) := ⟨⟨by decide +kernel, by decide +kernel⟩, List.mem_of_getElem? (i := 206) (by decide +kernel), List.mem_of_getElem? (i := 350) (by decide +kernel), List.mem_of_getElem? (i := 351) (by decide +kernel)⟩
theorem lw_p9 : lw_okq (⟨"PartedPension$Reader", "readWord", "()V"⟩, 8) := ⟨⟨by decide +kernel, by decide +kernel⟩, List.mem_of_getElem? (i := 206) (by decide +kernel), List.mem_of_getElem? (i := 357) (by decide +kernel), List.mem_of_getElem? (i := 358) (by decide +kernel)⟩
theorem lw_p10 : lw_okq (⟨"PartedPension$Reader", "readNumber", "()V"⟩, 8) := ⟨⟨by decide +kernel, by decide +kernel⟩, List.mem_of_getElem? (i := 206) (by decide +kernel), List.mem_of_getElem? (i := 364) (by decide +kernel), List.mem_of_getElem? (i := 365) (by decide +kernel)⟩
theorem lw_p11 : lw_okq (⟨"PartedPension$Reader", "readStatement", "(LPartedPension$Plan;)V"⟩, 8) := ⟨⟨by decide +kernel, by decide +kernel⟩, List.mem_of_getElem? (i := 206) (by decide +kernel), List.mem_of_getElem? (i := 368) (by decide +kernel), List.mem_of_getElem? (i := 369) (by decide +kernel)⟩
theorem lw_p12 : lw_okq (⟨"PartedPension$Reader", "verbHere", "()LPartedPension$Verb;"⟩, 8) := ⟨⟨by decide +kernel, by decide +kernel⟩, List.mem_of_getElem? (i := 206) (by decide +kernel), List.mem_of_getElem? (i := 372) (by decide +kernel), List.mem_of_getElem? (i := 373) (by decide +kernel)⟩
theorem lw_p13 : lw_okq (⟨"PartedPension$Reader", "isWord", "(Ljava/lang/String;)Z"⟩, 8) := ⟨⟨by decide +kernel, by decide +kernel⟩, List.mem_of_getElem? (i := 206) (by decide +kernel), List.mem_of_getElem? (i := 378) (by decide +kernel), List.mem_of_getElem? (i := 379) (by decide +kernel)⟩
theorem lw_p14 : lw_okq (⟨"PartedPension$Reader", "blame", "(II)V"⟩, 8) := ⟨⟨by decide +kernel, by decide +kernel⟩, List.mem_of_getElem? (i := 206) (by decide +kernel), List.mem_of_getElem? (i := 430) (by decide +kernel), List.mem_of_getElem? (i := 431) (by decide +kernel)⟩
theorem lw_p15 : lw_okq (⟨"PartedPension$Verb", "isFull", "(LPartedPension$Plan;)Z"⟩, 8) := ⟨⟨by decide +kernel, by decide +kernel⟩, List.mem_of_getElem? (i := 436) (by decide +kernel), List.mem_of_getElem? (i := 434) (by decide +kernel), List.mem_of_getElem? (i := 435) (by decide +kernel)⟩
def lw_privs_1 : List (MethodName × Nat) := [(⟨"PartedPension$Plan", "beginAnew", "(I)V"⟩, 10), (⟨"PartedPension$Reader", "append", "(I)V"⟩, 8), (⟨"PartedPension$Plan", "copyFrom", "(LPartedPension$Plan;)V"⟩, 10), (⟨"PartedPension$Span", "copyFrom", "(LPartedPension$Span;)V"⟩, 3), (⟨"PartedPension$Spouse", "copyFrom", "(LPartedPension$Spouse;)V"⟩, 9), (⟨"PartedPension$LifeTable", "copyFrom", "(LPartedPension$LifeTable;)V"⟩, 3), (⟨"PartedPension$Reader", "readAll", "(LPartedPension$Plan;)I"⟩, 8), (⟨"PartedPension$Reader", "readToken", "()V"⟩, 8), (⟨"PartedPension$Reader", "byteAt", "(I)I"⟩, 8), (⟨"PartedPension$Reader", "readWord", "()V"⟩, 8), (⟨"PartedPension$Reader", "readNumber", "()V"⟩, 8), (⟨"PartedPension$Reader", "readStatement", "(LPartedPension$Plan;)V"⟩, 8), (⟨"PartedPension$Reader", "verbHere", "()LPartedPension$Verb;"⟩, 8), (⟨"PartedPension$Reader", "isWord", "(Ljava/lang/String;)Z"⟩, 8), (⟨"PartedPension$Reader", "blame", "(II)V"⟩, 8), (⟨"PartedPension$Verb", "isFull", "(LPartedPension$Plan;)Z"⟩, 8)]
theorem lw_r1 : ∀ q ∈ lw_privs_1, lw_okq q := List.forall_mem_cons.mpr ⟨lw_p0, List.forall_mem_cons.mpr ⟨lw_p1, List.forall_mem_cons.mpr ⟨lw_p2, List.forall_mem_cons.mpr ⟨lw_p3, List.forall_mem_cons.mpr ⟨lw_p4, List.forall_mem_cons.mpr ⟨lw_p5, List.forall_mem_cons.mpr ⟨lw_p6, List.forall_mem_cons.mpr ⟨lw_p7, List.forall_mem_cons.mpr ⟨lw_p8, List.forall_mem_cons.mpr ⟨lw_p9, List.forall_mem_cons.mpr ⟨lw_p10, List.forall_mem_cons.mpr ⟨lw_p11, List.forall_mem_cons.mpr ⟨lw_p12, List.forall_mem_cons.mpr ⟨lw_p13, List.forall_mem_cons.mpr ⟨lw_p14, List.forall_mem_cons.mpr ⟨lw_p15, fun _ h => absurd h List.not_mem_nil⟩⟩⟩⟩⟩⟩⟩⟩⟩⟩⟩⟩⟩⟩⟩⟩
theorem lw_p16 : lw_okq (⟨"PartedPension$Verb", "slot", "(I)I"⟩, 8) := ⟨⟨by decide +kernel, by decide +kernel⟩, List.mem_of_getElem? (i := 436) (by decide +kernel), List.mem_of_getElem? (i := 447) (by decide +kernel), List.mem_of_getElem? (i := 448) (by decide +kernel)⟩
theorem lw_p17 : lw_okq (⟨"PartedPension$Reader", "readSlot", "(LPartedPension$Plan;II)V"⟩, 8) := ⟨⟨by decide +kernel, by decide +kernel⟩, List.mem_of_getElem? (i := 206) (by decide +kernel), List.mem_of_getElem? (i := 451) (by decide +kernel), List.mem_of_getElem? (i := 452) (by decide +kernel)⟩
theorem lw_p18 : lw_okq (⟨"PartedPension$Reader", "readHow", "(I)V"⟩, 8) := ⟨⟨by decide +kernel, by decide +kernel⟩, List.mem_of_getElem? (i := 206) (by decide +kernel), List.mem_of_getElem? (i := 455) (by decide +kernel), List.mem_of_getElem? (i := 456) (by decide +kernel)⟩
theorem lw_p19 : lw_okq (⟨"PartedPension$Plan", "hasSpouse", "(I)Z"⟩, 10) := ⟨⟨by decide +kernel, by decide +kernel⟩, List.mem_of_getElem? (i := 31) (by decide +kernel), List.mem_of_getElem? (i := 468) (by decide +kernel), List.mem_of_getElem? (i := 469) (by decide +kernel)⟩
theorem lw_p20 : lw_okq (⟨"PartedPension$Reader", "readClose", "()V"⟩, 8) := ⟨⟨by decide +kernel, by decide +kernel⟩, List.mem_of_getElem? (i := 206) (by decide +kernel), List.mem_of_getElem? (i := 472) (by decide +kernel), List.mem_of_getElem? (i := 473) (by decide +kernel)⟩
theorem lw_p21 : lw_okq (⟨"PartedPension$Verb", "perform", "(LPartedPension$Plan;IIII)Z"⟩, 8) := ⟨⟨by decide +kernel, by decide +kernel⟩, List.mem_of_getElem? (i := 436) (by decide +kernel), List.mem_of_getElem? (i := 476) (by decide +kernel), List.mem_of_getElem? (i := 477) (by decide +kernel)⟩
theorem lw_p22 : lw_okq (⟨"PartedPension$Plan", "serve", "(III)Z"⟩, 10) := ⟨⟨by decide +kernel, by decide +kernel⟩, List.mem_of_getElem? (i := 31) (by decide +kernel), List.mem_of_getElem? (i := 481) (by decide +kernel), List.mem_of_getElem? (i := 482) (by decide +kernel)⟩
theorem lw_p23 : lw_okq (⟨"PartedPension$Plan", "serviceWithin", "(II)I"⟩, 10) := ⟨⟨by decide +kernel, by decide +kernel⟩, List.mem_of_getElem? (i := 31) (by decide +kernel), List.mem_of_getElem? (i := 485) (by decide +kernel), List.mem_of_getElem? (i := 486) (by decide +kernel)⟩
theorem lw_p24 : lw_okq (⟨"PartedPension$Plan", "recount", "()V"⟩, 10) := ⟨⟨by decide +kernel, by decide +kernel⟩, List.mem_of_getElem? (i := 31) (by decide +kernel), List.mem_of_getElem? (i := 489) (by decide +kernel), List.mem_of_getElem? (i := 490) (by decide +kernel)⟩
theorem lw_p25 : lw_okq (⟨"PartedPension$Plan", "wed", "(II)Z"⟩, 10) := ⟨⟨by decide +kernel, by decide +kernel⟩, List.mem_of_getElem? (i := 31) (by decide +kernel), List.mem_of_getElem? (i := 493) (by decide +kernel), List.mem_of_getElem? (i := 494) (by decide +kernel)⟩
theorem lw_p26 : lw_okq (⟨"PartedPension$Spouse", "isPartedBy", "(I)Z"⟩, 9) := ⟨⟨by decide +kernel, by decide +kernel⟩, List.mem_of_getElem? (i := 82) (by decide +kernel), List.mem_of_getElem? (i := 497) (by decide +kernel), List.mem_of_getElem? (i := 498) (by decide +kernel)⟩
theorem lw_p27 : lw_okq (⟨"PartedPension$Spouse", "begin", "(II)V"⟩, 9) := ⟨⟨by decide +kernel, by decide +kernel⟩, List.mem_of_getElem? (i := 82) (by decide +kernel), List.mem_of_getElem? (i := 501) (by decide +kernel), List.mem_of_getElem? (i := 502) (by decide +kernel)⟩
theorem lw_p28 : lw_okq (⟨"PartedPension$Plan", "part", "(IIII)Z"⟩, 10) := ⟨⟨by decide +kernel, by decide +kernel⟩, List.mem_of_getElem? (i := 31) (by decide +kernel), List.mem_of_getElem? (i := 505) (by decide +kernel), List.mem_of_getElem? (i := 506) (by decide +kernel)⟩
theorem lw_p29 : lw_okq (⟨"PartedPension$LifeTable", "tellYear", "(II)Z"⟩, 3) := ⟨⟨by decide +kernel, by decide +kernel⟩, List.mem_of_getElem? (i := 41) (by decide +kernel), List.mem_of_getElem? (i := 509) (by decide +kernel), List.mem_of_getElem? (i := 510) (by decide +kernel)⟩
theorem lw_p30 : lw_okq (⟨"PartedPension$LifeTable", "makeRoom", "(I)V"⟩, 3) := ⟨⟨by decide +kernel, by decide +kernel⟩, List.mem_of_getElem? (i := 41) (by decide +kernel), List.mem_of_getElem? (i := 514) (by decide +kernel), List.mem_of_getElem? (i := 515) (by decide +kernel)⟩
theorem lw_p31 : lw_okq (⟨"PartedPension$Plan", "alter", "(III)Z"⟩, 10) := ⟨⟨by decide +kernel, by decide +kernel⟩, List.mem_of_getElem? (i := 31) (by decide +kernel), List.mem_of_getElem? (i := 518) (by decide +kernel), List.mem_of_getElem? (i := 519) (by decide +kernel)⟩
def lw_privs_2 : List (MethodName × Nat) := [(⟨"PartedPension$Verb", "slot", "(I)I"⟩, 8), (⟨"PartedPension$Reader", "readSlot", "(LPartedPension$Plan;II)V"⟩, 8), (⟨"PartedPension$Reader", "readHow", "(I)V"⟩, 8), (⟨"PartedPension$Plan", "hasSpouse", "(I)Z"⟩, 10), (⟨"PartedPension$Reader", "readClose", "()V"⟩, 8), (⟨"PartedPension$Verb", "perform", "(LPartedPension$Plan;IIII)Z"⟩, 8), (⟨"PartedPension$Plan", "serve", "(III)Z"⟩, 10), (⟨"PartedPension$Plan", "serviceWithin", "(II)I"⟩, 10), (⟨"PartedPension$Plan", "recount", "()V"⟩, 10), (⟨"PartedPension$Plan", "wed", "(II)Z"⟩, 10), (⟨"PartedPension$Spouse", "isPartedBy", "(I)Z"⟩, 9), (⟨"PartedPension$Spouse", "begin", "(II)V"⟩, 9), (⟨"PartedPension$Plan", "part", "(IIII)Z"⟩, 10), (⟨"PartedPension$LifeTable", "tellYear", "(II)Z"⟩, 3), (⟨"PartedPension$LifeTable", "makeRoom", "(I)V"⟩, 3), (⟨"PartedPension$Plan", "alter", "(III)Z"⟩, 10)]
theorem lw_r2 : ∀ q ∈ lw_privs_2, lw_okq q := List.forall_mem_cons.mpr ⟨lw_p16, List.forall_mem_cons.mpr ⟨lw_p17, List.forall_mem_cons.mpr ⟨lw_p18, List.forall_mem_cons.mpr ⟨lw_p19, List.forall_mem_cons.mpr ⟨lw_p20, List.forall_mem_cons.mpr ⟨lw_p21, List.forall_mem_cons.mpr ⟨lw_p22, List.forall_mem_cons.mpr ⟨lw_p23, List.forall_mem_cons.mpr ⟨lw_p24, List.forall_mem_cons.mpr ⟨lw_p25, List.forall_mem_cons.mpr ⟨lw_p26, List.forall_mem_cons.mpr ⟨lw_p27, List.forall_mem_cons.mpr ⟨lw_p28, List.forall_mem_cons.mpr ⟨lw_p29, List.forall_mem_cons.mpr ⟨lw_p30, List.forall_mem_cons.mpr ⟨lw_p31, fun _ h => absurd h List.not_mem_nil⟩⟩⟩⟩⟩⟩⟩⟩⟩⟩⟩⟩⟩⟩⟩⟩
theorem lw_p32 : lw_okq (⟨"PartedPension$Plan", "canChange", "(III)Z"⟩, 10) := ⟨⟨by decide +kernel, by decide +kernel⟩, List.mem_of_getElem? (i := 31) (by decide +kernel), List.mem_of_getElem? (i := 522) (by decide +kernel), List.mem_of_getElem? (i := 523) (by decide +kernel)⟩
theorem lw_p33 : lw_okq (⟨"PartedPension$Plan", "lastTo", "()I"⟩, 10) := ⟨⟨by decide +kernel, by decide +kernel⟩, List.mem_of_getElem? (i := 31) (by decide +kernel), List.mem_of_getElem? (i := 533) (by decide +kernel), List.mem_of_getElem? (i := 534) (by decide +kernel)⟩
theorem lw_p34 : lw_okq (⟨"PartedPension$Plan", "change", "(III)V"⟩, 10) := ⟨⟨by decide +kernel, by decide +kernel⟩, List.mem_of_getElem? (i := 31) (by decide +kernel), List.mem_of_getElem? (i := 538) (by decide +kernel), List.mem_of_getElem? (i := 539) (by decide +kernel)⟩
theorem lw_p35 : lw_okq (⟨"PartedPension", "keepPast", "()V"⟩, 8) := ⟨⟨by decide +kernel, by decide +kernel⟩, List.mem_of_getElem? (i := 23) (by decide +kernel), List.mem_of_getElem? (i := 545) (by decide +kernel), List.mem_of_getElem? (i := 546) (by decide +kernel)⟩
theorem lw_p36 : lw_okq (⟨"PartedPension$Plan", "valueOf", "(II)I"⟩, 10) := ⟨⟨by decide +kernel, by decide +kernel⟩, List.mem_of_getElem? (i := 31) (by decide +kernel), List.mem_of_getElem? (i := 558) (by decide +kernel), List.mem_of_getElem? (i := 559) (by decide +kernel)⟩
theorem lw_p37 : lw_okq (⟨"PartedPension$Plan", "finalPay", "()I"⟩, 10) := ⟨⟨by decide +kernel, by decide +kernel⟩, List.mem_of_getElem? (i := 31) (by decide +kernel), List.mem_of_getElem? (i := 582) (by decide +kernel), List.mem_of_getElem? (i := 583) (by decide +kernel)⟩
theorem lw_p38 : lw_okq (⟨"PartedPension$Plan", "basePay", "()I"⟩, 10) := ⟨⟨by decide +kernel, by decide +kernel⟩, List.mem_of_getElem? (i := 31) (by decide +kernel), List.mem_of_getElem? (i := 586) (by decide +kernel), List.mem_of_getElem? (i := 587) (by decide +kernel)⟩
theorem lw_p39 : lw_okq (⟨"PartedPension$Plan", "firstPay", "()I"⟩, 10) := ⟨⟨by decide +kernel, by decide +kernel⟩, List.mem_of_getElem? (i := 31) (by decide +kernel), List.mem_of_getElem? (i := 592) (by decide +kernel), List.mem_of_getElem? (i := 593) (by decide +kernel)⟩
theorem lw_p40 : lw_okq (⟨"PartedPension$Reckoner", "fillWholes", "(LPartedPension$Plan;)V"⟩, 6) := ⟨⟨by decide +kernel, by decide +kernel⟩, List.mem_of_getElem? (i := 240) (by decide +kernel), List.mem_of_getElem? (i := 605) (by decide +kernel), List.mem_of_getElem? (i := 606) (by decide +kernel)⟩
theorem lw_p41 : lw_okq (⟨"PartedPension", "isPaid", "(I)Z"⟩, 8) := ⟨⟨by decide +kernel, by decide +kernel⟩, List.mem_of_getElem? (i := 23) (by decide +kernel), List.mem_of_getElem? (i := 623) (by decide +kernel), List.mem_of_getElem? (i := 624) (by decide +kernel)⟩
theorem lw_p42 : lw_okq (⟨"PartedPension$Reckoner", "prepare", "(LPartedPension$Plan;)V"⟩, 6) := ⟨⟨by decide +kernel, by decide +kernel⟩, List.mem_of_getElem? (i := 240) (by decide +kernel), List.mem_of_getElem? (i := 628) (by decide +kernel), List.mem_of_getElem? (i := 629) (by decide +kernel)⟩
theorem lw_p43 : lw_okq (⟨"PartedPension$Reckoner", "ownOf", "(LPartedPension$Plan;LPartedPension$Spouse;)J"⟩, 6) := ⟨⟨by decide +kernel, by decide +kernel⟩, List.mem_of_getElem? (i := 240) (by decide +kernel), List.mem_of_getElem? (i := 633) (by decide +kernel), List.mem_of_getElem? (i := 634) (by decide +kernel)⟩
theorem lw_p44 : lw_okq (⟨"PartedPension$Plan", "shareOf", "(LPartedPension$Spouse;I)J"⟩, 10) := ⟨⟨by decide +kernel, by decide +kernel⟩, List.mem_of_getElem? (i := 31) (by decide +kernel), List.mem_of_getElem? (i := 637) (by decide +kernel), List.mem_of_getElem? (i := 638) (by decide +kernel)⟩
theorem lw_p45 : lw_okq (⟨"PartedPension$Reckoner", "annuityOf", "(LPartedPension$Plan;III)J"⟩, 6) := ⟨⟨by decide +kernel, by decide +kernel⟩, List.mem_of_getElem? (i := 240) (by decide +kernel), List.mem_of_getElem? (i := 641) (by decide +kernel), List.mem_of_getElem? (i := 642) (by decide +kernel)⟩
theorem lw_p46 : lw_okq (⟨"PartedPension$Reckoner", "fillDiscounts", "(LPartedPension$Plan;)V"⟩, 6) := ⟨⟨by decide +kernel, by decide +kernel⟩, List.mem_of_getElem? (i := 240) (by decide +kernel), List.mem_of_getElem? (i := 645) (by decide +kernel), List.mem_of_getElem? (i := 646) (by decide +kernel)⟩
theorem lw_p47 : lw_okq (⟨"PartedPension$LifeTable", "livesAt", "(I)I"⟩, 3) := ⟨⟨by decide +kernel, by decide +kernel⟩, List.mem_of_getElem? (i := 41) (by decide +kernel), List.mem_of_getElem? (i := 654) (by decide +kernel), List.mem_of_getElem? (i := 655) (by decide +kernel)⟩
def lw_privs_3 : List (MethodName × Nat) := [(⟨"PartedPension$Plan", "canChange", "(III)Z"⟩, 10), (⟨"PartedPension$Plan", "lastTo", "()I"⟩, 10), (⟨"PartedPension$Plan", "change", "(III)V"⟩, 10), (⟨"PartedPension", "keepPast", "()V"⟩, 8), (⟨"PartedPension$Plan", "valueOf", "(II)I"⟩, 10), (⟨"PartedPension$Plan", "finalPay", "()I"⟩, 10), (⟨"PartedPension$Plan", "basePay", "()I"⟩, 10), (⟨"PartedPension$Plan", "firstPay", "()I"⟩, 10), (⟨"PartedPension$Reckoner", "fillWholes", "(LPartedPension$Plan;)V"⟩, 6), (⟨"PartedPension", "isPaid", "(I)Z"⟩, 8), (⟨"PartedPension$Reckoner", "prepare", "(LPartedPension$Plan;)V"⟩, 6), (⟨"PartedPension$Reckoner", "ownOf", "(LPartedPension$Plan;LPartedPension$Spouse;)J"⟩, 6), (⟨"PartedPension$Plan", "shareOf", "(LPartedPension$Spouse;I)J"⟩, 10), (⟨"PartedPension$Reckoner", "annuityOf", "(LPartedPension$Plan;III)J"⟩, 6), (⟨"PartedPension$Reckoner", "fillDiscounts", "(LPartedPension$Plan;)V"⟩, 6), (⟨"PartedPension$LifeTable", "livesAt", "(I)I"⟩, 3)]
theorem lw_r3 : ∀ q ∈ lw_privs_3, lw_okq q := List.forall_mem_cons.mpr ⟨lw_p32, List.forall_mem_cons.mpr ⟨lw_p33, List.forall_mem_cons.mpr ⟨lw_p34, List.forall_mem_cons.mpr ⟨lw_p35, List.forall_mem_cons.mpr ⟨lw_p36, List.forall_mem_cons.mpr ⟨lw_p37, List.forall_mem_cons.mpr ⟨lw_p38, List.forall_mem_cons.mpr ⟨lw_p39, List.forall_mem_cons.mpr ⟨lw_p40, List.forall_mem_cons.mpr ⟨lw_p41, List.forall_mem_cons.mpr ⟨lw_p42, List.forall_mem_cons.mpr ⟨lw_p43, List.forall_mem_cons.mpr ⟨lw_p44, List.forall_mem_cons.mpr ⟨lw_p45, List.forall_mem_cons.mpr ⟨lw_p46, List.forall_mem_cons.mpr ⟨lw_p47, fun _ h => absurd h List.not_mem_nil⟩⟩⟩⟩⟩⟩⟩⟩⟩⟩⟩⟩⟩⟩⟩⟩
theorem lw_p48 : lw_okq (⟨"PartedPension$Reckoner", "annuityIn", "(II)J"⟩, 6) := ⟨⟨by decide +kernel, by decide +kernel⟩, List.mem_of_getElem? (i := 240) (by decide +kernel), List.mem_of_getElem? (i := 658) (by decide +kernel), List.mem_of_getElem? (i := 659) (by decide +kernel)⟩
theorem lw_p49 : lw_okq (⟨"PartedPension$Plan", "beginOf", "(LPartedPension$Spouse;)I"⟩, 10) := ⟨⟨by decide +kernel, by decide +kernel⟩, List.mem_of_getElem? (i := 31) (by decide +kernel), List.mem_of_getElem? (i := 662) (by decide +kernel), List.mem_of_getElem? (i := 663) (by decide +kernel)⟩
theorem lw_p50 : lw_okq (⟨"PartedPension$Reckoner", "paidTo", "(LPartedPension$Plan;II)J"⟩, 6) := ⟨⟨by decide +kernel, by decide +kernel⟩, List.mem_of_getElem? (i := 240) (by decide +kernel), List.mem_of_getElem? (i := 672) (by decide +kernel), List.mem_of_getElem? (i := 673) (by decide +kernel)⟩
theorem lw_p51 : lw_okq (⟨"PartedPension$Reckoner", "paidToMember", "(LPartedPension$Plan;I)J"⟩, 6) := ⟨⟨by decide +kernel, by decide +kernel⟩, List.mem_of_getElem? (i := 240) (by decide +kernel), List.mem_of_getElem? (i := 676) (by decide +kernel), List.mem_of_getElem? (i := 677) (by decide +kernel)⟩
theorem lw_p52 : lw_okq (⟨"PartedPension$Reckoner", "paidToSpouse", "(LPartedPension$Plan;LPartedPension$Spouse;IJ)J"⟩, 6) := ⟨⟨by decide +kernel, by decide +kernel⟩, List.mem_of_getElem? (i := 240) (by decide +kernel), List.mem_of_getElem? (i := 683) (by decide +kernel), List.mem_of_getElem? (i := 684) (by decide +kernel)⟩
theorem lw_p53 : lw_okq (⟨"PartedPension$Reckoner", "restOf", "(LPartedPension$Plan;I)J"⟩, 6) := ⟨⟨by decide +kernel, by decide +kernel⟩, List.mem_of_getElem? (i := 240) (by decide +kernel), List.mem_of_getElem? (i := 688) (by decide +kernel), List.mem_of_getElem? (i := 689) (by decide +kernel)⟩
theorem lw_p54 : lw_okq (⟨"PartedPension$Reckoner", "paidWithin", "(LPartedPension$Plan;III)J"⟩, 6) := ⟨⟨by decide +kernel, by decide +kernel⟩, List.mem_of_getElem? (i := 240) (by decide +kernel), List.mem_of_getElem? (i := 697) (by decide +kernel), List.mem_of_getElem? (i := 698) (by decide +kernel)⟩
theorem lw_p55 : lw_okq (⟨"PartedPension$Calendar", "fill", "(LPartedPension$Plan;)V"⟩, 2) := ⟨⟨by decide +kernel, by decide +kernel⟩, List.mem_of_getElem? (i := 270) (by decide +kernel), List.mem_of_getElem? (i := 710) (by decide +kernel), List.mem_of_getElem? (i := 711) (by decide +kernel)⟩
theorem lw_p56 : lw_okq (⟨"PartedPension$Calendar", "add", "(III)V"⟩, 2) := ⟨⟨by decide +kernel, by decide +kernel⟩, List.mem_of_getElem? (i := 270) (by decide +kernel), List.mem_of_getElem? (i := 714) (by decide +kernel), List.mem_of_getElem? (i := 715) (by decide +kernel)⟩
theorem lw_p57 : lw_okq (⟨"PartedPension$Reckoner", "worthOfAll", "(LPartedPension$Plan;I)J"⟩, 6) := ⟨⟨by decide +kernel, by decide +kernel⟩, List.mem_of_getElem? (i := 240) (by decide +kernel), List.mem_of_getElem? (i := 744) (by decide +kernel), List.mem_of_getElem? (i := 745) (by decide +kernel)⟩
theorem lw_p58 : lw_okq (⟨"PartedPension$Reckoner", "worthOfSpouse", "(LPartedPension$Plan;LPartedPension$Spouse;I)J"⟩, 6) := ⟨⟨by decide +kernel, by decide +kernel⟩, List.mem_of_getElem? (i := 240) (by decide +kernel), List.mem_of_getElem? (i := 749) (by decide +kernel), List.mem_of_getElem? (i := 750) (by decide +kernel)⟩
theorem lw_p59 : lw_okq (⟨"PartedPension$Reckoner", "worthApart", "(JII)J"⟩, 6) := ⟨⟨by decide +kernel, by decide +kernel⟩, List.mem_of_getElem? (i := 240) (by decide +kernel), List.mem_of_getElem? (i := 753) (by decide +kernel), List.mem_of_getElem? (i := 754) (by decide +kernel)⟩
theorem lw_p60 : lw_okq (⟨"PartedPension$Reckoner", "worthShared", "(LPartedPension$Plan;LPartedPension$Spouse;II)J"⟩, 6) := ⟨⟨by decide +kernel, by decide +kernel⟩, List.mem_of_getElem? (i := 240) (by decide +kernel), List.mem_of_getElem? (i := 757) (by decide +kernel), List.mem_of_getElem? (i := 758) (by decide +kernel)⟩
theorem lw_p61 : lw_okq (⟨"PartedPension", "hasWorthInRetires", "(I)Z"⟩, 8) := ⟨⟨by decide +kernel, by decide +kernel⟩, List.mem_of_getElem? (i := 23) (by decide +kernel), List.mem_of_getElem? (i := 765) (by decide +kernel), List.mem_of_getElem? (i := 766) (by decide +kernel)⟩
theorem lw_p62 : lw_okq (⟨"PartedPension$Reckoner", "bestClaim", "(LPartedPension$Plan;LPartedPension$Spouse;)I"⟩, 6) := ⟨⟨by decide +kernel, by decide +kernel⟩, List.mem_of_getElem? (i := 240) (by decide +kernel), List.mem_of_getElem? (i := 769) (by decide +kernel), List.mem_of_getElem? (i := 770) (by decide +kernel)⟩
theorem lw_p63 : lw_okq (⟨"PartedPension$Reckoner", "leastHalf", "(LPartedPension$Plan;LPartedPension$Spouse;)I"⟩, 6) := ⟨⟨by decide +kernel, by decide +kernel⟩, List.mem_of_getElem? (i := 240) (by decide +kernel), List.mem_of_getElem? (i := 778) (by decide +kernel), List.mem_of_getElem? (i := 779) (by decide +kernel)⟩
def lw_privs_4 : List (MethodName × Nat) := [(⟨"PartedPension$Reckoner", "annuityIn", "(II)J"⟩, 6), (⟨"PartedPension$Plan", "beginOf", "(LPartedPension$Spouse;)I"⟩, 10), (⟨"PartedPension$Reckoner", "paidTo", "(LPartedPension$Plan;II)J"⟩, 6), (⟨"PartedPension$Reckoner", "paidToMember", "(LPartedPension$Plan;I)J"⟩, 6), (⟨"PartedPension$Reckoner", "paidToSpouse", "(LPartedPension$Plan;LPartedPension$Spouse;IJ)J"⟩, 6), (⟨"PartedPension$Reckoner", "restOf", "(LPartedPension$Plan;I)J"⟩, 6), (⟨"PartedPension$Reckoner", "paidWithin", "(LPartedPension$Plan;III)J"⟩, 6), (⟨"PartedPension$Calendar", "fill", "(LPartedPension$Plan;)V"⟩, 2), (⟨"PartedPension$Calendar", "add", "(III)V"⟩, 2), (⟨"PartedPension$Reckoner", "worthOfAll", "(LPartedPension$Plan;I)J"⟩, 6), (⟨"PartedPension$Reckoner", "worthOfSpouse", "(LPartedPension$Plan;LPartedPension$Spouse;I)J"⟩, 6), (⟨"PartedPension$Reckoner", "worthApart", "(JII)J"⟩, 6), (⟨"PartedPension$Reckoner", "worthShared", "(LPartedPension$Plan;LPartedPension$Spouse;II)J"⟩, 6), (⟨"PartedPension", "hasWorthInRetires", "(I)Z"⟩, 8), (⟨"PartedPension$Reckoner", "bestClaim", "(LPartedPension$Plan;LPartedPension$Spouse;)I"⟩, 6), (⟨"PartedPension$Reckoner", "leastHalf", "(LPartedPension$Plan;LPartedPension$Spouse;)I"⟩, 6)]
theorem lw_r4 : ∀ q ∈ lw_privs_4, lw_okq q := List.forall_mem_cons.mpr ⟨lw_p48, List.forall_mem_cons.mpr ⟨lw_p49, List.forall_mem_cons.mpr ⟨lw_p50, List.forall_mem_cons.mpr ⟨lw_p51, List.forall_mem_cons.mpr ⟨lw_p52, List.forall_mem_cons.mpr ⟨lw_p53, List.forall_mem_cons.mpr ⟨lw_p54, List.forall_mem_cons.mpr ⟨lw_p55, List.forall_mem_cons.mpr ⟨lw_p56, List.forall_mem_cons.mpr ⟨lw_p57, List.forall_mem_cons.mpr ⟨lw_p58, List.forall_mem_cons.mpr ⟨lw_p59, List.forall_mem_cons.mpr ⟨lw_p60, List.forall_mem_cons.mpr ⟨lw_p61, List.forall_mem_cons.mpr ⟨lw_p62, List.forall_mem_cons.mpr ⟨lw_p63, fun _ h => absurd h List.not_mem_nil⟩⟩⟩⟩⟩⟩⟩⟩⟩⟩⟩⟩⟩⟩⟩⟩
theorem lw_p64 : lw_okq (⟨"PartedPension$Reckoner", "firstCrossing", "(LPartedPension$Plan;LPartedPension$Spouse;)I"⟩, 6) := ⟨⟨by decide +kernel, by decide +kernel⟩, List.mem_of_getElem? (i := 240) (by decide +kernel), List.mem_of_getElem? (i := 790) (by decide +kernel), List.mem_of_getElem? (i := 791) (by decide +kernel)⟩
theorem lw_p65 : lw_okq (⟨"java/lang/Throwable", "fillInStackTrace", "(I)Ljava/lang/Throwable;"⟩, 6) := ⟨⟨by decide +kernel, by decide +kernel⟩, List.mem_of_getElem? (i := 838) (by decide +kernel), List.mem_of_getElem? (i := 836) (by decide +kernel), List.mem_of_getElem? (i := 837) (by decide +kernel)⟩
theorem lw_p66 : lw_okq (⟨"PartedPensionModel", "begins", "(I)V"⟩, 22) := ⟨⟨by decide +kernel, by decide +kernel⟩, List.mem_of_getElem? (i := 878) (by decide +kernel), List.mem_of_getElem? (i := 884) (by decide +kernel), List.mem_of_getElem? (i := 885) (by decide +kernel)⟩
theorem lw_p67 : lw_okq (⟨"PartedPensionModel", "isWho", "(I)Z"⟩, 22) := ⟨⟨by decide +kernel, by decide +kernel⟩, List.mem_of_getElem? (i := 878) (by decide +kernel), List.mem_of_getElem? (i := 969) (by decide +kernel), List.mem_of_getElem? (i := 970) (by decide +kernel)⟩
theorem lw_p68 : lw_okq (⟨"PartedPensionModel", "isSpouse", "(I)Z"⟩, 22) := ⟨⟨by decide +kernel, by decide +kernel⟩, List.mem_of_getElem? (i := 878) (by decide +kernel), List.mem_of_getElem? (i := 973) (by decide +kernel), List.mem_of_getElem? (i := 974) (by decide +kernel)⟩
theorem lw_p69 : lw_okq (⟨"PartedPensionModel", "laysOwns", "()V"⟩, 22) := ⟨⟨by decide +kernel, by decide +kernel⟩, List.mem_of_getElem? (i := 878) (by decide +kernel), List.mem_of_getElem? (i := 978) (by decide +kernel), List.mem_of_getElem? (i := 979) (by decide +kernel)⟩
theorem lw_p70 : lw_okq (⟨"PartedPensionModel", "ownOf", "(I)J"⟩, 22) := ⟨⟨by decide +kernel, by decide +kernel⟩, List.mem_of_getElem? (i := 878) (by decide +kernel), List.mem_of_getElem? (i := 982) (by decide +kernel), List.mem_of_getElem? (i := 983) (by decide +kernel)⟩
theorem lw_p71 : lw_okq (⟨"PartedPensionModel", "isParted", "(I)Z"⟩, 22) := ⟨⟨by decide +kernel, by decide +kernel⟩, List.mem_of_getElem? (i := 878) (by decide +kernel), List.mem_of_getElem? (i := 986) (by decide +kernel), List.mem_of_getElem? (i := 987) (by decide +kernel)⟩
theorem lw_p72 : lw_okq (⟨"PartedPensionModel", "its", "(II)I"⟩, 22) := ⟨⟨by decide +kernel, by decide +kernel⟩, List.mem_of_getElem? (i := 878) (by decide +kernel), List.mem_of_getElem? (i := 990) (by decide +kernel), List.mem_of_getElem? (i := 991) (by decide +kernel)⟩
theorem lw_p73 : lw_okq (⟨"PartedPensionModel", "areBorn", "(II)Z"⟩, 22) := ⟨⟨by decide +kernel, by decide +kernel⟩, List.mem_of_getElem? (i := 878) (by decide +kernel), List.mem_of_getElem? (i := 994) (by decide +kernel), List.mem_of_getElem? (i := 995) (by decide +kernel)⟩
theorem lw_p74 : lw_okq (⟨"PartedPensionModel", "laysOdds", "([JII)V"⟩, 22) := ⟨⟨by decide +kernel, by decide +kernel⟩, List.mem_of_getElem? (i := 878) (by decide +kernel), List.mem_of_getElem? (i := 998) (by decide +kernel), List.mem_of_getElem? (i := 999) (by decide +kernel)⟩
theorem lw_p75 : lw_okq (⟨"PartedPensionModel", "bornOf", "(I)I"⟩, 22) := ⟨⟨by decide +kernel, by decide +kernel⟩, List.mem_of_getElem? (i := 878) (by decide +kernel), List.mem_of_getElem? (i := 1002) (by decide +kernel), List.mem_of_getElem? (i := 1003) (by decide +kernel)⟩
theorem lw_p76 : lw_okq (⟨"PartedPensionModel", "livesAt", "(I)I"⟩, 22) := ⟨⟨by decide +kernel, by decide +kernel⟩, List.mem_of_getElem? (i := 878) (by decide +kernel), List.mem_of_getElem? (i := 1006) (by decide +kernel), List.mem_of_getElem? (i := 1007) (by decide +kernel)⟩
theorem lw_p77 : lw_okq (⟨"PartedPensionModel", "annuityBy", "([JII)J"⟩, 22) := ⟨⟨by decide +kernel, by decide +kernel⟩, List.mem_of_getElem? (i := 878) (by decide +kernel), List.mem_of_getElem? (i := 1012) (by decide +kernel), List.mem_of_getElem? (i := 1013) (by decide +kernel)⟩
theorem lw_p78 : lw_okq (⟨"PartedPensionModel", "laysWholes", "()V"⟩, 22) := ⟨⟨by decide +kernel, by decide +kernel⟩, List.mem_of_getElem? (i := 878) (by decide +kernel), List.mem_of_getElem? (i := 1016) (by decide +kernel), List.mem_of_getElem? (i := 1017) (by decide +kernel)⟩
theorem lw_p79 : lw_okq (⟨"PartedPensionModel", "firstPaid", "()I"⟩, 22) := ⟨⟨by decide +kernel, by decide +kernel⟩, List.mem_of_getElem? (i := 878) (by decide +kernel), List.mem_of_getElem? (i := 1020) (by decide +kernel), List.mem_of_getElem? (i := 1021) (by decide +kernel)⟩
def lw_privs_5 : List (MethodName × Nat) := [(⟨"PartedPension$Reckoner", "firstCrossing", "(LPartedPension$Plan;LPartedPension$Spouse;)I"⟩, 6), (⟨"java/lang/Throwable", "fillInStackTrace", "(I)Ljava/lang/Throwable;"⟩, 6), (⟨"PartedPensionModel", "begins", "(I)V"⟩, 22), (⟨"PartedPensionModel", "isWho", "(I)Z"⟩, 22), (⟨"PartedPensionModel", "isSpouse", "(I)Z"⟩, 22), (⟨"PartedPensionModel", "laysOwns", "()V"⟩, 22), (⟨"PartedPensionModel", "ownOf", "(I)J"⟩, 22), (⟨"PartedPensionModel", "isParted", "(I)Z"⟩, 22), (⟨"PartedPensionModel", "its", "(II)I"⟩, 22), (⟨"PartedPensionModel", "areBorn", "(II)Z"⟩, 22), (⟨"PartedPensionModel", "laysOdds", "([JII)V"⟩, 22), (⟨"PartedPensionModel", "bornOf", "(I)I"⟩, 22), (⟨"PartedPensionModel", "livesAt", "(I)I"⟩, 22), (⟨"PartedPensionModel", "annuityBy", "([JII)J"⟩, 22), (⟨"PartedPensionModel", "laysWholes", "()V"⟩, 22), (⟨"PartedPensionModel", "firstPaid", "()I"⟩, 22)]
theorem lw_r5 : ∀ q ∈ lw_privs_5, lw_okq q := List.forall_mem_cons.mpr ⟨lw_p64, List.forall_mem_cons.mpr ⟨lw_p65, List.forall_mem_cons.mpr ⟨lw_p66, List.forall_mem_cons.mpr ⟨lw_p67, List.forall_mem_cons.mpr ⟨lw_p68, List.forall_mem_cons.mpr ⟨lw_p69, List.forall_mem_cons.mpr ⟨lw_p70, List.forall_mem_cons.mpr ⟨lw_p71, List.forall_mem_cons.mpr ⟨lw_p72, List.forall_mem_cons.mpr ⟨lw_p73, List.forall_mem_cons.mpr ⟨lw_p74, List.forall_mem_cons.mpr ⟨lw_p75, List.forall_mem_cons.mpr ⟨lw_p76, List.forall_mem_cons.mpr ⟨lw_p77, List.forall_mem_cons.mpr ⟨lw_p78, List.forall_mem_cons.mpr ⟨lw_p79, fun _ h => absurd h List.not_mem_nil⟩⟩⟩⟩⟩⟩⟩⟩⟩⟩⟩⟩⟩⟩⟩⟩
theorem lw_p80 : lw_okq (⟨"PartedPensionModel", "base", "()I"⟩, 22) := ⟨⟨by decide +kernel, by decide +kernel⟩, List.mem_of_getElem? (i := 878) (by decide +kernel), List.mem_of_getElem? (i := 1024) (by decide +kernel), List.mem_of_getElem? (i := 1025) (by decide +kernel)⟩
theorem lw_p81 : lw_okq (⟨"PartedPensionModel", "finalPay", "()I"⟩, 22) := ⟨⟨by decide +kernel, by decide +kernel⟩, List.mem_of_getElem? (i := 878) (by decide +kernel), List.mem_of_getElem? (i := 1028) (by decide +kernel), List.mem_of_getElem? (i := 1029) (by decide +kernel)⟩
theorem lw_p82 : lw_okq (⟨"PartedPensionModel", "spanOf", "(II)I"⟩, 22) := ⟨⟨by decide +kernel, by decide +kernel⟩, List.mem_of_getElem? (i := 878) (by decide +kernel), List.mem_of_getElem? (i := 1032) (by decide +kernel), List.mem_of_getElem? (i := 1033) (by decide +kernel)⟩
theorem lw_p83 : lw_okq (⟨"PartedPensionModel", "served", "()I"⟩, 22) := ⟨⟨by decide +kernel, by decide +kernel⟩, List.mem_of_getElem? (i := 878) (by decide +kernel), List.mem_of_getElem? (i := 1036) (by decide +kernel), List.mem_of_getElem? (i := 1037) (by decide +kernel)⟩
theorem lw_p84 : lw_okq (⟨"PartedPensionModel", "serviceIn", "(II)I"⟩, 22) := ⟨⟨by decide +kernel, by decide +kernel⟩, List.mem_of_getElem? (i := 878) (by decide +kernel), List.mem_of_getElem? (i := 1040) (by decide +kernel), List.mem_of_getElem? (i := 1041) (by decide +kernel)⟩
theorem lw_p85 : lw_okq (⟨"PartedPensionModel", "begin", "(I)I"⟩, 22) := ⟨⟨by decide +kernel, by decide +kernel⟩, List.mem_of_getElem? (i := 878) (by decide +kernel), List.mem_of_getElem? (i := 1047) (by decide +kernel), List.mem_of_getElem? (i := 1048) (by decide +kernel)⟩
theorem lw_p86 : lw_okq (⟨"PartedPensionModel", "ownBy", "(IJJ)J"⟩, 22) := ⟨⟨by decide +kernel, by decide +kernel⟩, List.mem_of_getElem? (i := 878) (by decide +kernel), List.mem_of_getElem? (i := 1051) (by decide +kernel), List.mem_of_getElem? (i := 1052) (by decide +kernel)⟩
theorem lw_p87 : lw_okq (⟨"PartedPensionModel", "shareIn", "(II)J"⟩, 22) := ⟨⟨by decide +kernel, by decide +kernel⟩, List.mem_of_getElem? (i := 878) (by decide +kernel), List.mem_of_getElem? (i := 1055) (by decide +kernel), List.mem_of_getElem? (i := 1056) (by decide +kernel)⟩
theorem lw_p88 : lw_okq (⟨"PartedPensionModel", "wedIn", "(I)I"⟩, 22) := ⟨⟨by decide +kernel, by decide +kernel⟩, List.mem_of_getElem? (i := 878) (by decide +kernel), List.mem_of_getElem? (i := 1059) (by decide +kernel), List.mem_of_getElem? (i := 1060) (by decide +kernel)⟩
theorem lw_p89 : lw_okq (⟨"PartedPensionModel", "paidTo", "(II)J"⟩, 22) := ⟨⟨by decide +kernel, by decide +kernel⟩, List.mem_of_getElem? (i := 878) (by decide +kernel), List.mem_of_getElem? (i := 1063) (by decide +kernel), List.mem_of_getElem? (i := 1064) (by decide +kernel)⟩
theorem lw_p90 : lw_okq (⟨"PartedPensionModel", "paidMember", "(I)J"⟩, 22) := ⟨⟨by decide +kernel, by decide +kernel⟩, List.mem_of_getElem? (i := 878) (by decide +kernel), List.mem_of_getElem? (i := 1067) (by decide +kernel), List.mem_of_getElem? (i := 1068) (by decide +kernel)⟩
theorem lw_p91 : lw_okq (⟨"PartedPensionModel", "livesIn", "(II)Z"⟩, 22) := ⟨⟨by decide +kernel, by decide +kernel⟩, List.mem_of_getElem? (i := 878) (by decide +kernel), List.mem_of_getElem? (i := 1071) (by decide +kernel), List.mem_of_getElem? (i := 1072) (by decide +kernel)⟩
theorem lw_p92 : lw_okq (⟨"PartedPensionModel", "paidBy", "(III)J"⟩, 22) := ⟨⟨by decide +kernel, by decide +kernel⟩, List.mem_of_getElem? (i := 878) (by decide +kernel), List.mem_of_getElem? (i := 1075) (by decide +kernel), List.mem_of_getElem? (i := 1076) (by decide +kernel)⟩
theorem lw_p93 : lw_okq (⟨"PartedPensionModel", "isPaid", "(II)Z"⟩, 22) := ⟨⟨by decide +kernel, by decide +kernel⟩, List.mem_of_getElem? (i := 878) (by decide +kernel), List.mem_of_getElem? (i := 1079) (by decide +kernel), List.mem_of_getElem? (i := 1080) (by decide +kernel)⟩
theorem lw_p94 : lw_okq (⟨"PartedPensionModel", "sumOf", "(III)J"⟩, 22) := ⟨⟨by decide +kernel, by decide +kernel⟩, List.mem_of_getElem? (i := 878) (by decide +kernel), List.mem_of_getElem? (i := 1087) (by decide +kernel), List.mem_of_getElem? (i := 1088) (by decide +kernel)⟩
theorem lw_p95 : lw_okq (⟨"PartedPensionModel", "happensIn", "(III)V"⟩, 22) := ⟨⟨by decide +kernel, by decide +kernel⟩, List.mem_of_getElem? (i := 878) (by decide +kernel), List.mem_of_getElem? (i := 1134) (by decide +kernel), List.mem_of_getElem? (i := 1135) (by decide +kernel)⟩
def lw_privs_6 : List (MethodName × Nat) := [(⟨"PartedPensionModel", "base", "()I"⟩, 22), (⟨"PartedPensionModel", "finalPay", "()I"⟩, 22), (⟨"PartedPensionModel", "spanOf", "(II)I"⟩, 22), (⟨"PartedPensionModel", "served", "()I"⟩, 22), (⟨"PartedPensionModel", "serviceIn", "(II)I"⟩, 22), (⟨"PartedPensionModel", "begin", "(I)I"⟩, 22), (⟨"PartedPensionModel", "ownBy", "(IJJ)J"⟩, 22), (⟨"PartedPensionModel", "shareIn", "(II)J"⟩, 22), (⟨"PartedPensionModel", "wedIn", "(I)I"⟩, 22), (⟨"PartedPensionModel", "paidTo", "(II)J"⟩, 22), (⟨"PartedPensionModel", "paidMember", "(I)J"⟩, 22), (⟨"PartedPensionModel", "livesIn", "(II)Z"⟩, 22), (⟨"PartedPensionModel", "paidBy", "(III)J"⟩, 22), (⟨"PartedPensionModel", "isPaid", "(II)Z"⟩, 22), (⟨"PartedPensionModel", "sumOf", "(III)J"⟩, 22), (⟨"PartedPensionModel", "happensIn", "(III)V"⟩, 22)]
theorem lw_r6 : ∀ q ∈ lw_privs_6, lw_okq q := List.forall_mem_cons.mpr ⟨lw_p80, List.forall_mem_cons.mpr ⟨lw_p81, List.forall_mem_cons.mpr ⟨lw_p82, List.forall_mem_cons.mpr ⟨lw_p83, List.forall_mem_cons.mpr ⟨lw_p84, List.forall_mem_cons.mpr ⟨lw_p85, List.forall_mem_cons.mpr ⟨lw_p86, List.forall_mem_cons.mpr ⟨lw_p87, List.forall_mem_cons.mpr ⟨lw_p88, List.forall_mem_cons.mpr ⟨lw_p89, List.forall_mem_cons.mpr ⟨lw_p90, List.forall_mem_cons.mpr ⟨lw_p91, List.forall_mem_cons.mpr ⟨lw_p92, List.forall_mem_cons.mpr ⟨lw_p93, List.forall_mem_cons.mpr ⟨lw_p94, List.forall_mem_cons.mpr ⟨lw_p95, fun _ h => absurd h List.not_mem_nil⟩⟩⟩⟩⟩⟩⟩⟩⟩⟩⟩⟩⟩⟩⟩⟩
theorem lw_p96 : lw_okq (⟨"PartedPensionModel", "hasWorth", "(II)Z"⟩, 22) := ⟨⟨by decide +kernel, by decide +kernel⟩, List.mem_of_getElem? (i := 878) (by decide +kernel), List.mem_of_getElem? (i := 1159) (by decide +kernel), List.mem_of_getElem? (i := 1160) (by decide +kernel)⟩
theorem lw_p97 : lw_okq (⟨"PartedPensionModel", "worthOfAll", "(I)J"⟩, 22) := ⟨⟨by decide +kernel, by decide +kernel⟩, List.mem_of_getElem? (i := 878) (by decide +kernel), List.mem_of_getElem? (i := 1163) (by decide +kernel), List.mem_of_getElem? (i := 1164) (by decide +kernel)⟩
theorem lw_p98 : lw_okq (⟨"PartedPensionModel", "worthOfSpouse", "(II)J"⟩, 22) := ⟨⟨by decide +kernel, by decide +kernel⟩, List.mem_of_getElem? (i := 878) (by decide +kernel), List.mem_of_getElem? (i := 1167) (by decide +kernel), List.mem_of_getElem? (i := 1168) (by decide +kernel)⟩
theorem lw_p99 : lw_okq (⟨"PartedPensionModel", "worthIn", "(IIJ)J"⟩, 22) := ⟨⟨by decide +kernel, by decide +kernel⟩, List.mem_of_getElem? (i := 878) (by decide +kernel), List.mem_of_getElem? (i := 1171) (by decide +kernel), List.mem_of_getElem? (i := 1172) (by decide +kernel)⟩
theorem lw_p100 : lw_okq (⟨"PartedPensionModel", "placeOf", "(III)I"⟩, 22) := ⟨⟨by decide +kernel, by decide +kernel⟩, List.mem_of_getElem? (i := 878) (by decide +kernel), List.mem_of_getElem? (i := 1188) (by decide +kernel), List.mem_of_getElem? (i := 1189) (by decide +kernel)⟩
theorem lw_p101 : lw_okq (⟨"PartedPensionModel", "canRetire", "(I)Z"⟩, 22) := ⟨⟨by decide +kernel, by decide +kernel⟩, List.mem_of_getElem? (i := 878) (by decide +kernel), List.mem_of_getElem? (i := 1195) (by decide +kernel), List.mem_of_getElem? (i := 1196) (by decide +kernel)⟩
theorem lw_p102 : lw_okq (⟨"PartedPensionModel", "lastService", "()I"⟩, 22) := ⟨⟨by decide +kernel, by decide +kernel⟩, List.mem_of_getElem? (i := 878) (by decide +kernel), List.mem_of_getElem? (i := 1199) (by decide +kernel), List.mem_of_getElem? (i := 1200) (by decide +kernel)⟩
theorem lw_p103 : lw_okq (⟨"PartedPensionModel", "keeps", "([I)V"⟩, 22) := ⟨⟨by decide +kernel, by decide +kernel⟩, List.mem_of_getElem? (i := 878) (by decide +kernel), List.mem_of_getElem? (i := 1203) (by decide +kernel), List.mem_of_getElem? (i := 1204) (by decide +kernel)⟩
theorem lw_p104 : lw_okq (⟨"PartedPensionModel", "four", "(I)V"⟩, 22) := ⟨⟨by decide +kernel, by decide +kernel⟩, List.mem_of_getElem? (i := 878) (by decide +kernel), List.mem_of_getElem? (i := 1215) (by decide +kernel), List.mem_of_getElem? (i := 1216) (by decide +kernel)⟩
theorem lw_p105 : lw_okq (⟨"PartedPensionModel", "here", "()I"⟩, 22) := ⟨⟨by decide +kernel, by decide +kernel⟩, List.mem_of_getElem? (i := 878) (by decide +kernel), List.mem_of_getElem? (i := 1227) (by decide +kernel), List.mem_of_getElem? (i := 1228) (by decide +kernel)⟩
theorem lw_p106 : lw_okq (⟨"PartedPensionModel", "readStatement", "()Z"⟩, 22) := ⟨⟨by decide +kernel, by decide +kernel⟩, List.mem_of_getElem? (i := 878) (by decide +kernel), List.mem_of_getElem? (i := 1231) (by decide +kernel), List.mem_of_getElem? (i := 1232) (by decide +kernel)⟩
theorem lw_p107 : lw_okq (⟨"PartedPensionModel", "fails", "(II)Z"⟩, 22) := ⟨⟨by decide +kernel, by decide +kernel⟩, List.mem_of_getElem? (i := 878) (by decide +kernel), List.mem_of_getElem? (i := 1235) (by decide +kernel), List.mem_of_getElem? (i := 1236) (by decide +kernel)⟩
theorem lw_p108 : lw_okq (⟨"PartedPensionModel", "readWord", "()J"⟩, 22) := ⟨⟨by decide +kernel, by decide +kernel⟩, List.mem_of_getElem? (i := 878) (by decide +kernel), List.mem_of_getElem? (i := 1239) (by decide +kernel), List.mem_of_getElem? (i := 1240) (by decide +kernel)⟩
theorem lw_p109 : lw_okq (⟨"PartedPensionModel", "readBorn", "()Z"⟩, 22) := ⟨⟨by decide +kernel, by decide +kernel⟩, List.mem_of_getElem? (i := 878) (by decide +kernel), List.mem_of_getElem? (i := 1246) (by decide +kernel), List.mem_of_getElem? (i := 1247) (by decide +kernel)⟩
theorem lw_p110 : lw_okq (⟨"PartedPensionModel", "month", "(I)Z"⟩, 22) := ⟨⟨by decide +kernel, by decide +kernel⟩, List.mem_of_getElem? (i := 878) (by decide +kernel), List.mem_of_getElem? (i := 1250) (by decide +kernel), List.mem_of_getElem? (i := 1251) (by decide +kernel)⟩
theorem lw_p111 : lw_okq (⟨"PartedPensionModel", "number", "(III)Z"⟩, 22) := ⟨⟨by decide +kernel, by decide +kernel⟩, List.mem_of_getElem? (i := 878) (by decide +kernel), List.mem_of_getElem? (i := 1254) (by decide +kernel), List.mem_of_getElem? (i := 1255) (by decide +kernel)⟩
def lw_privs_7 : List (MethodName × Nat) := [(⟨"PartedPensionModel", "hasWorth", "(II)Z"⟩, 22), (⟨"PartedPensionModel", "worthOfAll", "(I)J"⟩, 22), (⟨"PartedPensionModel", "worthOfSpouse", "(II)J"⟩, 22), (⟨"PartedPensionModel", "worthIn", "(IIJ)J"⟩, 22), (⟨"PartedPensionModel", "placeOf", "(III)I"⟩, 22), (⟨"PartedPensionModel", "canRetire", "(I)Z"⟩, 22), (⟨"PartedPensionModel", "lastService", "()I"⟩, 22), (⟨"PartedPensionModel", "keeps", "([I)V"⟩, 22), (⟨"PartedPensionModel", "four", "(I)V"⟩, 22), (⟨"PartedPensionModel", "here", "()I"⟩, 22), (⟨"PartedPensionModel", "readStatement", "()Z"⟩, 22), (⟨"PartedPensionModel", "fails", "(II)Z"⟩, 22), (⟨"PartedPensionModel", "readWord", "()J"⟩, 22), (⟨"PartedPensionModel", "readBorn", "()Z"⟩, 22), (⟨"PartedPensionModel", "month", "(I)Z"⟩, 22), (⟨"PartedPensionModel", "number", "(III)Z"⟩, 22)]
theorem lw_r7 : ∀ q ∈ lw_privs_7, lw_okq q := List.forall_mem_cons.mpr ⟨lw_p96, List.forall_mem_cons.mpr ⟨lw_p97, List.forall_mem_cons.mpr ⟨lw_p98, List.forall_mem_cons.mpr ⟨lw_p99, List.forall_mem_cons.mpr ⟨lw_p100, List.forall_mem_cons.mpr ⟨lw_p101, List.forall_mem_cons.mpr ⟨lw_p102, List.forall_mem_cons.mpr ⟨lw_p103, List.forall_mem_cons.mpr ⟨lw_p104, List.forall_mem_cons.mpr ⟨lw_p105, List.forall_mem_cons.mpr ⟨lw_p106, List.forall_mem_cons.mpr ⟨lw_p107, List.forall_mem_cons.mpr ⟨lw_p108, List.forall_mem_cons.mpr ⟨lw_p109, List.forall_mem_cons.mpr ⟨lw_p110, List.forall_mem_cons.mpr ⟨lw_p111, fun _ h => absurd h List.not_mem_nil⟩⟩⟩⟩⟩⟩⟩⟩⟩⟩⟩⟩⟩⟩⟩⟩
theorem lw_p112 : lw_okq (⟨"PartedPensionModel", "ends", "()Z"⟩, 22) := ⟨⟨by decide +kernel, by decide +kernel⟩, List.mem_of_getElem? (i := 878) (by decide +kernel), List.mem_of_getElem? (i := 1258) (by decide +kernel), List.mem_of_getElem? (i := 1259) (by decide +kernel)⟩
theorem lw_p113 : lw_okq (⟨"PartedPensionModel", "readServe", "(I)Z"⟩, 22) := ⟨⟨by decide +kernel, by decide +kernel⟩, List.mem_of_getElem? (i := 878) (by decide +kernel), List.mem_of_getElem? (i := 1263) (by decide +kernel), List.mem_of_getElem? (i := 1264) (by decide +kernel)⟩
theorem lw_p114 : lw_okq (⟨"PartedPensionModel", "readWed", "(I)Z"⟩, 22) := ⟨⟨by decide +kernel, by decide +kernel⟩, List.mem_of_getElem? (i := 878) (by decide +kernel), List.mem_of_getElem? (i := 1269) (by decide +kernel), List.mem_of_getElem? (i := 1270) (by decide +kernel)⟩
theorem lw_p115 : lw_okq (⟨"PartedPensionModel", "readPart", "(I)Z"⟩, 22) := ⟨⟨by decide +kernel, by decide +kernel⟩, List.mem_of_getElem? (i := 878) (by decide +kernel), List.mem_of_getElem? (i := 1274) (by decide +kernel), List.mem_of_getElem? (i := 1275) (by decide +kernel)⟩
theorem lw_p116 : lw_okq (⟨"PartedPensionModel", "readLives", "(I)Z"⟩, 22) := ⟨⟨by decide +kernel, by decide +kernel⟩, List.mem_of_getElem? (i := 878) (by decide +kernel), List.mem_of_getElem? (i := 1281) (by decide +kernel), List.mem_of_getElem? (i := 1282) (by decide +kernel)⟩
theorem lw_p117 : lw_okq (⟨"PartedPensionModel", "readOfSpouse", "(II)Z"⟩, 22) := ⟨⟨by decide +kernel, by decide +kernel⟩, List.mem_of_getElem? (i := 878) (by decide +kernel), List.mem_of_getElem? (i := 1287) (by decide +kernel), List.mem_of_getElem? (i := 1288) (by decide +kernel)⟩
theorem lw_p118 : lw_okq (⟨"PartedPensionModel", "readOne", "(II)Z"⟩, 22) := ⟨⟨by decide +kernel, by decide +kernel⟩, List.mem_of_getElem? (i := 878) (by decide +kernel), List.mem_of_getElem? (i := 1293) (by decide +kernel), List.mem_of_getElem? (i := 1294) (by decide +kernel)⟩
def lw_privs_8 : List (MethodName × Nat) := [(⟨"PartedPensionModel", "ends", "()Z"⟩, 22), (⟨"PartedPensionModel", "readServe", "(I)Z"⟩, 22), (⟨"PartedPensionModel", "readWed", "(I)Z"⟩, 22), (⟨"PartedPensionModel", "readPart", "(I)Z"⟩, 22), (⟨"PartedPensionModel", "readLives", "(I)Z"⟩, 22), (⟨"PartedPensionModel", "readOfSpouse", "(II)Z"⟩, 22), (⟨"PartedPensionModel", "readOne", "(II)Z"⟩, 22)]
theorem lw_r8 : ∀ q ∈ lw_privs_8, lw_okq q := List.forall_mem_cons.mpr ⟨lw_p112, List.forall_mem_cons.mpr ⟨lw_p113, List.forall_mem_cons.mpr ⟨lw_p114, List.forall_mem_cons.mpr ⟨lw_p115, List.forall_mem_cons.mpr ⟨lw_p116, List.forall_mem_cons.mpr ⟨lw_p117, List.forall_mem_cons.mpr ⟨lw_p118, fun _ h => absurd h List.not_mem_nil⟩⟩⟩⟩⟩⟩⟩
def lw_privs : List (MethodName × Nat) := lw_privs_1 ++ (lw_privs_2 ++ (lw_privs_3 ++ (lw_privs_4 ++ (lw_privs_5 ++ (lw_privs_6 ++ (lw_privs_7 ++ (lw_privs_8)))))))
def lw_tbl : List Cond := k2_sels lw_privs ++ tables_1
theorem lw_privs_ok : ∀ q ∈ lw_privs, lw_okq q := by
  show ∀ q ∈ lw_privs_1 ++ (lw_privs_2 ++ (lw_privs_3 ++ (lw_privs_4 ++ (lw_privs_5 ++ (lw_privs_6 ++ (lw_privs_7 ++ (lw_privs_8))))))), lw_okq q
  exact List.forall_mem_append.mpr ⟨lw_r1, List.forall_mem_append.mpr ⟨lw_r2, List.forall_mem_append.mpr ⟨lw_r3, List.forall_mem_append.mpr ⟨lw_r4, List.forall_mem_append.mpr ⟨lw_r5, List.forall_mem_append.mpr ⟨lw_r6, List.forall_mem_append.mpr ⟨lw_r7, lw_r8⟩⟩⟩⟩⟩⟩⟩
def RX0 : String := "PartedPension$1"
def TX0 : u_T := fun k => match k with
  | _ => ("", "", "", false)
def tyX0 : Nat → FieldType := fun k => match k with
  | _ => .int
theorem nmX0 : ∀ a, a < 0 → ∀ b, b < 0 → a ≠ b → (TX0 a).2.1 ≠ (TX0 b).2.1 := by decide +kernel
theorem tyX0_ok : ∀ k, k < 0 → parseFieldDescriptor (TX0 k).2.2.1 = some (tyX0 k) := by decide +kernel
def RX1 : String := "PartedPension$Calendar"
def TX1 : u_T := fun k => match k with
  | 0 => ("PartedPension$Calendar", "codes", "[I", true)
  | _ => ("PartedPension$Calendar", "size", "I", false)
def tyX1 : Nat → FieldType := fun k => match k with
  | 0 => .array .int
  | _ => .int
theorem nmX1 : ∀ a, a < 2 → ∀ b, b < 2 → a ≠ b → (TX1 a).2.1 ≠ (TX1 b).2.1 := by decide +kernel
theorem tyX1_ok : ∀ k, k < 2 → parseFieldDescriptor (TX1 k).2.2.1 = some (tyX1 k) := by decide +kernel
abbrev cX1_init : ByteArray := prog_3_method_1_code
def yX1_init : MethodName := ⟨RX1, "<init>", "()V"⟩
abbrev cX1_fill : ByteArray := prog_3_method_2_code
def yX1_fill : MethodName := ⟨RX1, "fill", "(LPartedPension$Plan;)V"⟩
abbrev cX1_add : ByteArray := prog_3_method_3_code
def yX1_add : MethodName := ⟨RX1, "add", "(III)V"⟩
def RX2 : String := "PartedPension$LifeTable"
def TX2 : u_T := fun k => match k with
  | 0 => ("PartedPension$LifeTable", "years", "[I", true)
  | 1 => ("PartedPension$LifeTable", "living", "[I", true)
  | _ => ("PartedPension$LifeTable", "told", "I", false)
def tyX2 : Nat → FieldType := fun k => match k with
  | 0 => .array .int
  | 1 => .array .int
  | _ => .int
theorem nmX2 : ∀ a, a < 3 → ∀ b, b < 3 → a ≠ b → (TX2 a).2.1 ≠ (TX2 b).2.1 := by decide +kernel
theorem tyX2_ok : ∀ k, k < 3 → parseFieldDescriptor (TX2 k).2.2.1 = some (tyX2 k) := by decide +kernel
abbrev cX2_init : ByteArray := prog_4_method_1_code
def yX2_init : MethodName := ⟨RX2, "<init>", "()V"⟩
abbrev cX2_copyFrom : ByteArray := prog_4_method_2_code
def yX2_copyFrom : MethodName := ⟨RX2, "copyFrom", "(LPartedPension$LifeTable;)V"⟩
abbrev cX2_tellYear : ByteArray := prog_4_method_3_code
def yX2_tellYear : MethodName := ⟨RX2, "tellYear", "(II)Z"⟩
abbrev cX2_makeRoom : ByteArray := prog_4_method_4_code
def yX2_makeRoom : MethodName := ⟨RX2, "makeRoom", "(I)V"⟩
abbrev cX2_livesAt : ByteArray := prog_4_method_5_code
def yX2_livesAt : MethodName := ⟨RX2, "livesAt", "(I)I"⟩
def RX3 : String := "PartedPension$Plan"
def TX3 : u_T := fun k => match k with
  | 0 => ("PartedPension$Plan", "born", "I", false)
  | 1 => ("PartedPension$Plan", "retires", "I", false)
  | 2 => ("PartedPension$Plan", "dies", "I", false)
  | 3 => ("PartedPension$Plan", "terms", "[I", true)
  | 4 => ("PartedPension$Plan", "spans", "[LPartedPension$Span;", true)
  | 5 => ("PartedPension$Plan", "spanCount", "I", false)
  | 6 => ("PartedPension$Plan", "served", "I", false)
  | 7 => ("PartedPension$Plan", "spouses", "[LPartedPension$Spouse;", true)
  | 8 => ("PartedPension$Plan", "spouseCount", "I", false)
  | _ => ("PartedPension$Plan", "table", "LPartedPension$LifeTable;", true)
def tyX3 : Nat → FieldType := fun k => match k with
  | 0 => .int
  | 1 => .int
  | 2 => .int
  | 3 => .array .int
  | 4 => .array (.object "PartedPension$Span")
  | 5 => .int
  | 6 => .int
  | 7 => .array (.object "PartedPension$Spouse")
  | 8 => .int
  | _ => .object "PartedPension$LifeTable"
theorem nmX3 : ∀ a, a < 10 → ∀ b, b < 10 → a ≠ b → (TX3 a).2.1 ≠ (TX3 b).2.1 := by decide +kernel
theorem tyX3_ok : ∀ k, k < 10 → parseFieldDescriptor (TX3 k).2.2.1 = some (tyX3 k) := by decide +kernel
abbrev cX3_init : ByteArray := prog_5_method_1_code
def yX3_init : MethodName := ⟨RX3, "<init>", "()V"⟩
abbrev cX3_beginAnew : ByteArray := prog_5_method_2_code
def yX3_beginAnew : MethodName := ⟨RX3, "beginAnew", "(I)V"⟩
abbrev cX3_copyFrom : ByteArray := prog_5_method_3_code
def yX3_copyFrom : MethodName := ⟨RX3, "copyFrom", "(LPartedPension$Plan;)V"⟩
abbrev cX3_hasSpouse : ByteArray := prog_5_method_4_code
def yX3_hasSpouse : MethodName := ⟨RX3, "hasSpouse", "(I)Z"⟩
abbrev cX3_serve : ByteArray := prog_5_method_5_code
def yX3_serve : MethodName := ⟨RX3, "serve", "(III)Z"⟩
abbrev cX3_wed : ByteArray := prog_5_method_6_code
def yX3_wed : MethodName := ⟨RX3, "wed", "(II)Z"⟩
abbrev cX3_part : ByteArray := prog_5_method_7_code
def yX3_part : MethodName := ⟨RX3, "part", "(IIII)Z"⟩
abbrev cX3_alter : ByteArray := prog_5_method_8_code
def yX3_alter : MethodName := ⟨RX3, "alter", "(III)Z"⟩
abbrev cX3_canChange : ByteArray := prog_5_method_9_code
def yX3_canChange : MethodName := ⟨RX3, "canChange", "(III)Z"⟩
abbrev cX3_valueOf : ByteArray := prog_5_method_10_code
def yX3_valueOf : MethodName := ⟨RX3, "valueOf", "(II)I"⟩
abbrev cX3_change : ByteArray := prog_5_method_11_code
def yX3_change : MethodName := ⟨RX3, "change", "(III)V"⟩
abbrev cX3_changeSpouse : ByteArray := prog_5_method_12_code
def yX3_changeSpouse : MethodName := ⟨RX3, "changeSpouse", "(LPartedPension$Spouse;II)V"⟩
abbrev cX3_lastTo : ByteArray := prog_5_method_13_code
def yX3_lastTo : MethodName := ⟨RX3, "lastTo", "()I"⟩
abbrev cX3_serviceWithin : ByteArray := prog_5_method_14_code
def yX3_serviceWithin : MethodName := ⟨RX3, "serviceWithin", "(II)I"⟩
abbrev cX3_recount : ByteArray := prog_5_method_15_code
def yX3_recount : MethodName := ⟨RX3, "recount", "()V"⟩
abbrev cX3_finalPay : ByteArray := prog_5_method_16_code
def yX3_finalPay : MethodName := ⟨RX3, "finalPay", "()I"⟩
abbrev cX3_basePay : ByteArray := prog_5_method_17_code
def yX3_basePay : MethodName := ⟨RX3, "basePay", "()I"⟩
abbrev cX3_firstPay : ByteArray := prog_5_method_18_code
def yX3_firstPay : MethodName := ⟨RX3, "firstPay", "()I"⟩
abbrev cX3_shareOf : ByteArray := prog_5_method_19_code
def yX3_shareOf : MethodName := ⟨RX3, "shareOf", "(LPartedPension$Spouse;I)J"⟩
abbrev cX3_beginOf : ByteArray := prog_5_method_20_code
def yX3_beginOf : MethodName := ⟨RX3, "beginOf", "(LPartedPension$Spouse;)I"⟩
def RX4 : String := "PartedPension$Reader"
def TX4 : u_T := fun k => match k with
  | 0 => ("PartedPension$Reader", "bytes", "[B", true)
  | 1 => ("PartedPension$Reader", "length", "I", false)
  | 2 => ("PartedPension$Reader", "next", "I", false)
  | 3 => ("PartedPension$Reader", "token", "I", false)
  | 4 => ("PartedPension$Reader", "place", "I", false)
  | 5 => ("PartedPension$Reader", "number", "I", false)
  | 6 => ("PartedPension$Reader", "values", "[I", true)
  | _ => ("PartedPension$Reader", "fault", "I", false)
def tyX4 : Nat → FieldType := fun k => match k with
  | 0 => .array .byte
  | 1 => .int
  | 2 => .int
  | 3 => .int
  | 4 => .int
  | 5 => .int
  | 6 => .array .int
  | _ => .int
theorem nmX4 : ∀ a, a < 8 → ∀ b, b < 8 → a ≠ b → (TX4 a).2.1 ≠ (TX4 b).2.1 := by decide +kernel
theorem tyX4_ok : ∀ k, k < 8 → parseFieldDescriptor (TX4 k).2.2.1 = some (tyX4 k) := by decide +kernel
abbrev cX4_init : ByteArray := prog_6_method_1_code
def yX4_init : MethodName := ⟨RX4, "<init>", "()V"⟩
abbrev cX4_append : ByteArray := prog_6_method_2_code
def yX4_append : MethodName := ⟨RX4, "append", "(I)V"⟩
abbrev cX4_readAll : ByteArray := prog_6_method_3_code
def yX4_readAll : MethodName := ⟨RX4, "readAll", "(LPartedPension$Plan;)I"⟩
abbrev cX4_readStatement : ByteArray := prog_6_method_4_code
def yX4_readStatement : MethodName := ⟨RX4, "readStatement", "(LPartedPension$Plan;)V"⟩
abbrev cX4_readSlot : ByteArray := prog_6_method_5_code
def yX4_readSlot : MethodName := ⟨RX4, "readSlot", "(LPartedPension$Plan;II)V"⟩
abbrev cX4_readHow : ByteArray := prog_6_method_6_code
def yX4_readHow : MethodName := ⟨RX4, "readHow", "(I)V"⟩
abbrev cX4_readClose : ByteArray := prog_6_method_7_code
def yX4_readClose : MethodName := ⟨RX4, "readClose", "()V"⟩
abbrev cX4_blame : ByteArray := prog_6_method_8_code
def yX4_blame : MethodName := ⟨RX4, "blame", "(II)V"⟩
abbrev cX4_verbHere : ByteArray := prog_6_method_9_code
def yX4_verbHere : MethodName := ⟨RX4, "verbHere", "()LPartedPension$Verb;"⟩
abbrev cX4_isWord : ByteArray := prog_6_method_10_code
def yX4_isWord : MethodName := ⟨RX4, "isWord", "(Ljava/lang/String;)Z"⟩
abbrev cX4_readToken : ByteArray := prog_6_method_11_code
def yX4_readToken : MethodName := ⟨RX4, "readToken", "()V"⟩
abbrev cX4_readWord : ByteArray := prog_6_method_12_code
def yX4_readWord : MethodName := ⟨RX4, "readWord", "()V"⟩
abbrev cX4_readNumber : ByteArray := prog_6_method_13_code
def yX4_readNumber : MethodName := ⟨RX4, "readNumber", "()V"⟩
abbrev cX4_byteAt : ByteArray := prog_6_method_14_code
def yX4_byteAt : MethodName := ⟨RX4, "byteAt", "(I)I"⟩
abbrev cX4_isLetter : ByteArray := prog_6_method_15_code
def yX4_isLetter : MethodName := ⟨RX4, "isLetter", "(I)Z"⟩
abbrev cX4_isDigit : ByteArray := prog_6_method_16_code
def yX4_isDigit : MethodName := ⟨RX4, "isDigit", "(I)Z"⟩
def RX5 : String := "PartedPension$Reckoner"
def TX5 : u_T := fun k => match k with
  | 0 => ("PartedPension$Reckoner", "wholes", "[I", true)
  | 1 => ("PartedPension$Reckoner", "discounts", "[I", true)
  | 2 => ("PartedPension$Reckoner", "memberOdds", "[I", true)
  | 3 => ("PartedPension$Reckoner", "spouseOdds", "[I", true)
  | 4 => ("PartedPension$Reckoner", "owns", "[J", true)
  | _ => ("PartedPension$Reckoner", "changed", "LPartedPension$Spouse;", true)
def tyX5 : Nat → FieldType := fun k => match k with
  | 0 => .array .int
  | 1 => .array .int
  | 2 => .array .int
  | 3 => .array .int
  | 4 => .array .long
  | _ => .object "PartedPension$Spouse"
theorem nmX5 : ∀ a, a < 6 → ∀ b, b < 6 → a ≠ b → (TX5 a).2.1 ≠ (TX5 b).2.1 := by decide +kernel
theorem tyX5_ok : ∀ k, k < 6 → parseFieldDescriptor (TX5 k).2.2.1 = some (tyX5 k) := by decide +kernel
abbrev cX5_init : ByteArray := prog_7_method_1_code
def yX5_init : MethodName := ⟨RX5, "<init>", "()V"⟩
abbrev cX5_fillWholes : ByteArray := prog_7_method_2_code
def yX5_fillWholes : MethodName := ⟨RX5, "fillWholes", "(LPartedPension$Plan;)V"⟩
abbrev cX5_fillDiscounts : ByteArray := prog_7_method_3_code
def yX5_fillDiscounts : MethodName := ⟨RX5, "fillDiscounts", "(LPartedPension$Plan;)V"⟩
abbrev cX5_fillOdds : ByteArray := prog_7_method_4_code
def yX5_fillOdds : MethodName := ⟨RX5, "fillOdds", "(LPartedPension$Plan;II[I)V"⟩
abbrev cX5_prepare : ByteArray := prog_7_method_5_code
def yX5_prepare : MethodName := ⟨RX5, "prepare", "(LPartedPension$Plan;)V"⟩
abbrev cX5_paidWithin : ByteArray := prog_7_method_6_code
def yX5_paidWithin : MethodName := ⟨RX5, "paidWithin", "(LPartedPension$Plan;III)J"⟩
abbrev cX5_paidTo : ByteArray := prog_7_method_7_code
def yX5_paidTo : MethodName := ⟨RX5, "paidTo", "(LPartedPension$Plan;II)J"⟩
abbrev cX5_paidToSpouse : ByteArray := prog_7_method_8_code
def yX5_paidToSpouse : MethodName := ⟨RX5, "paidToSpouse", "(LPartedPension$Plan;LPartedPension$Spouse;IJ)J"⟩
abbrev cX5_paidToMember : ByteArray := prog_7_method_9_code
def yX5_paidToMember : MethodName := ⟨RX5, "paidToMember", "(LPartedPension$Plan;I)J"⟩
abbrev cX5_restOf : ByteArray := prog_7_method_10_code
def yX5_restOf : MethodName := ⟨RX5, "restOf", "(LPartedPension$Plan;I)J"⟩
abbrev cX5_isAlive : ByteArray := prog_7_method_11_code
def yX5_isAlive : MethodName := ⟨RX5, "isAlive", "(II)Z"⟩
abbrev cX5_firstCrossing : ByteArray := prog_7_method_12_code
def yX5_firstCrossing : MethodName := ⟨RX5, "firstCrossing", "(LPartedPension$Plan;LPartedPension$Spouse;)I"⟩
abbrev cX5_annuityOf : ByteArray := prog_7_method_13_code
def yX5_annuityOf : MethodName := ⟨RX5, "annuityOf", "(LPartedPension$Plan;III)J"⟩
abbrev cX5_annuityIn : ByteArray := prog_7_method_14_code
def yX5_annuityIn : MethodName := ⟨RX5, "annuityIn", "(II)J"⟩
abbrev cX5_ownOf : ByteArray := prog_7_method_15_code
def yX5_ownOf : MethodName := ⟨RX5, "ownOf", "(LPartedPension$Plan;LPartedPension$Spouse;)J"⟩
abbrev cX5_ownBy : ByteArray := prog_7_method_16_code
def yX5_ownBy : MethodName := ⟨RX5, "ownBy", "(JJJ)J"⟩
abbrev cX5_worthOfAll : ByteArray := prog_7_method_17_code
def yX5_worthOfAll : MethodName := ⟨RX5, "worthOfAll", "(LPartedPension$Plan;I)J"⟩
abbrev cX5_worthOfSpouse : ByteArray := prog_7_method_18_code
def yX5_worthOfSpouse : MethodName := ⟨RX5, "worthOfSpouse", "(LPartedPension$Plan;LPartedPension$Spouse;I)J"⟩
abbrev cX5_worthApart : ByteArray := prog_7_method_19_code
def yX5_worthApart : MethodName := ⟨RX5, "worthApart", "(JII)J"⟩
abbrev cX5_worthShared : ByteArray := prog_7_method_20_code
def yX5_worthShared : MethodName := ⟨RX5, "worthShared", "(LPartedPension$Plan;LPartedPension$Spouse;II)J"⟩
abbrev cX5_bestClaim : ByteArray := prog_7_method_21_code
def yX5_bestClaim : MethodName := ⟨RX5, "bestClaim", "(LPartedPension$Plan;LPartedPension$Spouse;)I"⟩
abbrev cX5_leastHalf : ByteArray := prog_7_method_22_code
def yX5_leastHalf : MethodName := ⟨RX5, "leastHalf", "(LPartedPension$Plan;LPartedPension$Spouse;)I"⟩
def RX6 : String := "PartedPension$Span"
def TX6 : u_T := fun k => match k with
  | 0 => ("PartedPension$Span", "from", "I", false)
  | 1 => ("PartedPension$Span", "to", "I", false)
  | _ => ("PartedPension$Span", "pay", "I", false)
def tyX6 : Nat → FieldType := fun k => match k with
  | 0 => .int
  | 1 => .int
  | _ => .int
theorem nmX6 : ∀ a, a < 3 → ∀ b, b < 3 → a ≠ b → (TX6 a).2.1 ≠ (TX6 b).2.1 := by decide +kernel
theorem tyX6_ok : ∀ k, k < 3 → parseFieldDescriptor (TX6 k).2.2.1 = some (tyX6 k) := by decide +kernel
abbrev cX6_init : ByteArray := prog_8_method_1_code
def yX6_init : MethodName := ⟨RX6, "<init>", "()V"⟩
abbrev cX6_copyFrom : ByteArray := prog_8_method_2_code
def yX6_copyFrom : MethodName := ⟨RX6, "copyFrom", "(LPartedPension$Span;)V"⟩
def RX7 : String := "PartedPension$Spouse"
def TX7 : u_T := fun k => match k with
  | 0 => ("PartedPension$Spouse", "born", "I", false)
  | 1 => ("PartedPension$Spouse", "wed", "I", false)
  | 2 => ("PartedPension$Spouse", "parted", "I", false)
  | 3 => ("PartedPension$Spouse", "portion", "I", false)
  | 4 => ("PartedPension$Spouse", "how", "I", false)
  | 5 => ("PartedPension$Spouse", "survivor", "I", false)
  | 6 => ("PartedPension$Spouse", "claims", "I", false)
  | 7 => ("PartedPension$Spouse", "dies", "I", false)
  | _ => ("PartedPension$Spouse", "served", "I", false)
def tyX7 : Nat → FieldType := fun k => match k with
  | 0 => .int
  | 1 => .int
  | 2 => .int
  | 3 => .int
  | 4 => .int
  | 5 => .int
  | 6 => .int
  | 7 => .int
  | _ => .int
theorem nmX7 : ∀ a, a < 9 → ∀ b, b < 9 → a ≠ b → (TX7 a).2.1 ≠ (TX7 b).2.1 := by decide +kernel
theorem tyX7_ok : ∀ k, k < 9 → parseFieldDescriptor (TX7 k).2.2.1 = some (tyX7 k) := by decide +kernel
abbrev cX7_init : ByteArray := prog_9_method_1_code
def yX7_init : MethodName := ⟨RX7, "<init>", "()V"⟩
abbrev cX7_begin : ByteArray := prog_9_method_2_code
def yX7_begin : MethodName := ⟨RX7, "begin", "(II)V"⟩
abbrev cX7_copyFrom : ByteArray := prog_9_method_3_code
def yX7_copyFrom : MethodName := ⟨RX7, "copyFrom", "(LPartedPension$Spouse;)V"⟩
abbrev cX7_isPartedBy : ByteArray := prog_9_method_4_code
def yX7_isPartedBy : MethodName := ⟨RX7, "isPartedBy", "(I)Z"⟩
def RX8 : String := "PartedPension$Verb"
def TX8 : u_T := fun k => match k with
  | _ => ("", "", "", false)
def tyX8 : Nat → FieldType := fun k => match k with
  | _ => .int
theorem nmX8 : ∀ a, a < 0 → ∀ b, b < 0 → a ≠ b → (TX8 a).2.1 ≠ (TX8 b).2.1 := by decide +kernel
theorem tyX8_ok : ∀ k, k < 0 → parseFieldDescriptor (TX8 k).2.2.1 = some (tyX8 k) := by decide +kernel
abbrev cX8_slot : ByteArray := prog_10_method_4_code
def yX8_slot : MethodName := ⟨RX8, "slot", "(I)I"⟩
abbrev cX8_isFull : ByteArray := prog_10_method_5_code
def yX8_isFull : MethodName := ⟨RX8, "isFull", "(LPartedPension$Plan;)Z"⟩
abbrev cX8_perform : ByteArray := prog_10_method_6_code
def yX8_perform : MethodName := ⟨RX8, "perform", "(LPartedPension$Plan;IIII)Z"⟩
def RX9 : String := "PartedPension"
def TX9 : u_T := fun k => match k with
  | 0 => ("PartedPension", "latestFault", "I", false)
  | 1 => ("PartedPension", "plan", "LPartedPension$Plan;", true)
  | 2 => ("PartedPension", "trial", "LPartedPension$Plan;", true)
  | 3 => ("PartedPension", "past", "[LPartedPension$Plan;", true)
  | 4 => ("PartedPension", "pastCount", "I", false)
  | 5 => ("PartedPension", "reader", "LPartedPension$Reader;", true)
  | 6 => ("PartedPension", "reckoner", "LPartedPension$Reckoner;", true)
  | _ => ("PartedPension", "calendar", "LPartedPension$Calendar;", true)
def tyX9 : Nat → FieldType := fun k => match k with
  | 0 => .int
  | 1 => .object "PartedPension$Plan"
  | 2 => .object "PartedPension$Plan"
  | 3 => .array (.object "PartedPension$Plan")
  | 4 => .int
  | 5 => .object "PartedPension$Reader"
  | 6 => .object "PartedPension$Reckoner"
  | _ => .object "PartedPension$Calendar"
theorem nmX9 : ∀ a, a < 8 → ∀ b, b < 8 → a ≠ b → (TX9 a).2.1 ≠ (TX9 b).2.1 := by decide +kernel
theorem tyX9_ok : ∀ k, k < 8 → parseFieldDescriptor (TX9 k).2.2.1 = some (tyX9 k) := by decide +kernel
abbrev cX9_init : ByteArray := prog_1_method_1_code
def yX9_init : MethodName := ⟨RX9, "<init>", "()V"⟩
abbrev cX9_feed : ByteArray := prog_1_method_2_code
def yX9_feed : MethodName := ⟨RX9, "feed", "(IIIII)I"⟩
abbrev cX9_end : ByteArray := prog_1_method_3_code
def yX9_end : MethodName := ⟨RX9, "end", "(I)Z"⟩
abbrev cX9_tell : ByteArray := prog_1_method_4_code
def yX9_tell : MethodName := ⟨RX9, "tell", "()I"⟩
abbrev cX9_fault : ByteArray := prog_1_method_5_code
def yX9_fault : MethodName := ⟨RX9, "fault", "()I"⟩
abbrev cX9_set : ByteArray := prog_1_method_6_code
def yX9_set : MethodName := ⟨RX9, "set", "(III)Z"⟩
abbrev cX9_undo : ByteArray := prog_1_method_7_code
def yX9_undo : MethodName := ⟨RX9, "undo", "()I"⟩
abbrev cX9_keepPast : ByteArray := prog_1_method_8_code
def yX9_keepPast : MethodName := ⟨RX9, "keepPast", "()V"⟩
abbrev cX9_count : ByteArray := prog_1_method_9_code
def yX9_count : MethodName := ⟨RX9, "count", "(I)I"⟩
abbrev cX9_span : ByteArray := prog_1_method_10_code
def yX9_span : MethodName := ⟨RX9, "span", "(II)I"⟩
abbrev cX9_spouse : ByteArray := prog_1_method_11_code
def yX9_spouse : MethodName := ⟨RX9, "spouse", "(II)I"⟩
abbrev cX9_service : ByteArray := prog_1_method_12_code
def yX9_service : MethodName := ⟨RX9, "service", "(II)I"⟩
abbrev cX9_benefit : ByteArray := prog_1_method_13_code
def yX9_benefit : MethodName := ⟨RX9, "benefit", "(I)I"⟩
abbrev cX9_whole : ByteArray := prog_1_method_14_code
def yX9_whole : MethodName := ⟨RX9, "whole", "(I)I"⟩
abbrev cX9_share : ByteArray := prog_1_method_15_code
def yX9_share : MethodName := ⟨RX9, "share", "(IZ)I"⟩
abbrev cX9_paid : ByteArray := prog_1_method_16_code
def yX9_paid : MethodName := ⟨RX9, "paid", "(II)J"⟩
abbrev cX9_sum : ByteArray := prog_1_method_17_code
def yX9_sum : MethodName := ⟨RX9, "sum", "(III)J"⟩
abbrev cX9_richest : ByteArray := prog_1_method_18_code
def yX9_richest : MethodName := ⟨RX9, "richest", "(I)I"⟩
abbrev cX9_happens : ByteArray := prog_1_method_19_code
def yX9_happens : MethodName := ⟨RX9, "happens", "(I)I"⟩
abbrev cX9_lives : ByteArray := prog_1_method_20_code
def yX9_lives : MethodName := ⟨RX9, "lives", "(I)I"⟩
abbrev cX9_discount : ByteArray := prog_1_method_21_code
def yX9_discount : MethodName := ⟨RX9, "discount", "(I)I"⟩
abbrev cX9_annuity : ByteArray := prog_1_method_22_code
def yX9_annuity : MethodName := ⟨RX9, "annuity", "(III)J"⟩
abbrev cX9_own : ByteArray := prog_1_method_23_code
def yX9_own : MethodName := ⟨RX9, "own", "(I)J"⟩
abbrev cX9_worth : ByteArray := prog_1_method_24_code
def yX9_worth : MethodName := ⟨RX9, "worth", "(II)J"⟩
abbrev cX9_claimBest : ByteArray := prog_1_method_25_code
def yX9_claimBest : MethodName := ⟨RX9, "claimBest", "(I)I"⟩
abbrev cX9_half : ByteArray := prog_1_method_26_code
def yX9_half : MethodName := ⟨RX9, "half", "(I)I"⟩
abbrev cX9_crosses : ByteArray := prog_1_method_27_code
def yX9_crosses : MethodName := ⟨RX9, "crosses", "(I)I"⟩
abbrev cX9_hasWorthInRetires : ByteArray := prog_1_method_28_code
def yX9_hasWorthInRetires : MethodName := ⟨RX9, "hasWorthInRetires", "(I)Z"⟩
abbrev cX9_isPaid : ByteArray := prog_1_method_29_code
def yX9_isPaid : MethodName := ⟨RX9, "isPaid", "(I)Z"⟩
abbrev cX9_isMonth : ByteArray := prog_1_method_30_code
def yX9_isMonth : MethodName := ⟨RX9, "isMonth", "(I)Z"⟩
abbrev cX9_isTerm : ByteArray := prog_1_method_31_code
def yX9_isTerm : MethodName := ⟨RX9, "isTerm", "(I)Z"⟩
abbrev cX9_isWithin : ByteArray := prog_1_method_32_code
def yX9_isWithin : MethodName := ⟨RX9, "isWithin", "(II)Z"⟩
abbrev cX9_commonDivisor : ByteArray := prog_1_method_33_code
def yX9_commonDivisor : MethodName := ⟨RX9, "commonDivisor", "(II)I"⟩
def RX10 : String := "PartedPensionModel"
def TX10 : u_T := fun k => match k with
  | 0 => ("PartedPensionModel", "raised", "I", false)
  | 1 => ("PartedPensionModel", "w", "[I", true)
  | 2 => ("PartedPensionModel", "was", "[I", true)
  | 3 => ("PartedPensionModel", "draft", "[I", true)
  | 4 => ("PartedPensionModel", "kept", "I", false)
  | 5 => ("PartedPensionModel", "wholes", "[J", true)
  | 6 => ("PartedPensionModel", "isLaid", "Z", false)
  | 7 => ("PartedPensionModel", "worthOf", "[J", true)
  | 8 => ("PartedPensionModel", "oddsMember", "[J", true)
  | 9 => ("PartedPensionModel", "oddsSpouse", "[J", true)
  | 10 => ("PartedPensionModel", "owns", "[J", true)
  | 11 => ("PartedPensionModel", "event", "[I", true)
  | 12 => ("PartedPensionModel", "events", "I", false)
  | 13 => ("PartedPensionModel", "tape", "[I", true)
  | 14 => ("PartedPensionModel", "taped", "I", false)
  | 15 => ("PartedPensionModel", "fault", "I", false)
  | 16 => ("PartedPensionModel", "at", "I", false)
  | 17 => ("PartedPensionModel", "wrong", "I", false)
  | 18 => ("PartedPensionModel", "value", "I", false)
  | 19 => ("PartedPensionModel", "place", "I", false)
  | 20 => ("PartedPensionModel", "statements", "I", false)
  | _ => ("PartedPensionModel", "told", "[I", true)
def tyX10 : Nat → FieldType := fun k => match k with
  | 0 => .int
  | 1 => .array .int
  | 2 => .array .int
  | 3 => .array .int
  | 4 => .int
  | 5 => .array .long
  | 6 => .boolean
  | 7 => .array .long
  | 8 => .array .long
  | 9 => .array .long
  | 10 => .array .long
  | 11 => .array .int
  | 12 => .int
  | 13 => .array .int
  | 14 => .int
  | 15 => .int
  | 16 => .int
  | 17 => .int
  | 18 => .int
  | 19 => .int
  | 20 => .int
  | _ => .array .int
theorem nmX10 : ∀ a, a < 22 → ∀ b, b < 22 → a ≠ b → (TX10 a).2.1 ≠ (TX10 b).2.1 := by decide +kernel
theorem tyX10_ok : ∀ k, k < 22 → parseFieldDescriptor (TX10 k).2.2.1 = some (tyX10 k) := by decide +kernel
abbrev cX10_init : ByteArray := prog_12_method_1_code
def yX10_init : MethodName := ⟨RX10, "<init>", "()V"⟩
abbrev cX10_thrown : ByteArray := prog_12_method_2_code
def yX10_thrown : MethodName := ⟨RX10, "thrown", "()I"⟩
abbrev cX10_in : ByteArray := prog_12_method_3_code
def yX10_in : MethodName := ⟨RX10, "in", "(III)Z"⟩
abbrev cX10_isMonth : ByteArray := prog_12_method_4_code
def yX10_isMonth : MethodName := ⟨RX10, "isMonth", "(I)Z"⟩
abbrev cX10_begins : ByteArray := prog_12_method_5_code
def yX10_begins : MethodName := ⟨RX10, "begins", "(I)V"⟩
abbrev cX10_mostOf : ByteArray := prog_12_method_6_code
def yX10_mostOf : MethodName := ⟨RX10, "mostOf", "(I)I"⟩
abbrev cX10_isSpouse : ByteArray := prog_12_method_7_code
def yX10_isSpouse : MethodName := ⟨RX10, "isSpouse", "(I)Z"⟩
abbrev cX10_its : ByteArray := prog_12_method_8_code
def yX10_its : MethodName := ⟨RX10, "its", "(II)I"⟩
abbrev cX10_isParted : ByteArray := prog_12_method_9_code
def yX10_isParted : MethodName := ⟨RX10, "isParted", "(I)Z"⟩
abbrev cX10_spanOf : ByteArray := prog_12_method_10_code
def yX10_spanOf : MethodName := ⟨RX10, "spanOf", "(II)I"⟩
abbrev cX10_serviceIn : ByteArray := prog_12_method_11_code
def yX10_serviceIn : MethodName := ⟨RX10, "serviceIn", "(II)I"⟩
abbrev cX10_served : ByteArray := prog_12_method_12_code
def yX10_served : MethodName := ⟨RX10, "served", "()I"⟩
abbrev cX10_finalPay : ByteArray := prog_12_method_13_code
def yX10_finalPay : MethodName := ⟨RX10, "finalPay", "()I"⟩
abbrev cX10_base : ByteArray := prog_12_method_14_code
def yX10_base : MethodName := ⟨RX10, "base", "()I"⟩
abbrev cX10_firstPaid : ByteArray := prog_12_method_15_code
def yX10_firstPaid : MethodName := ⟨RX10, "firstPaid", "()I"⟩
abbrev cX10_laysWholes : ByteArray := prog_12_method_16_code
def yX10_laysWholes : MethodName := ⟨RX10, "laysWholes", "()V"⟩
abbrev cX10_wedIn : ByteArray := prog_12_method_17_code
def yX10_wedIn : MethodName := ⟨RX10, "wedIn", "(I)I"⟩
abbrev cX10_shareIn : ByteArray := prog_12_method_18_code
def yX10_shareIn : MethodName := ⟨RX10, "shareIn", "(II)J"⟩
abbrev cX10_begin : ByteArray := prog_12_method_19_code
def yX10_begin : MethodName := ⟨RX10, "begin", "(I)I"⟩
abbrev cX10_livesAt : ByteArray := prog_12_method_20_code
def yX10_livesAt : MethodName := ⟨RX10, "livesAt", "(I)I"⟩
abbrev cX10_bornOf : ByteArray := prog_12_method_21_code
def yX10_bornOf : MethodName := ⟨RX10, "bornOf", "(I)I"⟩
abbrev cX10_laysOdds : ByteArray := prog_12_method_22_code
def yX10_laysOdds : MethodName := ⟨RX10, "laysOdds", "([JII)V"⟩
abbrev cX10_annuityBy : ByteArray := prog_12_method_23_code
def yX10_annuityBy : MethodName := ⟨RX10, "annuityBy", "([JII)J"⟩
abbrev cX10_areBorn : ByteArray := prog_12_method_24_code
def yX10_areBorn : MethodName := ⟨RX10, "areBorn", "(II)Z"⟩
abbrev cX10_ownOf : ByteArray := prog_12_method_25_code
def yX10_ownOf : MethodName := ⟨RX10, "ownOf", "(I)J"⟩
abbrev cX10_ownBy : ByteArray := prog_12_method_26_code
def yX10_ownBy : MethodName := ⟨RX10, "ownBy", "(IJJ)J"⟩
abbrev cX10_livesIn : ByteArray := prog_12_method_27_code
def yX10_livesIn : MethodName := ⟨RX10, "livesIn", "(II)Z"⟩
abbrev cX10_laysOwns : ByteArray := prog_12_method_28_code
def yX10_laysOwns : MethodName := ⟨RX10, "laysOwns", "()V"⟩
abbrev cX10_isPaid : ByteArray := prog_12_method_29_code
def yX10_isPaid : MethodName := ⟨RX10, "isPaid", "(II)Z"⟩
abbrev cX10_paidBy : ByteArray := prog_12_method_30_code
def yX10_paidBy : MethodName := ⟨RX10, "paidBy", "(III)J"⟩
abbrev cX10_paidMember : ByteArray := prog_12_method_31_code
def yX10_paidMember : MethodName := ⟨RX10, "paidMember", "(I)J"⟩
abbrev cX10_paidTo : ByteArray := prog_12_method_32_code
def yX10_paidTo : MethodName := ⟨RX10, "paidTo", "(II)J"⟩
abbrev cX10_isWho : ByteArray := prog_12_method_33_code
def yX10_isWho : MethodName := ⟨RX10, "isWho", "(I)Z"⟩
abbrev cX10_sumOf : ByteArray := prog_12_method_34_code
def yX10_sumOf : MethodName := ⟨RX10, "sumOf", "(III)J"⟩
abbrev cX10_paid : ByteArray := prog_12_method_35_code
def yX10_paid : MethodName := ⟨RX10, "paid", "(II)J"⟩
abbrev cX10_sum : ByteArray := prog_12_method_36_code
def yX10_sum : MethodName := ⟨RX10, "sum", "(III)J"⟩
abbrev cX10_richest : ByteArray := prog_12_method_37_code
def yX10_richest : MethodName := ⟨RX10, "richest", "(I)I"⟩
abbrev cX10_crosses : ByteArray := prog_12_method_38_code
def yX10_crosses : MethodName := ⟨RX10, "crosses", "(I)I"⟩
abbrev cX10_count : ByteArray := prog_12_method_39_code
def yX10_count : MethodName := ⟨RX10, "count", "(I)I"⟩
abbrev cX10_span : ByteArray := prog_12_method_40_code
def yX10_span : MethodName := ⟨RX10, "span", "(II)I"⟩
abbrev cX10_spouse : ByteArray := prog_12_method_41_code
def yX10_spouse : MethodName := ⟨RX10, "spouse", "(II)I"⟩
abbrev cX10_service : ByteArray := prog_12_method_42_code
def yX10_service : MethodName := ⟨RX10, "service", "(II)I"⟩
abbrev cX10_benefit : ByteArray := prog_12_method_43_code
def yX10_benefit : MethodName := ⟨RX10, "benefit", "(I)I"⟩
abbrev cX10_whole : ByteArray := prog_12_method_44_code
def yX10_whole : MethodName := ⟨RX10, "whole", "(I)I"⟩
abbrev cX10_divisor : ByteArray := prog_12_method_45_code
def yX10_divisor : MethodName := ⟨RX10, "divisor", "(II)I"⟩
abbrev cX10_share : ByteArray := prog_12_method_46_code
def yX10_share : MethodName := ⟨RX10, "share", "(IZ)I"⟩
abbrev cX10_happensIn : ByteArray := prog_12_method_47_code
def yX10_happensIn : MethodName := ⟨RX10, "happensIn", "(III)V"⟩
abbrev cX10_happens : ByteArray := prog_12_method_48_code
def yX10_happens : MethodName := ⟨RX10, "happens", "(I)I"⟩
abbrev cX10_lives : ByteArray := prog_12_method_49_code
def yX10_lives : MethodName := ⟨RX10, "lives", "(I)I"⟩
abbrev cX10_discount : ByteArray := prog_12_method_50_code
def yX10_discount : MethodName := ⟨RX10, "discount", "(I)I"⟩
abbrev cX10_annuity : ByteArray := prog_12_method_51_code
def yX10_annuity : MethodName := ⟨RX10, "annuity", "(III)J"⟩
abbrev cX10_own : ByteArray := prog_12_method_52_code
def yX10_own : MethodName := ⟨RX10, "own", "(I)J"⟩
abbrev cX10_worthIn : ByteArray := prog_12_method_53_code
def yX10_worthIn : MethodName := ⟨RX10, "worthIn", "(IIJ)J"⟩
abbrev cX10_worthOfSpouse : ByteArray := prog_12_method_54_code
def yX10_worthOfSpouse : MethodName := ⟨RX10, "worthOfSpouse", "(II)J"⟩
abbrev cX10_worthOfAll : ByteArray := prog_12_method_55_code
def yX10_worthOfAll : MethodName := ⟨RX10, "worthOfAll", "(I)J"⟩
abbrev cX10_hasWorth : ByteArray := prog_12_method_56_code
def yX10_hasWorth : MethodName := ⟨RX10, "hasWorth", "(II)Z"⟩
abbrev cX10_worth : ByteArray := prog_12_method_57_code
def yX10_worth : MethodName := ⟨RX10, "worth", "(II)J"⟩
abbrev cX10_claimBest : ByteArray := prog_12_method_58_code
def yX10_claimBest : MethodName := ⟨RX10, "claimBest", "(I)I"⟩
abbrev cX10_half : ByteArray := prog_12_method_59_code
def yX10_half : MethodName := ⟨RX10, "half", "(I)I"⟩
abbrev cX10_keeps : ByteArray := prog_12_method_60_code
def yX10_keeps : MethodName := ⟨RX10, "keeps", "([I)V"⟩
abbrev cX10_lastService : ByteArray := prog_12_method_61_code
def yX10_lastService : MethodName := ⟨RX10, "lastService", "()I"⟩
abbrev cX10_canRetire : ByteArray := prog_12_method_62_code
def yX10_canRetire : MethodName := ⟨RX10, "canRetire", "(I)Z"⟩
abbrev cX10_placeOf : ByteArray := prog_12_method_63_code
def yX10_placeOf : MethodName := ⟨RX10, "placeOf", "(III)I"⟩
abbrev cX10_set : ByteArray := prog_12_method_64_code
def yX10_set : MethodName := ⟨RX10, "set", "(III)Z"⟩
abbrev cX10_undo : ByteArray := prog_12_method_65_code
def yX10_undo : MethodName := ⟨RX10, "undo", "()I"⟩
abbrev cX10_four : ByteArray := prog_12_method_66_code
def yX10_four : MethodName := ⟨RX10, "four", "(I)V"⟩
abbrev cX10_feed : ByteArray := prog_12_method_67_code
def yX10_feed : MethodName := ⟨RX10, "feed", "(IIIII)I"⟩
abbrev cX10_end : ByteArray := prog_12_method_68_code
def yX10_end : MethodName := ⟨RX10, "end", "(I)Z"⟩
abbrev cX10_here : ByteArray := prog_12_method_69_code
def yX10_here : MethodName := ⟨RX10, "here", "()I"⟩
abbrev cX10_fails : ByteArray := prog_12_method_70_code
def yX10_fails : MethodName := ⟨RX10, "fails", "(II)Z"⟩
abbrev cX10_number : ByteArray := prog_12_method_71_code
def yX10_number : MethodName := ⟨RX10, "number", "(III)Z"⟩
abbrev cX10_month : ByteArray := prog_12_method_72_code
def yX10_month : MethodName := ⟨RX10, "month", "(I)Z"⟩
abbrev cX10_readWord : ByteArray := prog_12_method_73_code
def yX10_readWord : MethodName := ⟨RX10, "readWord", "()J"⟩
abbrev cX10_ends : ByteArray := prog_12_method_74_code
def yX10_ends : MethodName := ⟨RX10, "ends", "()Z"⟩
abbrev cX10_readServe : ByteArray := prog_12_method_75_code
def yX10_readServe : MethodName := ⟨RX10, "readServe", "(I)Z"⟩
abbrev cX10_readWed : ByteArray := prog_12_method_76_code
def yX10_readWed : MethodName := ⟨RX10, "readWed", "(I)Z"⟩
abbrev cX10_readPart : ByteArray := prog_12_method_77_code
def yX10_readPart : MethodName := ⟨RX10, "readPart", "(I)Z"⟩
abbrev cX10_readLives : ByteArray := prog_12_method_78_code
def yX10_readLives : MethodName := ⟨RX10, "readLives", "(I)Z"⟩
abbrev cX10_readOfSpouse : ByteArray := prog_12_method_79_code
def yX10_readOfSpouse : MethodName := ⟨RX10, "readOfSpouse", "(II)Z"⟩
abbrev cX10_readOne : ByteArray := prog_12_method_80_code
def yX10_readOne : MethodName := ⟨RX10, "readOne", "(II)Z"⟩
abbrev cX10_readBorn : ByteArray := prog_12_method_81_code
def yX10_readBorn : MethodName := ⟨RX10, "readBorn", "()Z"⟩
abbrev cX10_termOf : ByteArray := prog_12_method_82_code
def yX10_termOf : MethodName := ⟨RX10, "termOf", "(J)I"⟩
abbrev cX10_readStatement : ByteArray := prog_12_method_83_code
def yX10_readStatement : MethodName := ⟨RX10, "readStatement", "()Z"⟩
abbrev cX10_tell : ByteArray := prog_12_method_84_code
def yX10_tell : MethodName := ⟨RX10, "tell", "()I"⟩
abbrev cX10_fault : ByteArray := prog_12_method_85_code
def yX10_fault : MethodName := ⟨RX10, "fault", "()I"⟩
def RJx145de : String := "java/io/Serializable"
def TJx145de : u_T := fun k => match k with
  | _ => ("", "", "", false)
def tyJx145de : Nat → FieldType := fun k => match k with
  | _ => .int
theorem tyJx145de_ok : ∀ k, k < 0 → parseFieldDescriptor (TJx145de k).2.2.1 = some (tyJx145de k) := by decide +kernel
def RJx9f9b0 : String := "java/lang/CharSequence"
def TJx9f9b0 : u_T := fun k => match k with
  | _ => ("", "", "", false)
def tyJx9f9b0 : Nat → FieldType := fun k => match k with
  | _ => .int
theorem tyJx9f9b0_ok : ∀ k, k < 0 → parseFieldDescriptor (TJx9f9b0 k).2.2.1 = some (tyJx9f9b0 k) := by decide +kernel
def RJxb160c : String := "java/lang/Comparable"
def TJxb160c : u_T := fun k => match k with
  | _ => ("", "", "", false)
def tyJxb160c : Nat → FieldType := fun k => match k with
  | _ => .int
theorem tyJxb160c_ok : ∀ k, k < 0 → parseFieldDescriptor (TJxb160c k).2.2.1 = some (tyJxb160c k) := by decide +kernel
def RJx29ce0 : String := "java/lang/Enum"
def TJx29ce0 : u_T := fun k => match k with
  | _ => ("", "", "", false)
def tyJx29ce0 : Nat → FieldType := fun k => match k with
  | _ => .int
theorem tyJx29ce0_ok : ∀ k, k < 0 → parseFieldDescriptor (TJx29ce0 k).2.2.1 = some (tyJx29ce0 k) := by decide +kernel
abbrev cJx29ce0_ordinal_8abf5 : ByteArray := prog_16_method_2_code
def yJx29ce0_ordinal_8abf5 : MethodName := ⟨RJx29ce0, "ordinal", "()I"⟩
def RJ9 : String := "java/lang/Math"
def TJ9 : u_T := fun k => match k with
  | _ => ("", "", "", false)
def tyJ9 : Nat → FieldType := fun k => match k with
  | _ => .int
theorem tyJ9_ok : ∀ k, k < 0 → parseFieldDescriptor (TJ9 k).2.2.1 = some (tyJ9 k) := by decide +kernel
abbrev cJ9_max_7cf53 : ByteArray := prog_18_method_65_code
def yJ9_max_7cf53 : MethodName := ⟨RJ9, "max", "(II)I"⟩
abbrev cJ9_min_f86c9 : ByteArray := prog_18_method_70_code
def yJ9_min_f86c9 : MethodName := ⟨RJ9, "min", "(JJ)J"⟩
def RJ0 : String := "java/lang/String"
def TJ0 : u_T := fun k => match k with
  | _ => ("", "", "", false)
def tyJ0 : Nat → FieldType := fun k => match k with
  | _ => .int
theorem tyJ0_ok : ∀ k, k < 0 → parseFieldDescriptor (TJ0 k).2.2.1 = some (tyJ0 k) := by decide +kernel
abbrev cJ0_length_8abf5 : ByteArray := prog_20_method_54_code
def yJ0_length_8abf5 : MethodName := ⟨RJ0, "length", "()I"⟩
abbrev cJ0_charAt_5068e : ByteArray := prog_20_method_56_code
def yJ0_charAt_5068e : MethodName := ⟨RJ0, "charAt", "(I)C"⟩
abbrev cJ0_coder_7d493 : ByteArray := prog_20_method_152_code
def yJ0_coder_7d493 : MethodName := ⟨RJ0, "coder", "()B"⟩
abbrev cJ0_isLatin1_aae02 : ByteArray := prog_20_method_154_code
def yJ0_isLatin1_aae02 : MethodName := ⟨RJ0, "isLatin1", "()Z"⟩
abbrev cJ0_checkIndex_df160 : ByteArray := prog_20_method_155_code
def yJ0_checkIndex_df160 : MethodName := ⟨RJ0, "checkIndex", "(II)V"⟩
def RJ1 : String := "java/lang/StringLatin1"
def TJ1 : u_T := fun k => match k with
  | _ => ("", "", "", false)
def tyJ1 : Nat → FieldType := fun k => match k with
  | _ => .int
theorem tyJ1_ok : ∀ k, k < 0 → parseFieldDescriptor (TJ1 k).2.2.1 = some (tyJ1 k) := by decide +kernel
abbrev cJ1_charAt_3b067 : ByteArray := prog_21_method_2_code
def yJ1_charAt_3b067 : MethodName := ⟨RJ1, "charAt", "([BI)C"⟩
def RJ2 : String := "java/lang/StringUTF16"
def TJ2 : u_T := fun k => match k with
  | _ => ("", "", "", false)
def tyJ2 : Nat → FieldType := fun k => match k with
  | _ => .int
theorem tyJ2_ok : ∀ k, k < 0 → parseFieldDescriptor (TJ2 k).2.2.1 = some (tyJ2 k) := by decide +kernel
abbrev cJ2_getChar_3b067 : ByteArray := prog_22_method_5_code
def yJ2_getChar_3b067 : MethodName := ⟨RJ2, "getChar", "([BI)C"⟩
abbrev cJ2_length_9d52b : ByteArray := prog_22_method_6_code
def yJ2_length_9d52b : MethodName := ⟨RJ2, "length", "([B)I"⟩
abbrev cJ2_charAt_3b067 : ByteArray := prog_22_method_83_code
def yJ2_charAt_3b067 : MethodName := ⟨RJ2, "charAt", "([BI)C"⟩
abbrev cJ2_checkIndex_2214a : ByteArray := prog_22_method_91_code
def yJ2_checkIndex_2214a : MethodName := ⟨RJ2, "checkIndex", "(I[B)V"⟩
def RJxfd54e : String := "java/lang/constant/Constable"
def TJxfd54e : u_T := fun k => match k with
  | _ => ("", "", "", false)
def tyJxfd54e : Nat → FieldType := fun k => match k with
  | _ => .int
theorem tyJxfd54e_ok : ∀ k, k < 0 → parseFieldDescriptor (TJxfd54e k).2.2.1 = some (tyJxfd54e k) := by decide +kernel
def RJx3cf43 : String := "java/lang/constant/ConstantDesc"
def TJx3cf43 : u_T := fun k => match k with
  | _ => ("", "", "", false)
def tyJx3cf43 : Nat → FieldType := fun k => match k with
  | _ => .int
theorem tyJx3cf43_ok : ∀ k, k < 0 → parseFieldDescriptor (TJx3cf43 k).2.2.1 = some (tyJx3cf43 k) := by decide +kernel
def RJ3 : String := "jdk/internal/util/Preconditions"
def TJ3 : u_T := fun k => match k with
  | _ => ("", "", "", false)
def tyJ3 : Nat → FieldType := fun k => match k with
  | _ => .int
theorem tyJ3_ok : ∀ k, k < 0 → parseFieldDescriptor (TJ3 k).2.2.1 = some (tyJ3 k) := by decide +kernel
abbrev cJ3_checkIndex_8e157 : ByteArray := prog_27_method_11_code
def yJ3_checkIndex_8e157 : MethodName := ⟨RJ3, "checkIndex", "(IILjava/util/function/BiFunction;)I"⟩
def RL : String := "PartedPensionLaw"
abbrev cL_span : ByteArray := method_3_code
def yL_span : MethodName := ⟨RL, "span", "(LPartedPension;II[J)I"⟩
abbrev cL_spouse : ByteArray := method_4_code
def yL_spouse : MethodName := ⟨RL, "spouse", "(LPartedPension;II[J)I"⟩
abbrev cL_law : ByteArray := code
def yL_law : MethodName := ⟨RL, "law", "([I)Z"⟩
abbrev vwCl : List vw_C := [(RX1, TX1, 2), (RX2, TX2, 3), (RX3, TX3, 10), (RX4, TX4, 8), (RX5, TX5, 6), (RX6, TX6, 3), (RX7, TX7, 9), (RX8, TX8, 0), (RX9, TX9, 8), (RX10, TX10, 22)]
end
section
/-! ===== a logic over the kit's W: an abstract heap, a judgement that holds in every heap that holds it ===== -/
abbrev pz_E : Type := (Nat × List Value) ⊕ (Nat × Nat × ((Nat → Int32) ⊕ (Nat → Int64) ⊕ (Nat → Option Nat)))
/-- cells by address; addresses of what statics and constants refer to; the heap's size -/
abbrev pz_H : Type := (Nat → Option pz_E) × (Nat → Nat) × Nat
/-- classes' numbers and slots; array classes' numbers; the heap at the law's start; static cells; static addresses; what else the tables say -/
abbrev pz_G : Type := va_G × (Nat → ClassId) × Heap × (Nat → Option pz_E) × (Nat → Nat) × (State → Prop)
abbrev pz_C : Type := Program × Launch × Env × Room × State × MethodId × Array Value × List Frame × Method × Code
abbrev pz_z (G : pz_G) : Nat := G.2.2.1.size
abbrev pz_R (C : pz_C) : Room := C.2.2.2.1
abbrev pz_s (C : pz_C) : State := C.2.2.2.2.1
abbrev pz_m (C : pz_C) : MethodId := C.2.2.2.2.2.1
abbrev pz_as (C : pz_C) : Array Value := C.2.2.2.2.2.2.1
abbrev pz_bl (C : pz_C) : List Frame := C.2.2.2.2.2.2.2.1
abbrev pz_me (C : pz_C) : Method := C.2.2.2.2.2.2.2.2.1
abbrev pz_co (C : pz_C) : Code := C.2.2.2.2.2.2.2.2.2
def pz_A (G : pz_G) : Nat → Prop := fun q => pz_z G ≤ q
def pz_e (G : pz_G) : pz_E → va_E := fun e => match e with
  | .inl o => .inr o
  | .inr (t, n, .inl g) => .inl (G.2.1 t, n, .inl g)
  | .inr (t, n, .inr (.inl g)) => .inl (G.2.1 t, n, .inr (.inl g))
  | .inr (t, n, .inr (.inr g)) => .inl (G.2.1 t, n, .inr (.inr (.inr (.inr g))))
abbrev pz_tys (G : pz_G) : List (ClassId × FieldType) := [(G.2.1 0, .int), (G.2.1 1, .long), (G.2.1 2, .byte), (G.2.1 3, .object "PartedPension$Span"), (G.2.1 4, .object "PartedPension$Spouse"), (G.2.1 5, .object "PartedPension$Plan")]
/-- the heap H holds f -/
def pz_dy : pz_E → Prop := fun e => match e with
  | .inl (ci, _) => ci < 100
  | .inr (t, _, _) => t < 10
def pz_D (G : pz_G) (f : pz_H) (H : Heap) : Prop := f.2.1 = G.2.2.2.2.1 ∧ f.2.2 = H.size ∧ pz_z G ≤ H.size ∧ (∀ a, a < pz_z G → f.1 a = G.2.2.2.1 a) ∧ (∀ a e, pz_z G ≤ a → f.1 a = some e → pz_dy e ∧ va_at G.1 vwCl (a, pz_e G e) H) ∧ ∀ a : Nat, a < pz_z G → H[a]? = G.2.2.1[a]?
/-- words that stay true when the tables grow warmer -/
def pz_wk : Cond → Bool
  | .fieldLinkNest _ _ _ _ _ _ => true
  | .methodLinkNest _ _ _ _ => true
  | w => goodWord w
/-- static cells: classes of constant objects, by 100 and 101: their fields -/
def pz_sT (ci k : Nat) : String × String × String := match ci, k with
  | 100, 0 => ("PartedPension$Verb", "word", "Ljava/lang/String;")
  | 100, 1 => ("PartedPension$Verb", "first", "I")
  | 100, 2 => ("PartedPension$Verb", "second", "I")
  | 100, 3 => ("PartedPension$Verb", "third", "I")
  | 100, 4 => ("PartedPension$Verb", "fourth", "I")
  | 100, _ => ("java/lang/Enum", "ordinal", "I")
  | 101, 0 => ("java/lang/String", "value", "[B")
  | _, _ => ("java/lang/String", "coder", "B")
def pz_sC (ci : Nat) : String := if ci = 100 then "PartedPension$Verb" else "java/lang/String"
def pz_sty (t : Nat) : FieldType := if t = 10 then .int else if t = 11 then .object "PartedPension$Verb" else .byte
def pz_sat (G : pz_G) (U : State) (a : Nat) : pz_E → Prop := fun e => match e with
  | .inl (ci, fs) => 100 ≤ ci ∧ va_O (pz_sC ci) a (pz_A G) U G.2.2.1 ∧ ∀ (k : Nat) (v : Value), fs[k]? = some v → va_OF (pz_sT ci k).1 (pz_sT ci k).2.1 (pz_sT ci k).2.2 v a (pz_A G) U G.2.2.1
  | .inr (t, n, .inl g) => 10 ≤ t ∧ va_T (pz_sty t) a n (fun j => .int (g j)) (pz_A G) U G.2.2.1
  | .inr (_, _, .inr (.inl _)) => False
  | .inr (t, n, .inr (.inr g)) => 10 ≤ t ∧ va_T (pz_sty t) a n (fun j => va_rf (g j)) (pz_A G) U G.2.2.1
/-- the statics that are read: number, class, name, descriptor -/
def pz_sF : List (String × String × String) := [("PartedPension", "TERMS_AT_FIRST", "[I"), ("PartedPension", "SLOT_LEAST", "[I"), ("PartedPension", "SLOT_MOST", "[I"), ("PartedPension$1", "$SwitchMap$PartedPension$Verb", "[I"), ("PartedPension$Verb", "ALL", "[LPartedPension$Verb;")]
/-- the String constants that are read: class, entry, text; their addresses stand behind those of the statics -/
def pz_sK : List (String × Nat × String) := [("PartedPension$Reader", 88, "shared"), ("PartedPension$Reader", 94, "apart")]
/-- the JDK's int statics that are read -/
def pz_sJ : List (String × String × String × Int32) := [("java/lang/String", "COMPACT_STRINGS", "Z", 1)]
def pz_ST (G : pz_G) (U : State) : Prop :=
  (∀ a e, a < pz_z G → G.2.2.2.1 a = some e → pz_sat G U a e) ∧
  (∀ (i : Nat) (q : String × String × String), pz_sF[i]? = some q → va_Z q.1 q.2.1 q.2.2 (.ref (G.2.2.2.2.1 i)) (pz_A G) U G.2.2.1) ∧
  (∀ (i : Nat) (q : String × Nat × String), pz_sK[i]? = some q → vk_R q.1 q.2.1 q.2.2 (G.2.2.2.2.1 (5 + i)) U) ∧
  (∀ (i : Nat) (q : String × String × String × Int32), pz_sJ[i]? = some q → va_Z q.1 q.2.1 q.2.2.1 (.int q.2.2.2) (pz_A G) U G.2.2.1) ∧
  va_Zq "jdk/internal/util/Preconditions" "SIOOBE_FORMATTER" "Ljava/util/function/BiFunction;" (pz_A G) U G.2.2.1
/-- what the tables say -/
def pz_T (G : pz_G) (U : State) : Prop := (∀ w ∈ lw_tbl, pz_wk w = true → va_Nw w U) ∧ va_K G.1 vwCl (pz_tys G) U ∧ pz_ST G U ∧ (∀ i : Nat, 3 ≤ i → i < 6 → ∀ q, (pz_tys G)[i]? = some q → ∀ C : String, q.2 = .object C → va_AO C U) ∧ G.2.2.2.2.2 U ∧ ∀ u V : State, u.WarmedH V.vm → G.2.2.2.2.2 u → G.2.2.2.2.2 V
theorem pz_wk.use {w : Cond} (h : pz_wk w = true) {s U : State} (hW : s.WarmedH U.vm) {A A' : Array Value} (hb : w.before A s = true) : w.before A' U = true := by
  cases w
  case fieldLinkNest => exact va_Nw.use rfl (va_Nw.warmF hW (va_Nw.of rfl hb))
  case methodLinkNest => exact va_Nw.use rfl (va_Nw.warmM hW (va_Nw.of rfl hb))
  all_goals exact word_at hW (good_of_word h) hb
theorem pz_T.wd {G : pz_G} {U : State} (h : pz_T G U) {w : Cond} (hm : w ∈ lw_tbl) (hk : pz_wk w = true) (A : Array Value) : w.before A U = true := pz_wk.use hk (State.WarmedH.refl U) (h.1 w hm hk)
theorem pz_T.ww {G : pz_G} {s U : State} (h : pz_T G s) (hW : s.WarmedH U.vm) {w : Cond} (hm : w ∈ lw_tbl) (hk : pz_wk w = true) (A : Array Value) : w.before A U = true := pz_wk.use hk hW (h.1 w hm hk)
theorem pz_sat.moved {G : pz_G} {u U : State} {a : Nat} {e : pz_E} (hvm : u.vm.Alike U.vm) (h : pz_sat G u a e) : pz_sat G U a e := by
  rcases e with ⟨ci, fs⟩ | ⟨t, n, g | g | g⟩
  · exact ⟨h.1, va_O.moved hvm h.2.1, fun k v hk => va_OF.moved hvm (h.2.2 k v hk)⟩
  · exact ⟨h.1, va_T.moved hvm h.2⟩
  · exact h
  · exact ⟨h.1, va_T.moved hvm h.2⟩
theorem pz_T.warm {G : pz_G} {s U : State} (h : pz_T G s) (hW : s.WarmedH U.vm) : pz_T G U :=
  ⟨fun w hm hk => pz_wk.use hk hW (h.1 w hm hk), va_K.moved hW.alike h.2.1, ⟨fun a e ha he => pz_sat.moved hW.alike (h.2.2.1.1 a e ha he), fun i q hq => va_Z.moved hW.alike (h.2.2.1.2.1 i q hq), fun i q hq => vk_R.warm hW (h.2.2.1.2.2.1 i q hq), fun i q hq => va_Z.moved hW.alike (h.2.2.1.2.2.2.1 i q hq), va_Zq.moved hW.alike h.2.2.1.2.2.2.2⟩, fun i h3 h6 q hq C hC => va_AO.moved hW.alike (h.2.2.2.1 i h3 h6 q hq C hC), h.2.2.2.2.2 s U hW h.2.2.2.2.1, h.2.2.2.2.2⟩
theorem pz_T.same {G : pz_G} {s U : State} (h : pz_T G s) (hv : U.vm = s.vm) : pz_T G U := h.warm (by rw [hv]; exact State.WarmedH.refl s)
/-- what stands fast in a method's walk -/
def pz_OK (G : pz_G) (C : pz_C) (cc : ByteArray) (nL : Nat) (own : String) : Prop := C.1.tables.exec = Jvm.exec ∧ (pz_co C).code = cc ∧ (pz_co C).maxLocals = nL ∧ (pz_s C).vm.findClass own = some (pz_m C).cls ∧ (pz_me C).locks = false ∧ pz_T G (pz_s C)
def pz_W (G : pz_G) (C : pz_C) (nL : Nat) (pc : Nat) (lv : List (Nat × Value)) (st : List Value) (f : pz_H) (n k : Nat) (Q : State → Prop) : Prop :=
  ∀ (H : Heap) (locs : List Loc) (ls : Array Slot), pz_D G f H → (∀ q ∈ locs, pz_A G q.base) → lv_has ls nL lv → W C.1 C.2.1 C.2.2.1 (pz_R C) (pz_s C) (pz_m C) (pz_as C) (pz_bl C) (pz_me C) (pz_co C) H locs n k Q (F0 (pz_m C) pc ls st)
/-- an instruction stands at pc, the next one at pc' -/
def pz_d (cc : ByteArray) (pc len pc' : Nat) (i : Instr) : Prop := decode cc pc = .ok (i, len) ∧ pc + len = pc'
/-- likewise, of a jump to tgt -/
def pz_j (cc : ByteArray) (pc pc' tgt : Nat) (i : Instr) (off : Int) : Prop := decode cc pc = .ok (i, 3) ∧ pc + 3 = pc' ∧ (pc : Int) + off = (tgt : Int)
section PZ
variable {G : pz_G} {C : pz_C} {cc : ByteArray} {nL : Nat} {own : String} {pc pc' : Nat} {lv lv' : List (Nat × Value)} {st : List Value} {f : pz_H} {n k : Nat} {Q : State → Prop}
theorem pz_sub (ks : List Nat) (hl : lv_pick lv ks = lv') (kk : pz_W G C nL pc lv' st f n k Q) : pz_W G C nL pc lv st f n k Q := fun H locs ls hD hF h => kk H locs ls hD hF (lv_sub h ks hl)
theorem pz_widen {n' k' : Nat} (h1 : n ≤ n') (h2 : k ≤ k') (kk : pz_W G C nL pc lv st f n' k' Q) : pz_W G C nL pc lv st f n k Q := fun H locs ls hD hF h => W.widen h1 h2 (kk H locs ls hD hF h)
theorem pz_iconst {i : Int} {v : Int32} (hC : pz_OK G C cc nL own) (d : pz_d cc pc 1 pc' (.iconst i)) (hv : Int32.ofInt i = v) (kk : pz_W G C nL pc' lv (.int v :: st) f n k Q) : pz_W G C nL pc lv st f n k Q := by
  intro H locs ls hD hF hl
  obtain ⟨d1, rfl⟩ := d
  exact lv_iconst hC.1 hC.2.1 d1 hv (kk H locs ls hD hF hl)
theorem pz_bipush {i : Int} {v : Int32} (hC : pz_OK G C cc nL own) (d : pz_d cc pc 2 pc' (.bipush i)) (hv : (Int8.ofInt i).toInt32 = v) (kk : pz_W G C nL pc' lv (.int v :: st) f n k Q) : pz_W G C nL pc lv st f n k Q := by
  intro H locs ls hD hF hl
  obtain ⟨d1, rfl⟩ := d
  exact lv_bipush hC.1 hC.2.1 d1 hv (kk H locs ls hD hF hl)
theorem pz_sipush {i : Int} {v : Int32} (hC : pz_OK G C cc nL own) (d : pz_d cc pc 3 pc' (.sipush i)) (hv : (Int16.ofInt i).toInt32 = v) (kk : pz_W G C nL pc' lv (.int v :: st) f n k Q) : pz_W G C nL pc lv st f n k Q := by
  intro H locs ls hD hF hl
  obtain ⟨d1, rfl⟩ := d
  exact lv_sipush hC.1 hC.2.1 d1 hv (kk H locs ls hD hF hl)
theorem pz_lconst {i : Fin 2} {v : Int64} (hC : pz_OK G C cc nL own) (d : pz_d cc pc 1 pc' (.lconst i)) (hv : Int64.ofNat (i : Nat) = v) (kk : pz_W G C nL pc' lv (.long v :: st) f n k Q) : pz_W G C nL pc lv st f n k Q := by
  intro H locs ls hD hF hl
  obtain ⟨d1, rfl⟩ := d
  exact lv_lconst hC.1 hC.2.1 d1 hv (kk H locs ls hD hF hl)
theorem pz_null  (hC : pz_OK G C cc nL own) (d : pz_d cc pc 1 pc' (.aconst_null))  (kk : pz_W G C nL pc' lv (.null :: st) f n k Q) : pz_W G C nL pc lv st f n k Q := by
  intro H locs ls hD hF hl
  obtain ⟨d1, rfl⟩ := d
  exact lv_null hC.1 hC.2.1 d1 (kk H locs ls hD hF hl)
theorem pz_iload_n {j : Fin 4} {x : Int32} (hC : pz_OK G C cc nL own) (d : pz_d cc pc 1 pc' (.iload_n j)) (q : Nat) (hk : lv[q]? = some ((j : Nat), .int x)) (kk : pz_W G C nL pc' lv (.int x :: st) f n k Q) : pz_W G C nL pc lv st f n k Q := by
  intro H locs ls hD hF hl
  obtain ⟨d1, rfl⟩ := d
  exact lv_iload_n hC.1 hC.2.1 d1 rfl (lv_at hl q hk) (kk H locs ls hD hF hl)
theorem pz_iload {j : Nat} {x : Int32} (hC : pz_OK G C cc nL own) (d : pz_d cc pc 2 pc' (.iload j)) (q : Nat) (hk : lv[q]? = some (j, .int x)) (kk : pz_W G C nL pc' lv (.int x :: st) f n k Q) : pz_W G C nL pc lv st f n k Q := by
  intro H locs ls hD hF hl
  obtain ⟨d1, rfl⟩ := d
  exact lv_iload hC.1 hC.2.1 d1 (lv_at hl q hk) (kk H locs ls hD hF hl)
theorem pz_lload_n {j : Fin 4} {x : Int64} (hC : pz_OK G C cc nL own) (d : pz_d cc pc 1 pc' (.lload_n j)) (q : Nat) (hk : lv[q]? = some ((j : Nat), .long x)) (kk : pz_W G C nL pc' lv (.long x :: st) f n k Q) : pz_W G C nL pc lv st f n k Q := by
  intro H locs ls hD hF hl
  obtain ⟨d1, rfl⟩ := d
  exact lv_lload_n hC.1 hC.2.1 d1 rfl (lv_at hl q hk) (kk H locs ls hD hF hl)
theorem pz_lload {j : Nat} {x : Int64} (hC : pz_OK G C cc nL own) (d : pz_d cc pc 2 pc' (.lload j)) (q : Nat) (hk : lv[q]? = some (j, .long x)) (kk : pz_W G C nL pc' lv (.long x :: st) f n k Q) : pz_W G C nL pc lv st f n k Q := by
  intro H locs ls hD hF hl
  obtain ⟨d1, rfl⟩ := d
  exact lv_lload hC.1 hC.2.1 d1 (lv_at hl q hk) (kk H locs ls hD hF hl)
theorem pz_aload_n {j : Fin 4} {x : Nat} (hC : pz_OK G C cc nL own) (d : pz_d cc pc 1 pc' (.aload_n j)) (q : Nat) (hk : lv[q]? = some ((j : Nat), .ref x)) (kk : pz_W G C nL pc' lv (.ref x :: st) f n k Q) : pz_W G C nL pc lv st f n k Q := by
  intro H locs ls hD hF hl
  obtain ⟨d1, rfl⟩ := d
  exact lv_aload_n hC.1 hC.2.1 d1 rfl (lv_at hl q hk) (kk H locs ls hD hF hl)
theorem pz_aload {j : Nat} {x : Nat} (hC : pz_OK G C cc nL own) (d : pz_d cc pc 2 pc' (.aload j)) (q : Nat) (hk : lv[q]? = some (j, .ref x)) (kk : pz_W G C nL pc' lv (.ref x :: st) f n k Q) : pz_W G C nL pc lv st f n k Q := by
  intro H locs ls hD hF hl
  obtain ⟨d1, rfl⟩ := d
  exact lv_aload hC.1 hC.2.1 d1 (lv_at hl q hk) (kk H locs ls hD hF hl)
theorem pz_aload_nN {j : Fin 4} (hC : pz_OK G C cc nL own) (d : pz_d cc pc 1 pc' (.aload_n j)) (q : Nat) (hk : lv[q]? = some ((j : Nat), .null)) (kk : pz_W G C nL pc' lv (.null :: st) f n k Q) : pz_W G C nL pc lv st f n k Q := by
  intro H locs ls hD hF hl
  obtain ⟨d1, rfl⟩ := d
  exact lv_aload_nN hC.1 hC.2.1 d1 rfl (lv_at hl q hk) (kk H locs ls hD hF hl)
theorem pz_aloadN {j : Nat} (hC : pz_OK G C cc nL own) (d : pz_d cc pc 2 pc' (.aload j)) (q : Nat) (hk : lv[q]? = some (j, .null)) (kk : pz_W G C nL pc' lv (.null :: st) f n k Q) : pz_W G C nL pc lv st f n k Q := by
  intro H locs ls hD hF hl
  obtain ⟨d1, rfl⟩ := d
  exact lv_aloadN hC.1 hC.2.1 d1 (lv_at hl q hk) (kk H locs ls hD hF hl)
theorem pz_istore_n {j : Fin 4} {x : Int32} (hC : pz_OK G C cc nL own) (d : pz_d cc pc 1 pc' (.istore_n j)) (hn : (j : Nat) < nL) (hl' : ((j : Nat), Value.int x) :: lv.filter (fun q => !(q.1 == (j : Nat)) && !(q.1 + 1 == (j : Nat) && q.2.category == 2)) = lv') (kk : pz_W G C nL pc' lv' st f n k Q) : pz_W G C nL pc lv (Value.int x :: st) f n k Q := by
  intro H locs ls hD hF hl
  obtain ⟨d1, rfl⟩ := d
  exact lv_istore_n hC.1 hC.2.1 d1 rfl hl hn hl' (fun ls hl => kk H locs ls hD hF hl)
theorem pz_istore {j : Nat} {x : Int32} (hC : pz_OK G C cc nL own) (d : pz_d cc pc 2 pc' (.istore j)) (hn : j < nL) (hl' : (j, Value.int x) :: lv.filter (fun q => !(q.1 == j) && !(q.1 + 1 == j && q.2.category == 2)) = lv') (kk : pz_W G C nL pc' lv' st f n k Q) : pz_W G C nL pc lv (Value.int x :: st) f n k Q := by
  intro H locs ls hD hF hl
  obtain ⟨d1, rfl⟩ := d
  exact lv_istore hC.1 hC.2.1 d1 hl hn hl' (fun ls hl => kk H locs ls hD hF hl)
theorem pz_lstore_n {j : Fin 4} {x : Int64} (hC : pz_OK G C cc nL own) (d : pz_d cc pc 1 pc' (.lstore_n j)) (hn : (j : Nat) + 1 < nL) (hl' : ((j : Nat), Value.long x) :: lv.filter (fun q => !(q.1 == (j : Nat)) && (!(q.1 == (j : Nat) + 1) && !(q.1 + 1 == (j : Nat) && q.2.category == 2))) = lv') (kk : pz_W G C nL pc' lv' st f n k Q) : pz_W G C nL pc lv (Value.long x :: st) f n k Q := by
  intro H locs ls hD hF hl
  obtain ⟨d1, rfl⟩ := d
  exact lv_lstore_n hC.1 hC.2.1 d1 rfl hl hn hl' (fun ls hl => kk H locs ls hD hF hl)
theorem pz_lstore {j : Nat} {x : Int64} (hC : pz_OK G C cc nL own) (d : pz_d cc pc 2 pc' (.lstore j)) (hn : j + 1 < nL) (hl' : (j, Value.long x) :: lv.filter (fun q => !(q.1 == j) && (!(q.1 == j + 1) && !(q.1 + 1 == j && q.2.category == 2))) = lv') (kk : pz_W G C nL pc' lv' st f n k Q) : pz_W G C nL pc lv (Value.long x :: st) f n k Q := by
  intro H locs ls hD hF hl
  obtain ⟨d1, rfl⟩ := d
  exact lv_lstore hC.1 hC.2.1 d1 hl hn hl' (fun ls hl => kk H locs ls hD hF hl)
theorem pz_astore_n {j : Fin 4} {x : Nat} (hC : pz_OK G C cc nL own) (d : pz_d cc pc 1 pc' (.astore_n j)) (hn : (j : Nat) < nL) (hl' : ((j : Nat), Value.ref x) :: lv.filter (fun q => !(q.1 == (j : Nat)) && !(q.1 + 1 == (j : Nat) && q.2.category == 2)) = lv') (kk : pz_W G C nL pc' lv' st f n k Q) : pz_W G C nL pc lv (Value.ref x :: st) f n k Q := by
  intro H locs ls hD hF hl
  obtain ⟨d1, rfl⟩ := d
  exact lv_astore_n hC.1 hC.2.1 d1 rfl hl hn hl' (fun ls hl => kk H locs ls hD hF hl)
theorem pz_astore {j : Nat} {x : Nat} (hC : pz_OK G C cc nL own) (d : pz_d cc pc 2 pc' (.astore j)) (hn : j < nL) (hl' : (j, Value.ref x) :: lv.filter (fun q => !(q.1 == j) && !(q.1 + 1 == j && q.2.category == 2)) = lv') (kk : pz_W G C nL pc' lv' st f n k Q) : pz_W G C nL pc lv (Value.ref x :: st) f n k Q := by
  intro H locs ls hD hF hl
  obtain ⟨d1, rfl⟩ := d
  exact lv_astore hC.1 hC.2.1 d1 hl hn hl' (fun ls hl => kk H locs ls hD hF hl)
theorem pz_astore_nN {j : Fin 4} (hC : pz_OK G C cc nL own) (d : pz_d cc pc 1 pc' (.astore_n j)) (hn : (j : Nat) < nL) (hl' : ((j : Nat), Value.null) :: lv.filter (fun q => !(q.1 == (j : Nat)) && !(q.1 + 1 == (j : Nat) && q.2.category == 2)) = lv') (kk : pz_W G C nL pc' lv' st f n k Q) : pz_W G C nL pc lv (Value.null :: st) f n k Q := by
  intro H locs ls hD hF hl
  obtain ⟨d1, rfl⟩ := d
  exact lv_astore_nN hC.1 hC.2.1 d1 rfl hl hn hl' (fun ls hl => kk H locs ls hD hF hl)
theorem pz_astoreN {j : Nat} (hC : pz_OK G C cc nL own) (d : pz_d cc pc 2 pc' (.astore j)) (hn : j < nL) (hl' : (j, Value.null) :: lv.filter (fun q => !(q.1 == j) && !(q.1 + 1 == j && q.2.category == 2)) = lv') (kk : pz_W G C nL pc' lv' st f n k Q) : pz_W G C nL pc lv (Value.null :: st) f n k Q := by
  intro H locs ls hD hF hl
  obtain ⟨d1, rfl⟩ := d
  exact lv_astoreN hC.1 hC.2.1 d1 hl hn hl' (fun ls hl => kk H locs ls hD hF hl)
theorem pz_iinc {j : Nat} {i : Int} {x v : Int32} (hC : pz_OK G C cc nL own) (d : pz_d cc pc 3 pc' (.iinc j i)) (q : Nat) (hk : lv[q]? = some (j, .int x)) (hv : x + Int32.ofInt i = v) (hn : j < nL) (hl' : (j, Value.int v) :: lv.filter (fun q => !(q.1 == j) && !(q.1 + 1 == j && q.2.category == 2)) = lv') (kk : pz_W G C nL pc' lv' st f n k Q) : pz_W G C nL pc lv st f n k Q := by
  intro H locs ls hD hF hl
  obtain ⟨d1, rfl⟩ := d
  exact lv_iinc hC.1 hC.2.1 d1 hl hk hv hn hl' (fun ls hl => kk H locs ls hD hF hl)
theorem pz_iadd {x y : Int32} (hC : pz_OK G C cc nL own) (d : pz_d cc pc 1 pc' (.iadd))  (kk : pz_W G C nL pc' lv (.int (x + y) :: st) f n k Q) : pz_W G C nL pc lv (.int y :: .int x :: st) f n k Q := by
  intro H locs ls hD hF hl
  obtain ⟨d1, rfl⟩ := d
  exact lv_iadd hC.1 hC.2.1 d1 (kk H locs ls hD hF hl)
theorem pz_isub {x y : Int32} (hC : pz_OK G C cc nL own) (d : pz_d cc pc 1 pc' (.isub))  (kk : pz_W G C nL pc' lv (.int (x - y) :: st) f n k Q) : pz_W G C nL pc lv (.int y :: .int x :: st) f n k Q := by
  intro H locs ls hD hF hl
  obtain ⟨d1, rfl⟩ := d
  exact lv_isub hC.1 hC.2.1 d1 (kk H locs ls hD hF hl)
theorem pz_imul {x y : Int32} (hC : pz_OK G C cc nL own) (d : pz_d cc pc 1 pc' (.imul))  (kk : pz_W G C nL pc' lv (.int (x * y) :: st) f n k Q) : pz_W G C nL pc lv (.int y :: .int x :: st) f n k Q := by
  intro H locs ls hD hF hl
  obtain ⟨d1, rfl⟩ := d
  exact lv_imul hC.1 hC.2.1 d1 (kk H locs ls hD hF hl)
theorem pz_iand {x y : Int32} (hC : pz_OK G C cc nL own) (d : pz_d cc pc 1 pc' (.iand))  (kk : pz_W G C nL pc' lv (.int (x &&& y) :: st) f n k Q) : pz_W G C nL pc lv (.int y :: .int x :: st) f n k Q := by
  intro H locs ls hD hF hl
  obtain ⟨d1, rfl⟩ := d
  exact lv_iand hC.1 hC.2.1 d1 (kk H locs ls hD hF hl)
theorem pz_ladd {x y : Int64} (hC : pz_OK G C cc nL own) (d : pz_d cc pc 1 pc' (.ladd))  (kk : pz_W G C nL pc' lv (.long (x + y) :: st) f n k Q) : pz_W G C nL pc lv (.long y :: .long x :: st) f n k Q := by
  intro H locs ls hD hF hl
  obtain ⟨d1, rfl⟩ := d
  exact lv_ladd hC.1 hC.2.1 d1 (kk H locs ls hD hF hl)
theorem pz_lsub {x y : Int64} (hC : pz_OK G C cc nL own) (d : pz_d cc pc 1 pc' (.lsub))  (kk : pz_W G C nL pc' lv (.long (x - y) :: st) f n k Q) : pz_W G C nL pc lv (.long y :: .long x :: st) f n k Q := by
  intro H locs ls hD hF hl
  obtain ⟨d1, rfl⟩ := d
  exact lv_lsub hC.1 hC.2.1 d1 (kk H locs ls hD hF hl)
theorem pz_lmul {x y : Int64} (hC : pz_OK G C cc nL own) (d : pz_d cc pc 1 pc' (.lmul))  (kk : pz_W G C nL pc' lv (.long (x * y) :: st) f n k Q) : pz_W G C nL pc lv (.long y :: .long x :: st) f n k Q := by
  intro H locs ls hD hF hl
  obtain ⟨d1, rfl⟩ := d
  exact lv_lmul hC.1 hC.2.1 d1 (kk H locs ls hD hF hl)
theorem pz_ishr {x y : Int32} (hC : pz_OK G C cc nL own) (d : pz_d cc pc 1 pc' (.ishr))  (kk : pz_W G C nL pc' lv (.int (x >>> (y &&& 31)) :: st) f n k Q) : pz_W G C nL pc lv (.int y :: .int x :: st) f n k Q := by
  intro H locs ls hD hF hl
  obtain ⟨d1, rfl⟩ := d
  exact lv_ishr hC.1 hC.2.1 d1 (kk H locs ls hD hF hl)
theorem pz_idiv {α : Type} {x y : Int32} {F : Option α} {r : α} (hC : pz_OK G C cc nL own) (d : pz_d cc pc 1 pc' .idiv) (hf : (if y = 0 then none else F) = some r) (kk : F = some r → pz_W G C nL pc' lv (.int (x / y) :: st) f n k Q) : pz_W G C nL pc lv (.int y :: .int x :: st) f n k Q := by
  intro H locs ls hD hF hl
  obtain ⟨d1, rfl⟩ := d
  by_cases h0 : y = 0
  · rw [if_pos h0] at hf; cases hf
  · rw [if_neg h0] at hf
    exact lv_idiv hC.1 hC.2.1 d1 h0 (kk hf H locs ls hD hF hl)
theorem pz_idivc {x y : Int32} (hC : pz_OK G C cc nL own) (d : pz_d cc pc 1 pc' .idiv) (h0 : ¬ y = 0) (kk : pz_W G C nL pc' lv (.int (x / y) :: st) f n k Q) : pz_W G C nL pc lv (.int y :: .int x :: st) f n k Q := by
  intro H locs ls hD hF hl
  obtain ⟨d1, rfl⟩ := d
  exact lv_idiv hC.1 hC.2.1 d1 h0 (kk H locs ls hD hF hl)
theorem pz_irem {α : Type} {x y : Int32} {F : Option α} {r : α} (hC : pz_OK G C cc nL own) (d : pz_d cc pc 1 pc' .irem) (hf : (if y = 0 then none else F) = some r) (kk : F = some r → pz_W G C nL pc' lv (.int (x - x / y * y) :: st) f n k Q) : pz_W G C nL pc lv (.int y :: .int x :: st) f n k Q := by
  intro H locs ls hD hF hl
  obtain ⟨d1, rfl⟩ := d
  by_cases h0 : y = 0
  · rw [if_pos h0] at hf; cases hf
  · rw [if_neg h0] at hf
    exact lv_irem hC.1 hC.2.1 d1 h0 (kk hf H locs ls hD hF hl)
theorem pz_iremc {x y : Int32} (hC : pz_OK G C cc nL own) (d : pz_d cc pc 1 pc' .irem) (h0 : ¬ y = 0) (kk : pz_W G C nL pc' lv (.int (x - x / y * y) :: st) f n k Q) : pz_W G C nL pc lv (.int y :: .int x :: st) f n k Q := by
  intro H locs ls hD hF hl
  obtain ⟨d1, rfl⟩ := d
  exact lv_irem hC.1 hC.2.1 d1 h0 (kk H locs ls hD hF hl)
theorem pz_ldiv {α : Type} {x y : Int64} {F : Option α} {r : α} (hC : pz_OK G C cc nL own) (d : pz_d cc pc 1 pc' .ldiv) (hf : (if y = 0 then none else F) = some r) (kk : F = some r → pz_W G C nL pc' lv (.long (x / y) :: st) f n k Q) : pz_W G C nL pc lv (.long y :: .long x :: st) f n k Q := by
  intro H locs ls hD hF hl
  obtain ⟨d1, rfl⟩ := d
  by_cases h0 : y = 0
  · rw [if_pos h0] at hf; cases hf
  · rw [if_neg h0] at hf
    exact lv_ldiv hC.1 hC.2.1 d1 h0 (kk hf H locs ls hD hF hl)
theorem pz_ldivc {x y : Int64} (hC : pz_OK G C cc nL own) (d : pz_d cc pc 1 pc' .ldiv) (h0 : ¬ y = 0) (kk : pz_W G C nL pc' lv (.long (x / y) :: st) f n k Q) : pz_W G C nL pc lv (.long y :: .long x :: st) f n k Q := by
  intro H locs ls hD hF hl
  obtain ⟨d1, rfl⟩ := d
  exact lv_ldiv hC.1 hC.2.1 d1 h0 (kk H locs ls hD hF hl)
theorem pz_i2l {x : Int32} (hC : pz_OK G C cc nL own) (d : pz_d cc pc 1 pc' (.i2l))  (kk : pz_W G C nL pc' lv (.long x.toInt64 :: st) f n k Q) : pz_W G C nL pc lv (.int x :: st) f n k Q := by
  intro H locs ls hD hF hl
  obtain ⟨d1, rfl⟩ := d
  exact lv_i2l hC.1 hC.2.1 d1 rfl (kk H locs ls hD hF hl)
theorem pz_l2i {x : Int64} (hC : pz_OK G C cc nL own) (d : pz_d cc pc 1 pc' (.l2i))  (kk : pz_W G C nL pc' lv (.int x.toInt32 :: st) f n k Q) : pz_W G C nL pc lv (.long x :: st) f n k Q := by
  intro H locs ls hD hF hl
  obtain ⟨d1, rfl⟩ := d
  exact lv_l2i hC.1 hC.2.1 d1 rfl (kk H locs ls hD hF hl)
theorem pz_i2b {x : Int32} (hC : pz_OK G C cc nL own) (d : pz_d cc pc 1 pc' (.i2b))  (kk : pz_W G C nL pc' lv (.int x.toInt8.toInt32 :: st) f n k Q) : pz_W G C nL pc lv (.int x :: st) f n k Q := by
  intro H locs ls hD hF hl
  obtain ⟨d1, rfl⟩ := d
  exact lv_i2b hC.1 hC.2.1 d1 rfl (kk H locs ls hD hF hl)
theorem pz_iushr {x y : Int32} (hC : pz_OK G C cc nL own) (d : pz_d cc pc 1 pc' (.iushr))  (kk : pz_W G C nL pc' lv (.int (x.toUInt32 >>> (y.toUInt32 &&& Int32.toUInt32 31)).toInt32 :: st) f n k Q) : pz_W G C nL pc lv (.int y :: .int x :: st) f n k Q := by
  intro H locs ls hD hF hl
  obtain ⟨d1, rfl⟩ := d
  exact lv_iushr hC.1 hC.2.1 d1 rfl (kk H locs ls hD hF hl)
theorem pz_lcmp {x y : Int64} (hC : pz_OK G C cc nL own) (d : pz_d cc pc 1 pc' (.lcmp))  (kk : pz_W G C nL pc' lv (.int (lg_cmp x y) :: st) f n k Q) : pz_W G C nL pc lv (.long y :: .long x :: st) f n k Q := by
  intro H locs ls hD hF hl
  obtain ⟨d1, rfl⟩ := d
  exact W.lcmp hC.1 hC.2.1 d1 (kk H locs ls hD hF hl)
theorem pz_dup {v : Value} (hC : pz_OK G C cc nL own) (d : pz_d cc pc 1 pc' (.dup)) (hv : v.category = 1) (kk : pz_W G C nL pc' lv (v :: v :: st) f n k Q) : pz_W G C nL pc lv (v :: st) f n k Q := by
  intro H locs ls hD hF hl
  obtain ⟨d1, rfl⟩ := d
  exact lv_dup hC.1 hC.2.1 d1 hv (kk H locs ls hD hF hl)
theorem pz_dup2 {u v : Value} (hC : pz_OK G C cc nL own) (d : pz_d cc pc 1 pc' (.dup2)) (hu : u.category = 1) (hv : v.category = 1) (kk : pz_W G C nL pc' lv (u :: v :: u :: v :: st) f n k Q) : pz_W G C nL pc lv (u :: v :: st) f n k Q := by
  intro H locs ls hD hF hl
  obtain ⟨d1, rfl⟩ := d
  exact lv_dup2_11 hC.1 hC.2.1 d1 hu hv (kk H locs ls hD hF hl)
theorem pz_if_eq {α : Type} {x : Int32} {A B : Option α} {r : α} {tgt : Nat} {off : Int} (hC : pz_OK G C cc nL own) (d : pz_j cc pc pc' tgt (.ifCond .eq off) off) (hf : (if x = 0 then A else B) = some r) (kt : x = 0 → A = some r → pz_W G C nL tgt lv st f n k Q) (kf : ¬ x = 0 → B = some r → pz_W G C nL pc' lv st f n k Q) : pz_W G C nL pc lv (.int x :: st) f n k Q := by
  intro H locs ls hD hF hl
  obtain ⟨d1, rfl, ht⟩ := d
  exact lv_if_eq hC.1 hC.2.1 d1 ht (fun c => kt c (by rw [if_pos c] at hf; exact hf) H locs ls hD hF hl) (fun c => kf c (by rw [if_neg c] at hf; exact hf) H locs ls hD hF hl)
theorem pz_if_ne {α : Type} {x : Int32} {A B : Option α} {r : α} {tgt : Nat} {off : Int} (hC : pz_OK G C cc nL own) (d : pz_j cc pc pc' tgt (.ifCond .ne off) off) (hf : (if x = 0 then A else B) = some r) (kt : ¬ x = 0 → B = some r → pz_W G C nL tgt lv st f n k Q) (kf : x = 0 → A = some r → pz_W G C nL pc' lv st f n k Q) : pz_W G C nL pc lv (.int x :: st) f n k Q := by
  intro H locs ls hD hF hl
  obtain ⟨d1, rfl, ht⟩ := d
  exact lv_if_ne hC.1 hC.2.1 d1 ht (fun c => kt c (by rw [if_neg c] at hf; exact hf) H locs ls hD hF hl) (fun c => kf c (by rw [if_pos c] at hf; exact hf) H locs ls hD hF hl)
theorem pz_if_lt {α : Type} {x : Int32} {A B : Option α} {r : α} {tgt : Nat} {off : Int} (hC : pz_OK G C cc nL own) (d : pz_j cc pc pc' tgt (.ifCond .lt off) off) (hf : (if x < 0 then A else B) = some r) (kt : x < 0 → A = some r → pz_W G C nL tgt lv st f n k Q) (kf : ¬ x < 0 → B = some r → pz_W G C nL pc' lv st f n k Q) : pz_W G C nL pc lv (.int x :: st) f n k Q := by
  intro H locs ls hD hF hl
  obtain ⟨d1, rfl, ht⟩ := d
  exact lv_if_lt hC.1 hC.2.1 d1 ht (fun c => kt c (by rw [if_pos c] at hf; exact hf) H locs ls hD hF hl) (fun c => kf c (by rw [if_neg c] at hf; exact hf) H locs ls hD hF hl)
theorem pz_if_ge {α : Type} {x : Int32} {A B : Option α} {r : α} {tgt : Nat} {off : Int} (hC : pz_OK G C cc nL own) (d : pz_j cc pc pc' tgt (.ifCond .ge off) off) (hf : (if 0 ≤ x then A else B) = some r) (kt : 0 ≤ x → A = some r → pz_W G C nL tgt lv st f n k Q) (kf : ¬ 0 ≤ x → B = some r → pz_W G C nL pc' lv st f n k Q) : pz_W G C nL pc lv (.int x :: st) f n k Q := by
  intro H locs ls hD hF hl
  obtain ⟨d1, rfl, ht⟩ := d
  exact lv_if_ge hC.1 hC.2.1 d1 ht (fun c => kt c (by rw [if_pos c] at hf; exact hf) H locs ls hD hF hl) (fun c => kf c (by rw [if_neg c] at hf; exact hf) H locs ls hD hF hl)
theorem pz_if_gt {α : Type} {x : Int32} {A B : Option α} {r : α} {tgt : Nat} {off : Int} (hC : pz_OK G C cc nL own) (d : pz_j cc pc pc' tgt (.ifCond .gt off) off) (hf : (if 0 < x then A else B) = some r) (kt : 0 < x → A = some r → pz_W G C nL tgt lv st f n k Q) (kf : ¬ 0 < x → B = some r → pz_W G C nL pc' lv st f n k Q) : pz_W G C nL pc lv (.int x :: st) f n k Q := by
  intro H locs ls hD hF hl
  obtain ⟨d1, rfl, ht⟩ := d
  exact lv_if_gt hC.1 hC.2.1 d1 ht (fun c => kt c (by rw [if_pos c] at hf; exact hf) H locs ls hD hF hl) (fun c => kf c (by rw [if_neg c] at hf; exact hf) H locs ls hD hF hl)
theorem pz_if_le {α : Type} {x : Int32} {A B : Option α} {r : α} {tgt : Nat} {off : Int} (hC : pz_OK G C cc nL own) (d : pz_j cc pc pc' tgt (.ifCond .le off) off) (hf : (if x ≤ 0 then A else B) = some r) (kt : x ≤ 0 → A = some r → pz_W G C nL tgt lv st f n k Q) (kf : ¬ x ≤ 0 → B = some r → pz_W G C nL pc' lv st f n k Q) : pz_W G C nL pc lv (.int x :: st) f n k Q := by
  intro H locs ls hD hF hl
  obtain ⟨d1, rfl, ht⟩ := d
  exact lv_if_le hC.1 hC.2.1 d1 ht (fun c => kt c (by rw [if_pos c] at hf; exact hf) H locs ls hD hF hl) (fun c => kf c (by rw [if_neg c] at hf; exact hf) H locs ls hD hF hl)
theorem pz_icmp_eq {α : Type} {x y : Int32} {A B : Option α} {r : α} {tgt : Nat} {off : Int} (hC : pz_OK G C cc nL own) (d : pz_j cc pc pc' tgt (.if_icmp .eq off) off) (hf : (if x = y then A else B) = some r) (kt : x = y → A = some r → pz_W G C nL tgt lv st f n k Q) (kf : ¬ x = y → B = some r → pz_W G C nL pc' lv st f n k Q) : pz_W G C nL pc lv (.int y :: .int x :: st) f n k Q := by
  intro H locs ls hD hF hl
  obtain ⟨d1, rfl, ht⟩ := d
  exact lv_icmp_eq hC.1 hC.2.1 d1 ht (fun c => kt c (by rw [if_pos c] at hf; exact hf) H locs ls hD hF hl) (fun c => kf c (by rw [if_neg c] at hf; exact hf) H locs ls hD hF hl)
theorem pz_icmp_ne {α : Type} {x y : Int32} {A B : Option α} {r : α} {tgt : Nat} {off : Int} (hC : pz_OK G C cc nL own) (d : pz_j cc pc pc' tgt (.if_icmp .ne off) off) (hf : (if x = y then A else B) = some r) (kt : ¬ x = y → B = some r → pz_W G C nL tgt lv st f n k Q) (kf : x = y → A = some r → pz_W G C nL pc' lv st f n k Q) : pz_W G C nL pc lv (.int y :: .int x :: st) f n k Q := by
  intro H locs ls hD hF hl
  obtain ⟨d1, rfl, ht⟩ := d
  exact lv_icmp_ne hC.1 hC.2.1 d1 ht (fun c => kt c (by rw [if_neg c] at hf; exact hf) H locs ls hD hF hl) (fun c => kf c (by rw [if_pos c] at hf; exact hf) H locs ls hD hF hl)
theorem pz_icmp_lt {α : Type} {x y : Int32} {A B : Option α} {r : α} {tgt : Nat} {off : Int} (hC : pz_OK G C cc nL own) (d : pz_j cc pc pc' tgt (.if_icmp .lt off) off) (hf : (if x < y then A else B) = some r) (kt : x < y → A = some r → pz_W G C nL tgt lv st f n k Q) (kf : ¬ x < y → B = some r → pz_W G C nL pc' lv st f n k Q) : pz_W G C nL pc lv (.int y :: .int x :: st) f n k Q := by
  intro H locs ls hD hF hl
  obtain ⟨d1, rfl, ht⟩ := d
  exact lv_icmp_lt hC.1 hC.2.1 d1 ht (fun c => kt c (by rw [if_pos c] at hf; exact hf) H locs ls hD hF hl) (fun c => kf c (by rw [if_neg c] at hf; exact hf) H locs ls hD hF hl)
theorem pz_icmp_ge {α : Type} {x y : Int32} {A B : Option α} {r : α} {tgt : Nat} {off : Int} (hC : pz_OK G C cc nL own) (d : pz_j cc pc pc' tgt (.if_icmp .ge off) off) (hf : (if y ≤ x then A else B) = some r) (kt : y ≤ x → A = some r → pz_W G C nL tgt lv st f n k Q) (kf : ¬ y ≤ x → B = some r → pz_W G C nL pc' lv st f n k Q) : pz_W G C nL pc lv (.int y :: .int x :: st) f n k Q := by
  intro H locs ls hD hF hl
  obtain ⟨d1, rfl, ht⟩ := d
  exact lv_icmp_ge hC.1 hC.2.1 d1 ht (fun c => kt c (by rw [if_pos c] at hf; exact hf) H locs ls hD hF hl) (fun c => kf c (by rw [if_neg c] at hf; exact hf) H locs ls hD hF hl)
theorem pz_icmp_gt {α : Type} {x y : Int32} {A B : Option α} {r : α} {tgt : Nat} {off : Int} (hC : pz_OK G C cc nL own) (d : pz_j cc pc pc' tgt (.if_icmp .gt off) off) (hf : (if y < x then A else B) = some r) (kt : y < x → A = some r → pz_W G C nL tgt lv st f n k Q) (kf : ¬ y < x → B = some r → pz_W G C nL pc' lv st f n k Q) : pz_W G C nL pc lv (.int y :: .int x :: st) f n k Q := by
  intro H locs ls hD hF hl
  obtain ⟨d1, rfl, ht⟩ := d
  exact lv_icmp_gt hC.1 hC.2.1 d1 ht (fun c => kt c (by rw [if_pos c] at hf; exact hf) H locs ls hD hF hl) (fun c => kf c (by rw [if_neg c] at hf; exact hf) H locs ls hD hF hl)
theorem pz_icmp_le {α : Type} {x y : Int32} {A B : Option α} {r : α} {tgt : Nat} {off : Int} (hC : pz_OK G C cc nL own) (d : pz_j cc pc pc' tgt (.if_icmp .le off) off) (hf : (if x ≤ y then A else B) = some r) (kt : x ≤ y → A = some r → pz_W G C nL tgt lv st f n k Q) (kf : ¬ x ≤ y → B = some r → pz_W G C nL pc' lv st f n k Q) : pz_W G C nL pc lv (.int y :: .int x :: st) f n k Q := by
  intro H locs ls hD hF hl
  obtain ⟨d1, rfl, ht⟩ := d
  exact lv_icmp_le hC.1 hC.2.1 d1 ht (fun c => kt c (by rw [if_pos c] at hf; exact hf) H locs ls hD hF hl) (fun c => kf c (by rw [if_neg c] at hf; exact hf) H locs ls hD hF hl)
theorem pz_goto {tgt : Nat} {off : Int} (hC : pz_OK G C cc nL own) (d : pz_j cc pc pc' tgt (.goto off) off) (kk : pz_W G C nL tgt lv st f n k Q) : pz_W G C nL pc lv st f n k Q := by
  intro H locs ls hD hF hl
  obtain ⟨d1, rfl, ht⟩ := d
  exact lv_goto hC.1 hC.2.1 d1 ht (kk H locs ls hD hF hl)
theorem pz_ifnonnull {x tgt : Nat} {off : Int} (hC : pz_OK G C cc nL own) (d : pz_j cc pc pc' tgt (.ifnonnull off) off) (kk : pz_W G C nL tgt lv st f n k Q) : pz_W G C nL pc lv (.ref x :: st) f n k Q := by
  intro H locs ls hD hF hl
  obtain ⟨d1, rfl, ht⟩ := d
  exact lv_ifnonnull hC.1 hC.2.1 d1 ht (kk H locs ls hD hF hl)
theorem pz_ifnonnullN {tgt : Nat} {off : Int} (hC : pz_OK G C cc nL own) (d : pz_j cc pc pc' tgt (.ifnonnull off) off) (kk : pz_W G C nL pc' lv st f n k Q) : pz_W G C nL pc lv (.null :: st) f n k Q := by
  intro H locs ls hD hF hl
  obtain ⟨d1, rfl, ht⟩ := d
  exact lv_ifnonnullN hC.1 hC.2.1 d1 (kk H locs ls hD hF hl)
theorem pz_ldc {i : Nat} {v : Int32} (hC : pz_OK G C cc nL own) (d : pz_d cc pc 2 pc' (.ldc i)) (hw : Cond.constant own i v ∈ lw_tbl) (kk : pz_W G C nL pc' lv (.int v :: st) f n k Q) : pz_W G C nL pc lv st f n k Q := by
  intro H locs ls hD hF hl
  obtain ⟨d1, rfl⟩ := d
  exact lv_ldc hC.1 hC.2.1 hC.2.2.2.1 (hC.2.2.2.2.2.wd hw rfl _) d1 (kk H locs ls hD hF hl)
theorem pz_ldc2 {i : Nat} {v : Int64} (hC : pz_OK G C cc nL own) (d : pz_d cc pc 3 pc' (.ldc2_w i)) (hw : Cond.constantLong own i v ∈ lw_tbl) (kk : pz_W G C nL pc' lv (.long v :: st) f n k Q) : pz_W G C nL pc lv st f n k Q := by
  intro H locs ls hD hF hl
  obtain ⟨d1, rfl⟩ := d
  exact lv_ldc2 hC.1 hC.2.1 hC.2.2.2.1 (hC.2.2.2.2.2.wd hw rfl _) d1 (kk H locs ls hD hF hl)
end PZ
end
section
/-! ===== pure reads and writes of the abstract heap ===== -/
def pz_up (f : pz_H) (a : Nat) (e : pz_E) : pz_H := (va_up f.1 a (some e), f.2)
def pz_nw (f : pz_H) (e : pz_E) : pz_H := (va_up f.1 f.2.2 (some e), f.2.1, f.2.2 + 1)
def pz_is (f : pz_H) (a ci : Nat) : Option Unit := match f.1 a with
  | some (.inl (c, _)) => if c = ci then some () else none
  | _ => none
def pz_gV (f : pz_H) (a ci j : Nat) : Option Value := match f.1 a with
  | some (.inl (c, fs)) => if c = ci then fs[j]? else none
  | _ => none
def pz_gI (f : pz_H) (a ci j : Nat) : Option Int32 := match pz_gV f a ci j with
  | some (.int v) => some v
  | _ => none
def pz_gR (f : pz_H) (a ci j : Nat) : Option Nat := match pz_gV f a ci j with
  | some (.ref q) => some q
  | _ => none
def pz_sV (f : pz_H) (a ci j : Nat) (v : Value) : Option pz_H := match f.1 a with
  | some (.inl (c, fs)) => if c = ci ∧ j < fs.length then some (pz_up f a (.inl (c, fs.set j v))) else none
  | _ => none
def pz_ok (i : Int32) (n : Nat) : Prop := ¬ (i < 0 ∨ n ≤ i.toNatClampNeg)
def pz_aI (f : pz_H) (a t : Nat) (i : Int32) : Option Int32 := match f.1 a with
  | some (.inr (t', n, .inl g)) => if t' = t ∧ ¬ (i < 0 ∨ n ≤ i.toNatClampNeg) then some (g i.toNatClampNeg) else none
  | _ => none
def pz_aL (f : pz_H) (a t : Nat) (i : Int32) : Option Int64 := match f.1 a with
  | some (.inr (t', n, .inr (.inl g))) => if t' = t ∧ ¬ (i < 0 ∨ n ≤ i.toNatClampNeg) then some (g i.toNatClampNeg) else none
  | _ => none
def pz_aR (f : pz_H) (a t : Nat) (i : Int32) : Option Nat := match f.1 a with
  | some (.inr (t', n, .inr (.inr g))) => if t' = t ∧ ¬ (i < 0 ∨ n ≤ i.toNatClampNeg) then g i.toNatClampNeg else none
  | _ => none
def pz_tI (f : pz_H) (a t : Nat) (i : Int32) (x : Int32) : Option pz_H := match f.1 a with
  | some (.inr (t', n, .inl g)) => if t' = t ∧ ¬ (i < 0 ∨ n ≤ i.toNatClampNeg) then some (pz_up f a (.inr (t, n, .inl (upd g i.toNatClampNeg x)))) else none
  | _ => none
def pz_tL (f : pz_H) (a t : Nat) (i : Int32) (x : Int64) : Option pz_H := match f.1 a with
  | some (.inr (t', n, .inr (.inl g))) => if t' = t ∧ ¬ (i < 0 ∨ n ≤ i.toNatClampNeg) then some (pz_up f a (.inr (t, n, .inr (.inl (vp_updL g i.toNatClampNeg x))))) else none
  | _ => none
def pz_tR (f : pz_H) (a t ci : Nat) (i : Int32) (x : Nat) : Option pz_H := match f.1 a with
  | some (.inr (t', n, .inr (.inr g))) => if t' = t ∧ ¬ (i < 0 ∨ n ≤ i.toNatClampNeg) ∧ pz_is f x ci = some () then some (pz_up f a (.inr (t, n, .inr (.inr (va_up g i.toNatClampNeg (some x)))))) else none
  | _ => none
def pz_ln (f : pz_H) (a t : Nat) : Option Int32 := match f.1 a with
  | some (.inr (t', n, _)) => if t' = t then some (Int32.ofNat n) else none
  | _ => none
/-- a boolean's int -/
def pz_b (x : Int32) : Option Int32 := if x &&& 1 = x then some x else none
theorem pz_bd {α β : Type} {F : Option α} {g : α → Option β} {r : β} (h : F.bind g = some r) : ∃ x, F = some x ∧ g x = some r := Option.bind_eq_some_iff.mp h
theorem pz_is_of {f : pz_H} {a ci : Nat} (h : pz_is f a ci = some ()) : ∃ fs, f.1 a = some (.inl (ci, fs)) := by
  unfold pz_is at h
  split at h
  · rename_i c fs h1
    by_cases hc : c = ci
    · subst hc; exact ⟨fs, h1⟩
    · rw [if_neg hc] at h; cases h
  · cases h
theorem pz_gV_of {f : pz_H} {a ci j : Nat} {v : Value} (h : pz_gV f a ci j = some v) : ∃ fs, f.1 a = some (.inl (ci, fs)) ∧ fs[j]? = some v := by
  unfold pz_gV at h
  split at h
  · rename_i c fs h1
    by_cases hc : c = ci
    · subst hc; rw [if_pos rfl] at h; exact ⟨fs, h1, h⟩
    · rw [if_neg hc] at h; cases h
  · cases h
theorem pz_gI_of {f : pz_H} {a ci j : Nat} {v : Int32} (h : pz_gI f a ci j = some v) : pz_gV f a ci j = some (.int v) := by
  unfold pz_gI at h
  split at h
  · rename_i x h1; cases h; exact h1
  · cases h
theorem pz_gR_of {f : pz_H} {a ci j : Nat} {v : Nat} (h : pz_gR f a ci j = some v) : pz_gV f a ci j = some (.ref v) := by
  unfold pz_gR at h
  split at h
  · rename_i x h1; cases h; exact h1
  · cases h
theorem pz_sV_of {f f' : pz_H} {a ci j : Nat} {v : Value} (h : pz_sV f a ci j v = some f') : ∃ fs, f.1 a = some (.inl (ci, fs)) ∧ j < fs.length ∧ f' = pz_up f a (.inl (ci, fs.set j v)) := by
  unfold pz_sV at h
  split at h
  · rename_i c fs h1
    by_cases hc : c = ci ∧ j < fs.length
    · obtain ⟨rfl, h2⟩ := hc; rw [if_pos ⟨rfl, h2⟩] at h; cases h; exact ⟨fs, h1, h2, rfl⟩
    · rw [if_neg hc] at h; cases h
  · cases h
theorem pz_aI_of {f : pz_H} {a t : Nat} {i v : Int32} (h : pz_aI f a t i = some v) : ∃ n g, f.1 a = some (.inr (t, n, .inl g)) ∧ vp_in i n ∧ v = g i.toNatClampNeg := by
  unfold pz_aI at h
  split at h
  · rename_i t' n g h1
    by_cases hc : t' = t ∧ ¬ (i < 0 ∨ n ≤ i.toNatClampNeg)
    · obtain ⟨rfl, h2⟩ := hc; rw [if_pos ⟨rfl, h2⟩] at h; cases h; exact ⟨n, g, h1, h2, rfl⟩
    · rw [if_neg hc] at h; cases h
  · cases h
theorem pz_aL_of {f : pz_H} {a t : Nat} {i : Int32} {v : Int64} (h : pz_aL f a t i = some v) : ∃ n g, f.1 a = some (.inr (t, n, .inr (.inl g))) ∧ vp_in i n ∧ v = g i.toNatClampNeg := by
  unfold pz_aL at h
  split at h
  · rename_i t' n g h1
    by_cases hc : t' = t ∧ ¬ (i < 0 ∨ n ≤ i.toNatClampNeg)
    · obtain ⟨rfl, h2⟩ := hc; rw [if_pos ⟨rfl, h2⟩] at h; cases h; exact ⟨n, g, h1, h2, rfl⟩
    · rw [if_neg hc] at h; cases h
  · cases h
theorem pz_aR_of {f : pz_H} {a t : Nat} {i : Int32} {v : Nat} (h : pz_aR f a t i = some v) : ∃ n g, f.1 a = some (.inr (t, n, .inr (.inr g))) ∧ vp_in i n ∧ g i.toNatClampNeg = some v := by
  unfold pz_aR at h
  split at h
  · rename_i t' n g h1
    by_cases hc : t' = t ∧ ¬ (i < 0 ∨ n ≤ i.toNatClampNeg)
    · obtain ⟨rfl, h2⟩ := hc; rw [if_pos ⟨rfl, h2⟩] at h; exact ⟨n, g, h1, h2, h⟩
    · rw [if_neg hc] at h; cases h
  · cases h
theorem pz_tI_of {f f' : pz_H} {a t : Nat} {i x : Int32} (h : pz_tI f a t i x = some f') : ∃ n g, f.1 a = some (.inr (t, n, .inl g)) ∧ vp_in i n ∧ f' = pz_up f a (.inr (t, n, .inl (upd g i.toNatClampNeg x))) := by
  unfold pz_tI at h
  split at h
  · rename_i t' n g h1
    by_cases hc : t' = t ∧ ¬ (i < 0 ∨ n ≤ i.toNatClampNeg)
    · obtain ⟨rfl, h2⟩ := hc; rw [if_pos ⟨rfl, h2⟩] at h; cases h; exact ⟨n, g, h1, h2, rfl⟩
    · rw [if_neg hc] at h; cases h
  · cases h
theorem pz_tL_of {f f' : pz_H} {a t : Nat} {i : Int32} {x : Int64} (h : pz_tL f a t i x = some f') : ∃ n g, f.1 a = some (.inr (t, n, .inr (.inl g))) ∧ vp_in i n ∧ f' = pz_up f a (.inr (t, n, .inr (.inl (vp_updL g i.toNatClampNeg x)))) := by
  unfold pz_tL at h
  split at h
  · rename_i t' n g h1
    by_cases hc : t' = t ∧ ¬ (i < 0 ∨ n ≤ i.toNatClampNeg)
    · obtain ⟨rfl, h2⟩ := hc; rw [if_pos ⟨rfl, h2⟩] at h; cases h; exact ⟨n, g, h1, h2, rfl⟩
    · rw [if_neg hc] at h; cases h
  · cases h
theorem pz_tR_of {f f' : pz_H} {a t ci : Nat} {i : Int32} {x : Nat} (h : pz_tR f a t ci i x = some f') : ∃ n g, f.1 a = some (.inr (t, n, .inr (.inr g))) ∧ vp_in i n ∧ pz_is f x ci = some () ∧ f' = pz_up f a (.inr (t, n, .inr (.inr (va_up g i.toNatClampNeg (some x))))) := by
  unfold pz_tR at h
  split at h
  · rename_i t' n g h1
    by_cases hc : t' = t ∧ ¬ (i < 0 ∨ n ≤ i.toNatClampNeg) ∧ pz_is f x ci = some ()
    · obtain ⟨rfl, h2, h3⟩ := hc; rw [if_pos ⟨rfl, h2, h3⟩] at h; cases h; exact ⟨n, g, h1, h2, h3, rfl⟩
    · rw [if_neg hc] at h; cases h
  · cases h
theorem pz_ln_of {f : pz_H} {a t : Nat} {v : Int32} (h : pz_ln f a t = some v) : ∃ n g, f.1 a = some (.inr (t, n, g)) ∧ v = Int32.ofNat n := by
  unfold pz_ln at h
  split at h
  · rename_i t' n g h1
    by_cases hc : t' = t
    · subst hc; rw [if_pos rfl] at h; cases h; exact ⟨n, g, h1, rfl⟩
    · rw [if_neg hc] at h; cases h
  · cases h
/-! ===== the heap that holds it ===== -/
theorem pz_D.dyn {G : pz_G} {f : pz_H} {H : Heap} {U : State} {a ci : Nat} {fs : List Value} (hD : pz_D G f H) (hT : pz_T G U) (h : f.1 a = some (.inl (ci, fs))) (hc : ci < 100) : pz_z G ≤ a ∧ va_at G.1 vwCl (a, .inr (ci, fs)) H := by
  by_cases ha : a < pz_z G
  · have h1 := hT.2.2.1.1 a _ ha (by rw [← hD.2.2.2.1 a ha]; exact h)
    exact absurd h1.1 (by omega)
  · exact ⟨by omega, (hD.2.2.2.2.1 a _ (by omega) h).2⟩
theorem pz_D.dynA {G : pz_G} {f : pz_H} {H : Heap} {U : State} {a t n : Nat} {g : (Nat → Int32) ⊕ (Nat → Int64) ⊕ (Nat → Option Nat)} (hD : pz_D G f H) (hT : pz_T G U) (h : f.1 a = some (.inr (t, n, g))) (hc : t < 10) : pz_z G ≤ a ∧ va_at G.1 vwCl (a, pz_e G (.inr (t, n, g))) H := by
  by_cases ha : a < pz_z G
  · have h1 := hT.2.2.1.1 a _ ha (by rw [← hD.2.2.2.1 a ha]; exact h)
    rcases g with g | g | g
    · exact absurd h1.1 (by omega)
    · exact absurd h1 id
    · exact absurd h1.1 (by omega)
  · exact ⟨by omega, (hD.2.2.2.2.1 a _ (by omega) h).2⟩
theorem pz_D.one {G : pz_G} {H : Heap} {a : Nat} {e : va_E} (h : va_at G.1 vwCl (a, e) H) : va_P G.1 vwCl [(a, e)] H := by
  intro k q hk
  match k, hk with
  | 0, hk => cases hk; exact h
  | k + 1, hk => simp at hk
theorem pz_D.set {G : pz_G} {f : pz_H} {H H1 : Heap} {a : Nat} {e : pz_E} (hD : pz_D G f H) (ha : pz_z G ≤ a) (hdy : pz_dy e) (he : va_at G.1 vwCl (a, pz_e G e) H1) (hz : H1.size = H.size) (hq : ∀ q, q ≠ a → H1[q]? = H[q]?) : pz_D G (pz_up f a e) H1 := by
  obtain ⟨h1, h2, h3, h4, h5, h6⟩ := hD
  refine ⟨h1, by rw [hz]; exact h2, by rw [hz]; exact h3, fun q hql => ?_, fun q e' hql he' => ?_, fun q hql => ?_⟩
  · show va_up f.1 a (some e) q = _
    rw [va_up, if_neg (by omega)]
    exact h4 q hql
  · have he2 : va_up f.1 a (some e) q = some e' := he'
    rw [va_up] at he2
    by_cases hqa : q = a
    · subst hqa
      rw [if_pos rfl] at he2
      cases he2
      exact ⟨hdy, he⟩
    · rw [if_neg hqa] at he2
      exact ⟨(h5 q e' hql he2).1, (h5 q e' hql he2).2.kept (hq q hqa)⟩
  · rw [hq q (by omega)]
    exact h6 q hql
theorem pz_D.push {G : pz_G} {f : pz_H} {H H1 : Heap} {e : pz_E} (hD : pz_D G f H) (hdy : pz_dy e) (he : va_at G.1 vwCl (H.size, pz_e G e) H1) (hz : H1.size = H.size + 1) (hq : ∀ q, q < H.size → H1[q]? = H[q]?) : pz_D G (pz_nw f e) H1 := by
  obtain ⟨h1, h2, h3, h4, h5, h6⟩ := hD
  refine ⟨h1, by rw [hz, ← h2]; rfl, by omega, fun q hql => ?_, fun q e' hql he' => ?_, fun q hql => ?_⟩
  · show va_up f.1 f.2.2 (some e) q = _
    rw [va_up, if_neg (by omega)]
    exact h4 q hql
  · have he2 : va_up f.1 f.2.2 (some e) q = some e' := he'
    rw [va_up] at he2
    by_cases hqa : q = f.2.2
    · subst hqa
      rw [if_pos rfl] at he2
      cases he2
      rw [h2]
      exact ⟨hdy, he⟩
    · rw [if_neg hqa] at he2
      have h7 := h5 q e' hql he2
      exact ⟨h7.1, h7.2.kept (hq q h7.2.lt)⟩
  · rw [hq q (by omega)]
    exact h6 q hql
/-- a field's place: class ci, field j, as entry idx of own's pool says -/
def pz_fa (own : String) (idx ci j : Nat) : Prop := ∃ (C : String) (T : u_T) (N : Nat), vwCl[ci]? = some (C, T, N) ∧ j < N ∧ (∀ w ∈ u_ws C T N, w ∈ lw_tbl) ∧ (Cond.fieldLink own idx (T j).1 (T j).2.1 (T j).2.2.1 ∈ lw_tbl ∨ ∃ host, Cond.fieldLinkNest own idx (T j).1 (T j).2.1 (T j).2.2.1 host ∈ lw_tbl)
/-- likewise, to be written: its type -/
def pz_fp (own : String) (idx ci j : Nat) (ty : FieldType) (fin : Bool) : Prop := ∃ (C : String) (T : u_T) (N : Nat) (ty0 : Nat → FieldType), vwCl[ci]? = some (C, T, N) ∧ j < N ∧ (∀ w ∈ u_ws C T N, w ∈ lw_tbl) ∧ (Cond.fieldLink own idx (T j).1 (T j).2.1 (T j).2.2.1 ∈ lw_tbl ∨ ∃ host, Cond.fieldLinkNest own idx (T j).1 (T j).2.1 (T j).2.2.1 host ∈ lw_tbl) ∧
  (∀ k, k < N → parseFieldDescriptor (T k).2.2.1 = some (ty0 k)) ∧ (∀ a, a < N → ∀ b, b < N → a ≠ b → (T a).2.1 ≠ (T b).2.1) ∧ (T j).2.2.2 = fin ∧ parseFieldDescriptor (T j).2.2.1 = some ty ∧ (T j).1 = C
theorem pz_uws {G : pz_G} {U : State} (hT : pz_T G U) {C : String} {T : u_T} {N : Nat} (hin : ∀ w ∈ u_ws C T N, w ∈ lw_tbl) (A : Array Value) : ∀ w ∈ u_ws C T N, w.before A U = true := by
  intro w hw
  refine hT.wd (hin w hw) ?_ A
  obtain ⟨j, -, rfl⟩ := List.mem_map.mp hw
  unfold u_lay
  split <;> rfl
theorem pz_ci {ci : Nat} {q : vw_C} (h : vwCl[ci]? = some q) : ci < 100 := by
  have := (List.getElem?_eq_some_iff.mp h).1
  have h2 : vwCl.length = 10 := rfl
  omega
section PZH
variable {G : pz_G} {C : pz_C} {cc : ByteArray} {nL : Nat} {own : String} {pc pc' : Nat} {lv lv' : List (Nat × Value)} {st : List Value} {f : pz_H} {n k : Nat} {Q : State → Prop}
theorem pz_getV {a ci j idx : Nat} {v : Value} (hC : pz_OK G C cc nL own) (d : pz_d cc pc 3 pc' (.getfield idx)) (fa : pz_fa own idx ci j) (hv : pz_gV f a ci j = some v) (kk : pz_W G C nL pc' lv (v :: st) f n k Q) : pz_W G C nL pc lv (.ref a :: st) f n k Q := by
  intro H locs ls hD hF hl
  obtain ⟨d1, rfl⟩ := d
  obtain ⟨Cn, T, N, hc, hj, hin, hlk⟩ := fa
  obtain ⟨fs, h1, h2⟩ := pz_gV_of hv
  have hT := hC.2.2.2.2.2
  have hP := pz_D.one (hD.dyn hT h1 (pz_ci hc)).2
  rcases hlk with hlk | ⟨host, hlk⟩
  · exact va_get hC.1 hC.2.1 (pz_uws hT hin _) (fun w h => h) hC.2.2.2.1 hT.2.1 hP 0 rfl hc j hj (hT.wd hlk rfl _) (fun _ h => h) h2 d1 (kk H locs ls hD hF hl)
  · exact va_getN hC.1 hC.2.1 (pz_uws hT hin _) (fun w h => h) hC.2.2.2.1 hT.2.1 hP 0 rfl hc j hj (hT.wd hlk rfl _) (fun _ h => h) h2 d1 (kk H locs ls hD hF hl)
theorem pz_getI {α : Type} {a ci j idx : Nat} {g : Int32 → Option α} {r : α} (hC : pz_OK G C cc nL own) (d : pz_d cc pc 3 pc' (.getfield idx)) (fa : pz_fa own idx ci j) (hf : (pz_gI f a ci j).bind g = some r) (kk : ∀ v, g v = some r → pz_W G C nL pc' lv (.int v :: st) f n k Q) : pz_W G C nL pc lv (.ref a :: st) f n k Q := by
  obtain ⟨v, h1, h2⟩ := pz_bd hf
  exact pz_getV hC d fa (pz_gI_of h1) (kk v h2)
theorem pz_getR {α : Type} {a ci j idx : Nat} {g : Nat → Option α} {r : α} (hC : pz_OK G C cc nL own) (d : pz_d cc pc 3 pc' (.getfield idx)) (fa : pz_fa own idx ci j) (hf : (pz_gR f a ci j).bind g = some r) (kk : ∀ v, g v = some r → pz_W G C nL pc' lv (.ref v :: st) f n k Q) : pz_W G C nL pc lv (.ref a :: st) f n k Q := by
  obtain ⟨v, h1, h2⟩ := pz_bd hf
  exact pz_getV hC d fa (pz_gR_of h1) (kk v h2)
theorem pz_locs {locs : List Loc} {a : Nat} {i : Nat} (hF : ∀ q ∈ locs, pz_A G q.base) (ha : pz_z G ≤ a) : ∀ q ∈ locs ++ [⟨a, i⟩], pz_A G q.base := by
  intro q hq
  rcases List.mem_append.mp hq with h | h
  · exact hF q h
  · rw [List.mem_singleton.mp h]; exact ha
theorem pz_putV {α : Type} {a ci j idx : Nat} {v : Value} {ty : FieldType} {g : pz_H → Option α} {r : α} (hC : pz_OK G C cc nL own) (d : pz_d cc pc 3 pc' (.putfield idx)) (fp : pz_fp own idx ci j ty false) (hn : narrow ty v = v) (hfit : fits ty v = true) (hf : (pz_sV f a ci j v).bind g = some r) (kk : ∀ f', g f' = some r → pz_W G C nL pc' lv st f' n k Q) : pz_W G C nL pc lv (v :: .ref a :: st) f n k Q := by
  intro H locs ls hD hF hl
  obtain ⟨d1, rfl⟩ := d
  obtain ⟨Cn, T, N, ty0, hc, hj, hin, hlk, hty, hnm, hfin, hd, -⟩ := fp
  obtain ⟨f', hs, h0⟩ := pz_bd hf
  obtain ⟨fs, h1, h2, rfl⟩ := pz_sV_of hs
  have hT := hC.2.2.2.2.2
  obtain ⟨hza, hat⟩ := hD.dyn hT h1 (pz_ci hc)
  have hts := pz_uws hT hin (pz_as C)
  have hap := va_apart (own := own) hts (fun w h => h) ty0 hty hnm hT.2.1 hc
  obtain ⟨r', h1', cell, q1, q2, q3, q4⟩ := hat
  have hr : r' = (Cn, T, N) := Option.some.inj (h1'.symm.trans hc)
  subst hr
  obtain ⟨hS, hfc, kC, hkC, hkind⟩ := hT.2.1.1 ci _ hc
  obtain ⟨cf, kf, fi, fl, hi, hsl⟩ := hS j hj
  have hlay := hts _ (u_in_lay hj)
  unfold u_lay at hlay
  rw [if_neg (by rw [hfin]; decide)] at hlay
  have hst := (u_facts hfc hkC (u_lays hts (fun w h => h) hj) hi).1
  have h6 := u_store hfc hkC hkind hlay hi hd hn hfit
  have fin : ∀ H' : Heap, H'[a]? = some (cell.setSlot fl.slot v) → H'.size = H.size → (∀ q, q ≠ a → H'[q]? = H[q]?) → pz_D G (pz_up f a (.inl (ci, fs.set j v))) H' := by
    intro H' e1 e2 e3
    rw [hsl] at e1
    exact hD.set hza (pz_ci hc) ⟨_, hc, t_OB.to (V := updV (vp_V fs) j v) ⟨_, e1, q2, q3, t_set q4 hap hj v⟩ (fun i _ => vp_updV_set h2 v i)⟩ e2 e3
  rcases hlk with hlk | ⟨host, hlk⟩
  · exact W.putK hC.1 hC.2.1 (f := fl) ⟨hC.2.2.2.1, hT.wd hlk rfl _, ⟨_, _, _, hi⟩, hst⟩ (by rw [q2]; exact h6) q1 q3 (by rw [hsl]; exact k2_hasslot (q4 j hj)) rfl rfl d1 (fun H' e1 e2 e3 => kk _ h0 H' _ ls (fin H' e1 e2 e3) (pz_locs hF hza) hl)
  · exact va_WputK hC.1 hC.2.1 (f := fl) hC.2.2.2.1 (hT.wd hlk rfl _) hi hst (by rw [q2]; exact h6) q1 q3 (by rw [hsl]; exact k2_hasslot (q4 j hj)) rfl rfl d1 (fun H' e1 e2 e3 => kk _ h0 H' _ ls (fin H' e1 e2 e3) (pz_locs hF hza) hl)
theorem pz_putF {α : Type} {a ci j idx : Nat} {v : Value} {ty : FieldType} {g : pz_H → Option α} {r : α} (hC : pz_OK G C cc nL own) (hnm0 : (pz_me C).name = "<init>") (d : pz_d cc pc 3 pc' (.putfield idx)) (fp : pz_fp own idx ci j ty true) (hon : ∀ q, vwCl[ci]? = some q → q.1 = own) (hlk0 : Cond.fieldLink own idx = Cond.fieldLink own idx) (hn : narrow ty v = v) (hfit : fits ty v = true) (hf : (pz_sV f a ci j v).bind g = some r) (kk : ∀ f', g f' = some r → pz_W G C nL pc' lv st f' n k Q) : pz_W G C nL pc lv (v :: .ref a :: st) f n k Q := by
  intro H locs ls hD hF hl
  obtain ⟨d1, rfl⟩ := d
  obtain ⟨Cn, T, N, ty0, hc, hj, hin, hlk, hty, hnm, hfin, hd, hdecl⟩ := fp
  obtain ⟨f', hs, h0⟩ := pz_bd hf
  obtain ⟨fs, h1, h2, rfl⟩ := pz_sV_of hs
  have hT := hC.2.2.2.2.2
  obtain ⟨hza, hat⟩ := hD.dyn hT h1 (pz_ci hc)
  have hts := pz_uws hT hin (pz_as C)
  have hap := va_apart (own := own) hts (fun w h => h) ty0 hty hnm hT.2.1 hc
  obtain ⟨r', h1', cell, q1, q2, q3, q4⟩ := hat
  have hr : r' = (Cn, T, N) := Option.some.inj (h1'.symm.trans hc)
  subst hr
  obtain ⟨hS, hfc, kC, hkC, hkind⟩ := hT.2.1.1 ci _ hc
  obtain ⟨cf, kf, fi, fl, hi, hsl⟩ := hS j hj
  have hlay := hts _ (u_in_lay hj)
  unfold u_lay at hlay
  rw [if_pos hfin] at hlay
  have hst := (u_facts hfc hkC (u_lays hts (fun w h => h) hj) hi).1
  have hown := hC.2.2.2.1
  have hCo : Cn = own := hon _ hc
  have hcf : (pz_m C).cls = cf := by
    obtain ⟨_, _, c', _, _, _, -, -, hf', -, -, -, hown2, -⟩ := Cond.laysFinal_spec hlay
    have e1 : c' = cf := by have := hi.symm.trans hf'; simp at this; exact this.1.symm
    rw [hdecl, hCo] at hown2
    rw [← e1]; exact Option.some.inj (hown.symm.trans hown2)
  have h6 := u_fits hfc hkC hkind (Or.inr hlay) hi hd hn hfit
  have fin : ∀ H' : Heap, H'[a]? = some (cell.setSlot fl.slot v) → H'.size = H.size → (∀ q, q ≠ a → H'[q]? = H[q]?) → pz_D G (pz_up f a (.inl (ci, fs.set j v))) H' := by
    intro H' e1 e2 e3
    rw [hsl] at e1
    exact hD.set hza (pz_ci hc) ⟨_, hc, t_OB.to (V := updV (vp_V fs) j v) ⟨_, e1, q2, q3, t_set q4 hap hj v⟩ (fun i _ => vp_updV_set h2 v i)⟩ e2 e3
  rcases hlk with hlk | ⟨host, hlk⟩
  · exact W.putFinK hC.1 hC.2.1 hown (hT.wd hlk rfl _) hi hst hcf hnm0 (by rw [q2]; exact h6) q1 q3 (by rw [hsl]; exact k2_hasslot (q4 j hj)) rfl rfl d1 (fun H' e1 e2 e3 => kk _ h0 H' _ ls (fin H' e1 e2 e3) (pz_locs hF hza) hl)
  · exact va_Wputf hC.1 hC.2.1 hown (hT.wd hlk rfl _) hi hst (Or.inr ⟨hcf, hnm0⟩) q1 (by rw [q3]; exact fun h => by cases h) (by rw [hsl]; exact k2_hasslot (q4 j hj)) h6.1 (by rw [q3, q2]; exact h6.2) rfl rfl d1 (kk _ h0 _ _ ls (fin _ (by rw [Array.getElem?_setIfInBounds_self_of_lt ((Array.getElem?_eq_some_iff.mp q1).1)]) (Array.size_setIfInBounds) (fun q hq => Array.getElem?_setIfInBounds_ne (Ne.symm hq))) (pz_locs hF hza) hl)

theorem pz_iald {α : Type} {a : Nat} {i : Int32} {g : Int32 → Option α} {r : α} (hC : pz_OK G C cc nL own) (d : pz_d cc pc 1 pc' .iaload) (hf : (pz_aI f a 0 i).bind g = some r) (kk : ∀ v, g v = some r → pz_W G C nL pc' lv (.int v :: st) f n k Q) : pz_W G C nL pc lv (.int i :: .ref a :: st) f n k Q := by
  intro H locs ls hD hF hl
  obtain ⟨d1, rfl⟩ := d
  obtain ⟨v, h1, h2⟩ := pz_bd hf
  obtain ⟨N, gg, h3, h4, rfl⟩ := pz_aI_of h1
  have hT := hC.2.2.2.2.2
  have hP := pz_D.one (hD.dynA hT h3 (by decide)).2
  exact va_iald hC.1 hC.2.1 hT.2.1 hP 0 0 rfl rfl h4 d1 (kk _ h2 H locs ls hD hF hl)
theorem pz_lald {α : Type} {a : Nat} {i : Int32} {g : Int64 → Option α} {r : α} (hC : pz_OK G C cc nL own) (d : pz_d cc pc 1 pc' .laload) (hf : (pz_aL f a 1 i).bind g = some r) (kk : ∀ v, g v = some r → pz_W G C nL pc' lv (.long v :: st) f n k Q) : pz_W G C nL pc lv (.int i :: .ref a :: st) f n k Q := by
  intro H locs ls hD hF hl
  obtain ⟨d1, rfl⟩ := d
  obtain ⟨v, h1, h2⟩ := pz_bd hf
  obtain ⟨N, gg, h3, h4, rfl⟩ := pz_aL_of h1
  have hT := hC.2.2.2.2.2
  have hP := pz_D.one (hD.dynA hT h3 (by decide)).2
  exact va_lald hC.1 hC.2.1 hT.2.1 hP 0 1 rfl rfl h4 d1 (kk _ h2 H locs ls hD hF hl)
theorem pz_bald {α : Type} {a : Nat} {i : Int32} {g : Int32 → Option α} {r : α} (hC : pz_OK G C cc nL own) (d : pz_d cc pc 1 pc' .baload) (hf : (pz_aI f a 2 i).bind g = some r) (kk : ∀ v, g v = some r → pz_W G C nL pc' lv (.int v :: st) f n k Q) : pz_W G C nL pc lv (.int i :: .ref a :: st) f n k Q := by
  intro H locs ls hD hF hl
  obtain ⟨d1, rfl⟩ := d
  obtain ⟨v, h1, h2⟩ := pz_bd hf
  obtain ⟨N, gg, h3, h4, rfl⟩ := pz_aI_of h1
  have hT := hC.2.2.2.2.2
  have hP := pz_D.one (hD.dynA hT h3 (by decide)).2
  exact va_bald hC.1 hC.2.1 hT.2.1 hP 0 2 rfl rfl h4 d1 (kk _ h2 H locs ls hD hF hl)
theorem pz_aald {α : Type} {a t : Nat} {Cn : String} {i : Int32} {g : Nat → Option α} {r : α} (hC : pz_OK G C cc nL own) (d : pz_d cc pc 1 pc' .aaload) (ht : ∀ G : pz_G, (pz_tys G)[t]? = some (G.2.1 t, .object Cn)) (ht2 : t < 10) (hf : (pz_aR f a t i).bind g = some r) (kk : ∀ v, g v = some r → pz_W G C nL pc' lv (.ref v :: st) f n k Q) : pz_W G C nL pc lv (.int i :: .ref a :: st) f n k Q := by
  intro H locs ls hD hF hl
  obtain ⟨d1, rfl⟩ := d
  obtain ⟨v, h1, h2⟩ := pz_bd hf
  obtain ⟨N, gg, h3, h4, h5⟩ := pz_aR_of h1
  have hT := hC.2.2.2.2.2
  have hP := pz_D.one (hD.dynA hT h3 ht2).2
  refine va_aldq hC.1 hC.2.1 hT.2.1 hP 0 t rfl (ht G) h4 d1 ?_
  rw [h5]
  exact kk _ h2 H locs ls hD hF hl
theorem pz_alen {α : Type} {a t : Nat} {ty : FieldType} {g : Int32 → Option α} {r : α} (hC : pz_OK G C cc nL own) (d : pz_d cc pc 1 pc' .arraylength) (ht : ∀ G : pz_G, (pz_tys G)[t]? = some (G.2.1 t, ty)) (ht2 : t < 10) (hf : (pz_ln f a t).bind g = some r) (kk : ∀ v, g v = some r → pz_W G C nL pc' lv (.int v :: st) f n k Q) : pz_W G C nL pc lv (.ref a :: st) f n k Q := by
  intro H locs ls hD hF hl
  obtain ⟨d1, rfl⟩ := d
  obtain ⟨v, h1, h2⟩ := pz_bd hf
  obtain ⟨N, gg, h3, rfl⟩ := pz_ln_of h1
  have hT := hC.2.2.2.2.2
  have hP := pz_D.one (hD.dynA hT h3 ht2).2
  rcases gg with gg | gg | gg
  · exact va_alen hC.1 hC.2.1 hT.2.1 hP 0 t rfl (ht G) rfl d1 (kk _ h2 H locs ls hD hF hl)
  · exact va_alen hC.1 hC.2.1 hT.2.1 hP 0 t rfl (ht G) rfl d1 (kk _ h2 H locs ls hD hF hl)
  · exact va_alen hC.1 hC.2.1 hT.2.1 hP 0 t rfl (ht G) rfl d1 (kk _ h2 H locs ls hD hF hl)
theorem pz_iast {α : Type} {a : Nat} {i : Int32} {x : Int32} {g : pz_H → Option α} {r : α} (hC : pz_OK G C cc nL own) (d : pz_d cc pc 1 pc' .iastore) (hf : (pz_tI f a 0 i x).bind g = some r) (kk : ∀ f', g f' = some r → pz_W G C nL pc' lv st f' n k Q) : pz_W G C nL pc lv (.int x :: .int i :: .ref a :: st) f n k Q := by
  intro H locs ls hD hF hl
  obtain ⟨d1, rfl⟩ := d
  obtain ⟨f', h1, h2⟩ := pz_bd hf
  obtain ⟨N, gg, h3, h4, rfl⟩ := pz_tI_of h1
  have hT := hC.2.2.2.2.2
  obtain ⟨hza, hat⟩ := hD.dynA hT h3 (by decide)
  refine W.iast hC.1 hC.2.1 hat ((hT.2.1.2 0 _ rfl).1 N (fun j => .int (gg j))) (fun q => by cases q) (by show ¬ (i < 0 ∨ (arrV _ _ _).slots.size ≤ _); rw [arrV_size]; exact h4) rfl rfl d1 (fun H1 e z oq => kk _ h2 H1 _ ls (hD.set hza (show (_ : Nat) < 10 by decide) ?_ z oq) (pz_locs hF hza) hl)
  show H1[a]? = some (vp_cell _ _)
  rw [e, vp_cell_i, vp_cell_i, arrV_store]
  congr 2
  funext q
  by_cases hq : q = i.toNatClampNeg
  · subst hq
    simp [updV, upd]
  · simp [updV, upd, hq]
theorem pz_last {α : Type} {a : Nat} {i : Int32} {x : Int64} {g : pz_H → Option α} {r : α} (hC : pz_OK G C cc nL own) (d : pz_d cc pc 1 pc' .lastore) (hf : (pz_tL f a 1 i x).bind g = some r) (kk : ∀ f', g f' = some r → pz_W G C nL pc' lv st f' n k Q) : pz_W G C nL pc lv (.long x :: .int i :: .ref a :: st) f n k Q := by
  intro H locs ls hD hF hl
  obtain ⟨d1, rfl⟩ := d
  obtain ⟨f', h1, h2⟩ := pz_bd hf
  obtain ⟨N, gg, h3, h4, rfl⟩ := pz_tL_of h1
  have hT := hC.2.2.2.2.2
  obtain ⟨hza, hat⟩ := hD.dynA hT h3 (by decide)
  refine W.last hC.1 hC.2.1 hat ((hT.2.1.2 1 _ rfl).1 N (fun j => .long (gg j))) (fun q => by cases q) (by show ¬ (i < 0 ∨ (arrV _ _ _).slots.size ≤ _); rw [arrV_size]; exact h4) rfl rfl d1 (fun H1 e z oq => kk _ h2 H1 _ ls (hD.set hza (show (_ : Nat) < 10 by decide) ?_ z oq) (pz_locs hF hza) hl)
  show H1[a]? = some (vp_cell _ _)
  rw [e, vp_cell_l, vp_cell_l, arrV_store]
  congr 2
  funext q
  by_cases hq : q = i.toNatClampNeg
  · subst hq
    simp [updV, vp_updL]
  · simp [updV, vp_updL, hq]
theorem pz_bast {α : Type} {a : Nat} {i x : Int32} {g : pz_H → Option α} {r : α} (hC : pz_OK G C cc nL own) (d : pz_d cc pc 1 pc' .bastore) (hx : narrow .byte (.int x) = .int x) (hf : (pz_tI f a 2 i x).bind g = some r) (kk : ∀ f', g f' = some r → pz_W G C nL pc' lv st f' n k Q) : pz_W G C nL pc lv (.int x :: .int i :: .ref a :: st) f n k Q := by
  intro H locs ls hD hF hl
  obtain ⟨d1, rfl⟩ := d
  obtain ⟨f', h1, h2⟩ := pz_bd hf
  obtain ⟨N, gg, h3, h4, rfl⟩ := pz_tI_of h1
  have hT := hC.2.2.2.2.2
  obtain ⟨hza, hat⟩ := hD.dynA hT h3 (by decide)
  refine W.bast hC.1 hC.2.1 hat ((hT.2.1.2 2 _ rfl).1 N (fun j => .int (gg j))) (fun q => by cases q) (by show ¬ (i < 0 ∨ (arrV _ _ _).slots.size ≤ _); rw [arrV_size]; exact h4) rfl rfl d1 (fun H1 e z oq => kk _ h2 H1 _ ls (hD.set hza (show (_ : Nat) < 10 by decide) ?_ z oq) (pz_locs hF hza) hl)
  show H1[a]? = some (vp_cell _ _)
  rw [e, hx, vp_cell_i, vp_cell_i, arrV_store]
  congr 2
  funext q
  by_cases hq : q = i.toNatClampNeg
  · subst hq
    simp [updV, upd]
  · simp [updV, upd, hq]
theorem pz_aast {α : Type} {a t ci : Nat} {Cn : String} {T : u_T} {N : Nat} {i : Int32} {x : Nat} {g : pz_H → Option α} {r : α} (hC : pz_OK G C cc nL own) (d : pz_d cc pc 1 pc' .aastore) (ht : ∀ G : pz_G, (pz_tys G)[t]? = some (G.2.1 t, .object Cn)) (ht2 : t < 10) (hc : vwCl[ci]? = some (Cn, T, N)) (hf : (pz_tR f a t ci i x).bind g = some r) (kk : ∀ f', g f' = some r → pz_W G C nL pc' lv st f' n k Q) : pz_W G C nL pc lv (.ref x :: .int i :: .ref a :: st) f n k Q := by
  intro H locs ls hD hF hl
  obtain ⟨d1, rfl⟩ := d
  obtain ⟨f', h1, h2⟩ := pz_bd hf
  obtain ⟨N', gg, h3, h4, h5, rfl⟩ := pz_tR_of h1
  have hT := hC.2.2.2.2.2
  obtain ⟨hza, hat⟩ := hD.dynA hT h3 ht2
  obtain ⟨vs, h6⟩ := pz_is_of h5
  obtain ⟨r', hr', cellV, g1, g2, g3, -⟩ := (hD.dyn hT h6 (pz_ci hc)).2
  have hcls := (hT.2.1.1 ci _ hc).2
  obtain ⟨kA, comp, k1, k2, k3, -⟩ := (hT.2.1.2 t _ (ht G)).2
  have hcomp : comp = G.1.1 ci := Option.some.inj (k3.symm.trans hcls.1)
  subst hcomp
  obtain ⟨kC, hkC, -⟩ := id hcls.2
  have hlt : i.toNatClampNeg < N' := Nat.not_le.mp fun q => h4 (Or.inr q)
  have h0 : ¬ i < 0 := fun q => h4 (Or.inl q)
  refine W.aast hC.1 hC.2.1 hat (fun q h => by cases h) (fun h => by cases h) k1 k2 rfl hkC ⟨h0, by show _ < (arrV _ _ _).slots.size; rw [arrV_size]; exact hlt⟩ g1 (fun q h => by rw [g3] at h; cases h) (by rw [g2]; exact hkC) (by rw [g2]; exact va_assign hcls) rfl rfl d1 (fun H1 e z oq => kk _ h2 H1 _ ls (hD.set hza ht2 ?_ z oq) (pz_locs hF hza) hl)
  show H1[a]? = some (vp_cell _ _)
  rw [e, vp_cell_q, vp_cell_q, arrV_store]
  congr 2
  funext q
  by_cases hq : q = i.toNatClampNeg
  · subst hq
    simp [updV, va_up, va_rf]
  · simp [updV, va_up, hq]
end PZH
end
section
/-! ===== contracts: what a method answers, what the heap holds then ===== -/
def pz_Q (G : pz_G) (C : pz_C) (v : Option Value) (f' : pz_H) (mc ms : Nat) : State → Prop := MQ (pz_bl C) (fun _ _ o t => o = .returned v ∧ pz_D G f' t.heap) (pz_as C) (pz_s C) mc ms (pz_A G)
def pz_K (C : pz_C) (ret : Option FieldType) (fr lo mc ms : Nat) : Prop := (pz_me C).sig.returnType = ret ∧ pz_R C = { frames := fr, cells := mc, slots := ms, locals := lo }
def pz_Pc (G : pz_G) (As : List Value) (f : pz_H) : Array Value → State → Prop := va_Pc As (fun U => pz_T G U ∧ pz_D G f U.heap)
def pz_Met (l : Launch) (G : pz_G) (y : MethodName) (cc : ByteArray) (mL : Nat) (ret : Option FieldType) (fr lo mc ms : Nat) (As : List Value) (f : pz_H) (v : Option Value) (f' : pz_H) : Prop :=
  Met l y [.code y cc mL ret] { frames := fr, cells := mc, slots := ms, locals := lo } (pz_Pc G As f) (fun _ _ o t => o = .returned v ∧ pz_D G f' t.heap) mc ms (pz_A G)
theorem pz_enter {l : Launch} {G : pz_G} {y : MethodName} {cc : ByteArray} {mL : Nat} {ret : Option FieldType} {fr lo mc ms : Nat} {As : List Value} {f : pz_H} {v : Option Value} {f' : pz_H} (hy : plainName y.cls = true) (hlen : (lg_sl As).length ≤ mL)
    (body : ∀ C : pz_C, C.2.1 = l → pz_OK G C cc mL y.cls → pz_K C ret fr lo mc ms → (pz_me C).name = y.name → pz_W G C mL 0 (lv_args 0 As) [] f 0 0 (pz_Q G C v f' mc ms)) : pz_Met l G y cc mL ret fr lo mc ms As f v f' := by
  refine Met.ofW (cc := cc) (maxL := mL) (ret := ret) hy rfl ?_
  intro p e s m args below meth c s₁ B hml hv
  obtain ⟨rfl, hT, hD⟩ := hv
  rw [lg_entry_eq]
  exact body (p, l, e, { frames := fr, cells := mc, slots := ms, locals := lo }, s, m, As.toArray, below, meth, c) rfl ⟨B.exec, B.bytes, hml, findClass_of_methodNamed B.named, B.notSynchronized, hT⟩ ⟨B.returns, rfl⟩ (name_of_methodNamed B.named B.method).1 s.heap [] _ hD (fun _ h => by cases h) (lv_entry As hlen)
theorem pz_blind {G : pz_G} {As : List Value} {f : pz_H} : FrameBlind (pz_Pc G As f) := fun a U g mk h => ⟨h.1, h.2.1.same rfl, h.2.2⟩
/-- a method's words -/
def pz_y (y : MethodName) (cy : ByteArray) (mL : Nat) (rt : Option FieldType) (np : Nat) : Prop := Cond.code y cy mL rt ∈ lw_tbl ∧ Cond.initialized y.cls ∈ lw_tbl ∧ (y.cls ≠ "java/lang/invoke/MethodHandle" ∧ y.cls ≠ "java/lang/invoke/VarHandle") ∧ (parseMethodDescriptor y.desc).map (fun d => d.parameters.length) = some np
def pz_rc (ci : Nat) (Cn : String) : Prop := (∃ (T : u_T) (N : Nat), vwCl[ci]? = some (Cn, T, N)) ∨ (100 ≤ ci ∧ pz_sC ci = Cn)
def pz_yv (y : MethodName) (ci : Nat) : Prop := Cond.instanceMethod y ∈ lw_tbl ∧ Cond.selects y.cls y y ∈ lw_tbl ∧ pz_rc ci y.cls
theorem pz_recv {G : pz_G} {f : pz_H} {H : Heap} {U : State} {b ci : Nat} {Cn : String} (hD : pz_D G f H) (hT : pz_T G U) (hb : pz_is f b ci = some ()) (hr : pz_rc ci Cn) : ∃ cell : Cell, H[b]? = some cell ∧ cell.vm.isStatics = false ∧ U.vm.findClass Cn = some cell.cls := by
  obtain ⟨fs, hfs⟩ := pz_is_of hb
  rcases hr with ⟨T, N, hc⟩ | ⟨hc, rfl⟩
  · exact va_recv (q0 := 0) hT.2.1 (pz_D.one (hD.dyn hT hfs (pz_ci hc)).2) hc rfl
  · by_cases ha : b < pz_z G
    · have h1 := hT.2.2.1.1 b _ ha (by rw [← hD.2.2.2.1 b ha]; exact hfs)
      obtain ⟨-, ⟨cell, g1, g2, g3, g4⟩, -⟩ := h1
      exact ⟨cell, by rw [hD.2.2.2.2.2 b ha]; exact g1, g2, g3⟩
    · exact absurd (hD.2.2.2.2.1 b _ (by omega) hfs).1 (by show ¬ (ci < 100); omega)
def pz_yi (y : MethodName) : Prop := Cond.instanceMethod y ∈ lw_tbl ∧ y.name = "<init>"
def pz_ys (y : MethodName) : Prop := Cond.static y ∈ lw_tbl
def pz_lk (own : String) (idx : Nat) (y : MethodName) : Prop := Cond.methodLink own idx y ∈ lw_tbl ∨ ∃ host, Cond.methodLinkNest own idx y host ∈ lw_tbl
section PZC
variable {G : pz_G} {C : pz_C} {cc : ByteArray} {nL : Nat} {own : String} {pc pc' : Nat} {lv lv' : List (Nat × Value)} {st : List Value} {f : pz_H} {n k : Nat} {Q : State → Prop}
variable {y : MethodName} {cy : ByteArray} {mL idx np fr lo mc ms ci b fr0 lo0 mc0 ms0 : Nat} {rt rt0 : Option FieldType} {As stk : List Value} {v : Option Value} {f' : pz_H}
theorem pz_cb (hC : pz_OK G C cc nL own) (hK : pz_K C rt0 fr0 lo0 mc0 ms0) (hy : pz_y y cy mL rt np) (hlk : Cond.methodLink own idx y ∈ lw_tbl) (hR : fr + 1 ≤ fr0 ∧ 8 + (mL + 11) + lo ≤ lo0) : CallB (pz_R C) (pz_s C) (pz_as C) own idx y cy mL rt [.code y cy mL rt] { frames := fr, cells := mc, slots := ms, locals := lo } mc ms np := by
  have hT := hC.2.2.2.2.2
  refine ⟨rfl, rfl, by rw [hK.2]; exact hR.1, by rw [hK.2]; exact hR.2, fun w hw a' U hW => ?_, List.mem_singleton.mpr rfl, hT.wd hy.1 rfl _, hT.wd hy.2.1 rfl _, hy.2.2.1, fun sig h => ?_, hT.wd hlk rfl _⟩
  · rw [List.mem_singleton.mp hw]; exact hT.ww hW hy.1 rfl _
  · have h2 := hy.2.2.2
    rw [h] at h2
    exact (Option.some.inj h2).symm
theorem pz_cn {host : String} (hC : pz_OK G C cc nL own) (hK : pz_K C rt0 fr0 lo0 mc0 ms0) (hy : pz_y y cy mL rt np) (hlk : Cond.methodLinkNest own idx y host ∈ lw_tbl) (hR : fr + 1 ≤ fr0 ∧ 8 + (mL + 11) + lo ≤ lo0) : va_CN (pz_R C) (pz_s C) (pz_as C) own idx y host cy mL rt [.code y cy mL rt] { frames := fr, cells := mc, slots := ms, locals := lo } mc ms np := by
  have hT := hC.2.2.2.2.2
  refine ⟨⟨rfl, rfl, by rw [hK.2]; exact hR.1, by rw [hK.2]; exact hR.2, fun w hw a' U hW => ?_, List.mem_singleton.mpr rfl⟩, hT.wd hy.1 rfl _, hT.wd hy.2.1 rfl _, hy.2.2.1, fun sig h => ?_, hT.wd hlk rfl _⟩
  · rw [List.mem_singleton.mp hw]; exact hT.ww hW hy.1 rfl _
  · have h2 := hy.2.2.2
    rw [h] at h2
    exact (Option.some.inj h2).symm
theorem pz_behind {H : Heap} {locs : List Loc} {ls : Array Slot} (hr : va_Run C.1 C.2.1 C.2.2.1 (pz_R C) (pz_s C) (pz_m C) (pz_as C) (pz_bl C) (pz_me C) (pz_co C) H locs n k mc ms (F0 (pz_m C) pc ls stk) st (fun _ o t => o = .returned v ∧ pz_D G f' t.heap) (pz_A G)) (hF : ∀ q ∈ locs, pz_A G q.base) (hl : lv_has ls nL lv) (kk : pz_W G C nL (pc + 3) lv (v.toList ++ st) f' (n + mc) (k + ms) Q) : W C.1 C.2.1 C.2.2.1 (pz_R C) (pz_s C) (pz_m C) (pz_as C) (pz_bl C) (pz_me C) (pz_co C) H locs n k Q (F0 (pz_m C) pc ls stk) := by
  intro T hT X
  obtain ⟨v1, st0, t, T', L, h0, X', hL, e1, e2, ⟨hv, hd⟩, gs⟩ := hr T hT X
  have hv2 : v1 = v := Outcome.returned.inj hv
  subst hv2
  obtain ⟨t2, a1, b1⟩ := kk T'.heap (locs ++ L) ls (by rw [e1]; exact hd) (fun q hq => by
    rcases List.mem_append.mp hq with h | h
    · exact hF q h
    · exact hL q h) hl T' rfl X'
  exact ⟨t2, gs t2 a1, b1⟩
theorem pz_callV (hC : pz_OK G C cc nL own) (hK : pz_K C rt0 fr0 lo0 mc0 ms0) (d : pz_d cc pc 3 pc' (.invokevirtual idx)) (hy : pz_y y cy mL rt np) (hyv : pz_yv y ci) (hlk : pz_lk own idx y) (hM : pz_Met C.2.1 G y cy mL rt fr lo mc ms (.ref b :: As) f v f') (hb : pz_is f b ci = some ()) (hn : As.length = np) (hst : stk = As.reverse ++ .ref b :: st) (hW : (st.map fun v => v.category).sum ≤ 8) (hR : fr + 1 ≤ fr0 ∧ 8 + (mL + 11) + lo ≤ lo0) (hr : n + mc ≤ mc0 ∧ k + ms ≤ ms0) (kk : pz_W G C nL pc' lv (v.toList ++ st) f' (n + mc) (k + ms) Q) : pz_W G C nL pc lv stk f n k Q := by
  intro H locs ls hD hF hl
  obtain ⟨d1, rfl⟩ := d
  have hT := hC.2.2.2.2.2
  obtain ⟨hin, hse, hc⟩ := hyv
  have hp : PreV (pz_s C) H y.cls b (pz_Pc G (.ref b :: As) f) As := ⟨pz_blind, pz_recv hD hT hb hc, fun U hU hW => ⟨rfl, hT.warm hW, by rw [hU]; exact hD⟩⟩
  have hroom : n + mc ≤ (pz_R C).cells ∧ k + ms ≤ (pz_R C).slots := by rw [hK.2]; exact hr
  rcases hlk with hlk | ⟨host, hlk⟩
  · exact pz_behind (va_runV (nL := nL) (Ts := []) ⟨hC.1, hC.2.1, hC.2.2.1, hC.2.2.2.1, fun _ h => by cases h⟩ hM ⟨pz_cb hC hK hy hlk hR, hT.wd hin rfl _, hT.wd hse rfl _⟩ hp rfl hn hl.1 hst (lv_room hW) d1 hroom) hF hl kk
  · exact pz_behind (va_runVN (nL := nL) (Ts := []) ⟨hC.1, hC.2.1, hC.2.2.1, hC.2.2.2.1, fun _ h => by cases h⟩ hM ⟨pz_cn hC hK hy hlk hR, hT.wd hin rfl _, hT.wd hse rfl _⟩ hp rfl hn hl.1 hst (lv_room hW) d1 hroom) hF hl kk
theorem pz_callS (hC : pz_OK G C cc nL own) (hK : pz_K C rt0 fr0 lo0 mc0 ms0) (d : pz_d cc pc 3 pc' (.invokestatic idx)) (hy : pz_y y cy mL rt np) (hys : pz_ys y) (hlk : pz_lk own idx y) (hM : pz_Met C.2.1 G y cy mL rt fr lo mc ms As f v f') (hn : As.length = np) (hst : stk = As.reverse ++ st) (hW : (st.map fun v => v.category).sum ≤ 8) (hR : fr + 1 ≤ fr0 ∧ 8 + (mL + 11) + lo ≤ lo0) (hr : n + mc ≤ mc0 ∧ k + ms ≤ ms0) (kk : pz_W G C nL pc' lv (v.toList ++ st) f' (n + mc) (k + ms) Q) : pz_W G C nL pc lv stk f n k Q := by
  intro H locs ls hD hF hl
  obtain ⟨d1, rfl⟩ := d
  have hT := hC.2.2.2.2.2
  have hp : PreS (pz_s C) H (pz_Pc G As f) As := ⟨pz_blind, fun U hU hW => ⟨rfl, hT.warm hW, by rw [hU]; exact hD⟩⟩
  have hroom : n + mc ≤ (pz_R C).cells ∧ k + ms ≤ (pz_R C).slots := by rw [hK.2]; exact hr
  rcases hlk with hlk | ⟨host, hlk⟩
  · exact pz_behind (va_runS (nL := nL) (Ts := []) ⟨hC.1, hC.2.1, hC.2.2.1, hC.2.2.2.1, fun _ h => by cases h⟩ hM ⟨pz_cb hC hK hy hlk hR, hT.wd hys rfl _⟩ hp rfl hn hl.1 hst (lv_room hW) d1 hroom) hF hl kk
  · exact pz_behind (va_runSN (nL := nL) (Ts := []) ⟨hC.1, hC.2.1, hC.2.2.1, hC.2.2.2.1, fun _ h => by cases h⟩ hM ⟨pz_cn hC hK hy hlk hR, hT.wd hys rfl _, trivial⟩ hp rfl hn hl.1 hst (lv_room hW) d1 hroom) hF hl kk
theorem pz_callI (hC : pz_OK G C cc nL own) (hK : pz_K C rt0 fr0 lo0 mc0 ms0) (d : pz_d cc pc 3 pc' (.invokespecial idx)) (hy : pz_y y cy mL none np) (hyi : pz_yi y) (hlk : pz_lk own idx y) (hM : pz_Met C.2.1 G y cy mL none fr lo mc ms (.ref b :: As) f v f') (hn : As.length = np) (hst : stk = As.reverse ++ .ref b :: st) (hW : (st.map fun v => v.category).sum ≤ 8) (hR : fr + 1 ≤ fr0 ∧ 8 + (mL + 11) + lo ≤ lo0) (hr : n + mc ≤ mc0 ∧ k + ms ≤ ms0) (kk : pz_W G C nL pc' lv (v.toList ++ st) f' (n + mc) (k + ms) Q) : pz_W G C nL pc lv stk f n k Q := by
  intro H locs ls hD hF hl
  obtain ⟨d1, rfl⟩ := d
  have hT := hC.2.2.2.2.2
  have hp : PreS (pz_s C) H (pz_Pc G (.ref b :: As) f) (.ref b :: As) := ⟨pz_blind, fun U hU hW => ⟨rfl, hT.warm hW, by rw [hU]; exact hD⟩⟩
  have hroom : n + mc ≤ (pz_R C).cells ∧ k + ms ≤ (pz_R C).slots := by rw [hK.2]; exact hr
  rcases hlk with hlk | ⟨host, hlk⟩
  · exact pz_behind (va_runI (nL := nL) (Ts := []) ⟨hC.1, hC.2.1, hC.2.2.1, hC.2.2.2.1, fun _ h => by cases h⟩ hM ⟨pz_cb hC hK hy hlk hR, hyi.2, hT.wd hyi.1 rfl _⟩ hp rfl hn hl.1 hst (lv_room hW) d1 hroom) hF hl kk
  · exact pz_behind (va_runIN (nL := nL) (Ts := []) ⟨hC.1, hC.2.1, hC.2.2.1, hC.2.2.2.1, fun _ h => by cases h⟩ hM ⟨pz_cn hC hK hy hlk hR, hyi.2, hT.wd hyi.1 rfl _⟩ hp rfl hn hl.1 hst (lv_room hW) d1 hroom) hF hl kk
theorem pz_Vi {α : Type} {F : Option (Int32)} {g : Int32 → Option α} {r : α} (hC : pz_OK G C cc nL own) (hK : pz_K C rt0 fr0 lo0 mc0 ms0) (d : pz_d cc pc 3 pc' (.invokevirtual idx)) (hy : pz_y y cy mL rt np) (hyv : pz_yv y ci) (hlk : pz_lk own idx y) (hf : F.bind g = some r) (hM : ∀ x, F = some x → pz_Met C.2.1 G y cy mL rt fr lo 0 0 (.ref b :: As) f (some (.int x)) (f) ∧ pz_is f b ci = some ()) (hn : As.length = np) (hst : stk = As.reverse ++ .ref b :: st) (hW : (st.map fun v => v.category).sum ≤ 8) (hR : fr + 1 ≤ fr0 ∧ 8 + (mL + 11) + lo ≤ lo0) (hr : n ≤ mc0 ∧ k ≤ ms0) (kk : ∀ x, g x = some r → pz_W G C nL pc' lv (.int x :: st) (f) n k Q) : pz_W G C nL pc lv stk f n k Q := by
  obtain ⟨x, h1, h2⟩ := pz_bd hf
  exact pz_callV hC hK d hy hyv hlk (hM x h1).1 (hM x h1).2 hn hst hW hR hr (kk x h2)
theorem pz_Si {α : Type} {F : Option (Int32)} {g : Int32 → Option α} {r : α} (hC : pz_OK G C cc nL own) (hK : pz_K C rt0 fr0 lo0 mc0 ms0) (d : pz_d cc pc 3 pc' (.invokestatic idx)) (hy : pz_y y cy mL rt np) (hys : pz_ys y) (hlk : pz_lk own idx y) (hf : F.bind g = some r) (hM : ∀ x, F = some x → pz_Met C.2.1 G y cy mL rt fr lo 0 0 As f (some (.int x)) (f)) (hn : As.length = np) (hst : stk = As.reverse ++ st) (hW : (st.map fun v => v.category).sum ≤ 8) (hR : fr + 1 ≤ fr0 ∧ 8 + (mL + 11) + lo ≤ lo0) (hr : n ≤ mc0 ∧ k ≤ ms0) (kk : ∀ x, g x = some r → pz_W G C nL pc' lv (.int x :: st) (f) n k Q) : pz_W G C nL pc lv stk f n k Q := by
  obtain ⟨x, h1, h2⟩ := pz_bd hf
  exact pz_callS hC hK d hy hys hlk (hM x h1) hn hst hW hR hr (kk x h2)
theorem pz_Vl {α : Type} {F : Option (Int64)} {g : Int64 → Option α} {r : α} (hC : pz_OK G C cc nL own) (hK : pz_K C rt0 fr0 lo0 mc0 ms0) (d : pz_d cc pc 3 pc' (.invokevirtual idx)) (hy : pz_y y cy mL rt np) (hyv : pz_yv y ci) (hlk : pz_lk own idx y) (hf : F.bind g = some r) (hM : ∀ x, F = some x → pz_Met C.2.1 G y cy mL rt fr lo 0 0 (.ref b :: As) f (some (.long x)) (f) ∧ pz_is f b ci = some ()) (hn : As.length = np) (hst : stk = As.reverse ++ .ref b :: st) (hW : (st.map fun v => v.category).sum ≤ 8) (hR : fr + 1 ≤ fr0 ∧ 8 + (mL + 11) + lo ≤ lo0) (hr : n ≤ mc0 ∧ k ≤ ms0) (kk : ∀ x, g x = some r → pz_W G C nL pc' lv (.long x :: st) (f) n k Q) : pz_W G C nL pc lv stk f n k Q := by
  obtain ⟨x, h1, h2⟩ := pz_bd hf
  exact pz_callV hC hK d hy hyv hlk (hM x h1).1 (hM x h1).2 hn hst hW hR hr (kk x h2)
theorem pz_Sl {α : Type} {F : Option (Int64)} {g : Int64 → Option α} {r : α} (hC : pz_OK G C cc nL own) (hK : pz_K C rt0 fr0 lo0 mc0 ms0) (d : pz_d cc pc 3 pc' (.invokestatic idx)) (hy : pz_y y cy mL rt np) (hys : pz_ys y) (hlk : pz_lk own idx y) (hf : F.bind g = some r) (hM : ∀ x, F = some x → pz_Met C.2.1 G y cy mL rt fr lo 0 0 As f (some (.long x)) (f)) (hn : As.length = np) (hst : stk = As.reverse ++ st) (hW : (st.map fun v => v.category).sum ≤ 8) (hR : fr + 1 ≤ fr0 ∧ 8 + (mL + 11) + lo ≤ lo0) (hr : n ≤ mc0 ∧ k ≤ ms0) (kk : ∀ x, g x = some r → pz_W G C nL pc' lv (.long x :: st) (f) n k Q) : pz_W G C nL pc lv stk f n k Q := by
  obtain ⟨x, h1, h2⟩ := pz_bd hf
  exact pz_callS hC hK d hy hys hlk (hM x h1) hn hst hW hR hr (kk x h2)
theorem pz_Vr {α : Type} {F : Option (Nat)} {g : Nat → Option α} {r : α} (hC : pz_OK G C cc nL own) (hK : pz_K C rt0 fr0 lo0 mc0 ms0) (d : pz_d cc pc 3 pc' (.invokevirtual idx)) (hy : pz_y y cy mL rt np) (hyv : pz_yv y ci) (hlk : pz_lk own idx y) (hf : F.bind g = some r) (hM : ∀ x, F = some x → pz_Met C.2.1 G y cy mL rt fr lo 0 0 (.ref b :: As) f (some (.ref x)) (f) ∧ pz_is f b ci = some ()) (hn : As.length = np) (hst : stk = As.reverse ++ .ref b :: st) (hW : (st.map fun v => v.category).sum ≤ 8) (hR : fr + 1 ≤ fr0 ∧ 8 + (mL + 11) + lo ≤ lo0) (hr : n ≤ mc0 ∧ k ≤ ms0) (kk : ∀ x, g x = some r → pz_W G C nL pc' lv (.ref x :: st) (f) n k Q) : pz_W G C nL pc lv stk f n k Q := by
  obtain ⟨x, h1, h2⟩ := pz_bd hf
  exact pz_callV hC hK d hy hyv hlk (hM x h1).1 (hM x h1).2 hn hst hW hR hr (kk x h2)
theorem pz_Sr {α : Type} {F : Option (Nat)} {g : Nat → Option α} {r : α} (hC : pz_OK G C cc nL own) (hK : pz_K C rt0 fr0 lo0 mc0 ms0) (d : pz_d cc pc 3 pc' (.invokestatic idx)) (hy : pz_y y cy mL rt np) (hys : pz_ys y) (hlk : pz_lk own idx y) (hf : F.bind g = some r) (hM : ∀ x, F = some x → pz_Met C.2.1 G y cy mL rt fr lo 0 0 As f (some (.ref x)) (f)) (hn : As.length = np) (hst : stk = As.reverse ++ st) (hW : (st.map fun v => v.category).sum ≤ 8) (hR : fr + 1 ≤ fr0 ∧ 8 + (mL + 11) + lo ≤ lo0) (hr : n ≤ mc0 ∧ k ≤ ms0) (kk : ∀ x, g x = some r → pz_W G C nL pc' lv (.ref x :: st) (f) n k Q) : pz_W G C nL pc lv stk f n k Q := by
  obtain ⟨x, h1, h2⟩ := pz_bd hf
  exact pz_callS hC hK d hy hys hlk (hM x h1) hn hst hW hR hr (kk x h2)
theorem pz_Viw {α : Type} {F : Option (Int32 × pz_H)} {g : Int32 × pz_H → Option α} {r : α} (hC : pz_OK G C cc nL own) (hK : pz_K C rt0 fr0 lo0 mc0 ms0) (d : pz_d cc pc 3 pc' (.invokevirtual idx)) (hy : pz_y y cy mL rt np) (hyv : pz_yv y ci) (hlk : pz_lk own idx y) (hf : F.bind g = some r) (hM : ∀ x, F = some x → pz_Met C.2.1 G y cy mL rt fr lo 0 0 (.ref b :: As) f (some (.int x.1)) (x.2) ∧ pz_is f b ci = some ()) (hn : As.length = np) (hst : stk = As.reverse ++ .ref b :: st) (hW : (st.map fun v => v.category).sum ≤ 8) (hR : fr + 1 ≤ fr0 ∧ 8 + (mL + 11) + lo ≤ lo0) (hr : n ≤ mc0 ∧ k ≤ ms0) (kk : ∀ x, g x = some r → pz_W G C nL pc' lv (.int x.1 :: st) (x.2) n k Q) : pz_W G C nL pc lv stk f n k Q := by
  obtain ⟨x, h1, h2⟩ := pz_bd hf
  exact pz_callV hC hK d hy hyv hlk (hM x h1).1 (hM x h1).2 hn hst hW hR hr (kk x h2)
theorem pz_Siw {α : Type} {F : Option (Int32 × pz_H)} {g : Int32 × pz_H → Option α} {r : α} (hC : pz_OK G C cc nL own) (hK : pz_K C rt0 fr0 lo0 mc0 ms0) (d : pz_d cc pc 3 pc' (.invokestatic idx)) (hy : pz_y y cy mL rt np) (hys : pz_ys y) (hlk : pz_lk own idx y) (hf : F.bind g = some r) (hM : ∀ x, F = some x → pz_Met C.2.1 G y cy mL rt fr lo 0 0 As f (some (.int x.1)) (x.2)) (hn : As.length = np) (hst : stk = As.reverse ++ st) (hW : (st.map fun v => v.category).sum ≤ 8) (hR : fr + 1 ≤ fr0 ∧ 8 + (mL + 11) + lo ≤ lo0) (hr : n ≤ mc0 ∧ k ≤ ms0) (kk : ∀ x, g x = some r → pz_W G C nL pc' lv (.int x.1 :: st) (x.2) n k Q) : pz_W G C nL pc lv stk f n k Q := by
  obtain ⟨x, h1, h2⟩ := pz_bd hf
  exact pz_callS hC hK d hy hys hlk (hM x h1) hn hst hW hR hr (kk x h2)
theorem pz_Vlw {α : Type} {F : Option (Int64 × pz_H)} {g : Int64 × pz_H → Option α} {r : α} (hC : pz_OK G C cc nL own) (hK : pz_K C rt0 fr0 lo0 mc0 ms0) (d : pz_d cc pc 3 pc' (.invokevirtual idx)) (hy : pz_y y cy mL rt np) (hyv : pz_yv y ci) (hlk : pz_lk own idx y) (hf : F.bind g = some r) (hM : ∀ x, F = some x → pz_Met C.2.1 G y cy mL rt fr lo 0 0 (.ref b :: As) f (some (.long x.1)) (x.2) ∧ pz_is f b ci = some ()) (hn : As.length = np) (hst : stk = As.reverse ++ .ref b :: st) (hW : (st.map fun v => v.category).sum ≤ 8) (hR : fr + 1 ≤ fr0 ∧ 8 + (mL + 11) + lo ≤ lo0) (hr : n ≤ mc0 ∧ k ≤ ms0) (kk : ∀ x, g x = some r → pz_W G C nL pc' lv (.long x.1 :: st) (x.2) n k Q) : pz_W G C nL pc lv stk f n k Q := by
  obtain ⟨x, h1, h2⟩ := pz_bd hf
  exact pz_callV hC hK d hy hyv hlk (hM x h1).1 (hM x h1).2 hn hst hW hR hr (kk x h2)
theorem pz_Slw {α : Type} {F : Option (Int64 × pz_H)} {g : Int64 × pz_H → Option α} {r : α} (hC : pz_OK G C cc nL own) (hK : pz_K C rt0 fr0 lo0 mc0 ms0) (d : pz_d cc pc 3 pc' (.invokestatic idx)) (hy : pz_y y cy mL rt np) (hys : pz_ys y) (hlk : pz_lk own idx y) (hf : F.bind g = some r) (hM : ∀ x, F = some x → pz_Met C.2.1 G y cy mL rt fr lo 0 0 As f (some (.long x.1)) (x.2)) (hn : As.length = np) (hst : stk = As.reverse ++ st) (hW : (st.map fun v => v.category).sum ≤ 8) (hR : fr + 1 ≤ fr0 ∧ 8 + (mL + 11) + lo ≤ lo0) (hr : n ≤ mc0 ∧ k ≤ ms0) (kk : ∀ x, g x = some r → pz_W G C nL pc' lv (.long x.1 :: st) (x.2) n k Q) : pz_W G C nL pc lv stk f n k Q := by
  obtain ⟨x, h1, h2⟩ := pz_bd hf
  exact pz_callS hC hK d hy hys hlk (hM x h1) hn hst hW hR hr (kk x h2)
theorem pz_Vv {α : Type} {F : Option (pz_H)} {g : pz_H → Option α} {r : α} (hC : pz_OK G C cc nL own) (hK : pz_K C rt0 fr0 lo0 mc0 ms0) (d : pz_d cc pc 3 pc' (.invokevirtual idx)) (hy : pz_y y cy mL rt np) (hyv : pz_yv y ci) (hlk : pz_lk own idx y) (hf : F.bind g = some r) (hM : ∀ x, F = some x → pz_Met C.2.1 G y cy mL rt fr lo 0 0 (.ref b :: As) f (none) (x) ∧ pz_is f b ci = some ()) (hn : As.length = np) (hst : stk = As.reverse ++ .ref b :: st) (hW : (st.map fun v => v.category).sum ≤ 8) (hR : fr + 1 ≤ fr0 ∧ 8 + (mL + 11) + lo ≤ lo0) (hr : n ≤ mc0 ∧ k ≤ ms0) (kk : ∀ x, g x = some r → pz_W G C nL pc' lv (st) (x) n k Q) : pz_W G C nL pc lv stk f n k Q := by
  obtain ⟨x, h1, h2⟩ := pz_bd hf
  exact pz_callV hC hK d hy hyv hlk (hM x h1).1 (hM x h1).2 hn hst hW hR hr (kk x h2)
theorem pz_Sv {α : Type} {F : Option (pz_H)} {g : pz_H → Option α} {r : α} (hC : pz_OK G C cc nL own) (hK : pz_K C rt0 fr0 lo0 mc0 ms0) (d : pz_d cc pc 3 pc' (.invokestatic idx)) (hy : pz_y y cy mL rt np) (hys : pz_ys y) (hlk : pz_lk own idx y) (hf : F.bind g = some r) (hM : ∀ x, F = some x → pz_Met C.2.1 G y cy mL rt fr lo 0 0 As f (none) (x)) (hn : As.length = np) (hst : stk = As.reverse ++ st) (hW : (st.map fun v => v.category).sum ≤ 8) (hR : fr + 1 ≤ fr0 ∧ 8 + (mL + 11) + lo ≤ lo0) (hr : n ≤ mc0 ∧ k ≤ ms0) (kk : ∀ x, g x = some r → pz_W G C nL pc' lv (st) (x) n k Q) : pz_W G C nL pc lv stk f n k Q := by
  obtain ⟨x, h1, h2⟩ := pz_bd hf
  exact pz_callS hC hK d hy hys hlk (hM x h1) hn hst hW hR hr (kk x h2)
theorem pz_Vu {α : Type} {F : Option (Unit)} {g : Unit → Option α} {r : α} (hC : pz_OK G C cc nL own) (hK : pz_K C rt0 fr0 lo0 mc0 ms0) (d : pz_d cc pc 3 pc' (.invokevirtual idx)) (hy : pz_y y cy mL rt np) (hyv : pz_yv y ci) (hlk : pz_lk own idx y) (hf : F.bind g = some r) (hM : ∀ x, F = some x → pz_Met C.2.1 G y cy mL rt fr lo 0 0 (.ref b :: As) f (none) (f) ∧ pz_is f b ci = some ()) (hn : As.length = np) (hst : stk = As.reverse ++ .ref b :: st) (hW : (st.map fun v => v.category).sum ≤ 8) (hR : fr + 1 ≤ fr0 ∧ 8 + (mL + 11) + lo ≤ lo0) (hr : n ≤ mc0 ∧ k ≤ ms0) (kk : ∀ x, g x = some r → pz_W G C nL pc' lv (st) (f) n k Q) : pz_W G C nL pc lv stk f n k Q := by
  obtain ⟨x, h1, h2⟩ := pz_bd hf
  exact pz_callV hC hK d hy hyv hlk (hM x h1).1 (hM x h1).2 hn hst hW hR hr (kk x h2)
theorem pz_Su {α : Type} {F : Option (Unit)} {g : Unit → Option α} {r : α} (hC : pz_OK G C cc nL own) (hK : pz_K C rt0 fr0 lo0 mc0 ms0) (d : pz_d cc pc 3 pc' (.invokestatic idx)) (hy : pz_y y cy mL rt np) (hys : pz_ys y) (hlk : pz_lk own idx y) (hf : F.bind g = some r) (hM : ∀ x, F = some x → pz_Met C.2.1 G y cy mL rt fr lo 0 0 As f (none) (f)) (hn : As.length = np) (hst : stk = As.reverse ++ st) (hW : (st.map fun v => v.category).sum ≤ 8) (hR : fr + 1 ≤ fr0 ∧ 8 + (mL + 11) + lo ≤ lo0) (hr : n ≤ mc0 ∧ k ≤ ms0) (kk : ∀ x, g x = some r → pz_W G C nL pc' lv (st) (f) n k Q) : pz_W G C nL pc lv stk f n k Q := by
  obtain ⟨x, h1, h2⟩ := pz_bd hf
  exact pz_callS hC hK d hy hys hlk (hM x h1) hn hst hW hR hr (kk x h2)
theorem pz_Iv {α : Type} {F : Option pz_H} {g : pz_H → Option α} {r : α} (hC : pz_OK G C cc nL own) (hK : pz_K C rt0 fr0 lo0 mc0 ms0) (d : pz_d cc pc 3 pc' (.invokespecial idx)) (hy : pz_y y cy mL none np) (hyi : pz_yi y) (hlk : pz_lk own idx y) (hf : F.bind g = some r) (hM : ∀ x, F = some x → pz_Met C.2.1 G y cy mL none fr lo mc ms (.ref b :: As) f none x) (hn : As.length = np) (hst : stk = As.reverse ++ .ref b :: st) (hW : (st.map fun v => v.category).sum ≤ 8) (hR : fr + 1 ≤ fr0 ∧ 8 + (mL + 11) + lo ≤ lo0) (hr : n + mc ≤ mc0 ∧ k + ms ≤ ms0) {n' k' : Nat} (hn' : n + mc = n') (hk' : k + ms = k') (kk : ∀ x, g x = some r → pz_W G C nL pc' lv st x n' k' Q) : pz_W G C nL pc lv stk f n k Q := by
  obtain ⟨x, h1, h2⟩ := pz_bd hf
  subst hn'; subst hk'
  exact pz_callI hC hK d hy hyi hlk (hM x h1) hn hst hW hR hr (kk x h2)
theorem pz_iret0 {x : Int32} (hC : pz_OK G C cc nL own) (hK : pz_K C (some .int) fr0 lo0 mc0 ms0) (d : pz_d cc pc 1 pc' .ireturn) : pz_W G C nL pc lv [.int x] f n k (pz_Q G C (some (.int x)) f n k) := by
  intro H locs ls hD hF hl
  obtain ⟨d1, rfl⟩ := d
  exact W.iret hC.1 hC.2.1 hK.1 (fun t ht hW => ⟨rfl, by rw [ht]; exact hD⟩) hF d1 (hlocks := hC.2.2.2.2.1)
theorem pz_zret0 {x : Int32} {ty : FieldType} (hC : pz_OK G C cc nL own) (hK : pz_K C (some ty) fr0 lo0 mc0 ms0) (d : pz_d cc pc 1 pc' .ireturn) (hn : narrow ty (.int x) = .int x) : pz_W G C nL pc lv [.int x] f n k (pz_Q G C (some (.int x)) f n k) := by
  intro H locs ls hD hF hl
  obtain ⟨d1, rfl⟩ := d
  exact W.zret hC.1 hC.2.1 hK.1 hn (fun t ht hW => ⟨rfl, by rw [ht]; exact hD⟩) hF d1 (hlocks := hC.2.2.2.2.1)
theorem pz_lret0 {x : Int64} (hC : pz_OK G C cc nL own) (hK : pz_K C (some .long) fr0 lo0 mc0 ms0) (d : pz_d cc pc 1 pc' .lreturn) : pz_W G C nL pc lv [.long x] f n k (pz_Q G C (some (.long x)) f n k) := by
  intro H locs ls hD hF hl
  obtain ⟨d1, rfl⟩ := d
  exact W.lret hC.1 hC.2.1 hK.1 (fun t ht hW => ⟨rfl, by rw [ht]; exact hD⟩) hF d1 (hlocks := hC.2.2.2.2.1)
theorem pz_vret0  (hC : pz_OK G C cc nL own) (hK : pz_K C (none) fr0 lo0 mc0 ms0) (d : pz_d cc pc 1 pc' .return_) : pz_W G C nL pc lv [] f n k (pz_Q G C (none) f n k) := by
  intro H locs ls hD hF hl
  obtain ⟨d1, rfl⟩ := d
  exact W.vret hC.1 hC.2.1 hK.1 (fun t ht hW => ⟨rfl, by rw [ht]; exact hD⟩) hF d1 (hlocks := hC.2.2.2.2.1)
theorem pz_iret {x r : Int32} (hC : pz_OK G C cc nL own) (hK : pz_K C (some .int) fr0 lo0 mc0 ms0) (d : pz_d cc pc 1 pc' .ireturn) (hf : some x = some r) : pz_W G C nL pc lv [.int x] f n k (pz_Q G C (some (.int r)) f n k) := by
  cases hf; exact pz_iret0 hC hK d
theorem pz_iretw {x : Int32} {r : Int32 × pz_H} (hC : pz_OK G C cc nL own) (hK : pz_K C (some .int) fr0 lo0 mc0 ms0) (d : pz_d cc pc 1 pc' .ireturn) (hf : some (x, f) = some r) : pz_W G C nL pc lv [.int x] f n k (pz_Q G C (some (.int r.1)) r.2 n k) := by
  cases hf; exact pz_iret0 hC hK d
theorem pz_bnar {x r : Int32} (h : pz_b x = some r) : x = r ∧ narrow .boolean (.int x) = .int x := by
  unfold pz_b at h
  by_cases hx : x &&& 1 = x
  · rw [if_pos hx] at h; cases h; refine ⟨rfl, ?_⟩; simp only [narrow]; rw [hx]
  · rw [if_neg hx] at h; cases h
theorem pz_zret {x r : Int32} (hC : pz_OK G C cc nL own) (hK : pz_K C (some .boolean) fr0 lo0 mc0 ms0) (d : pz_d cc pc 1 pc' .ireturn) (hf : pz_b x = some r) : pz_W G C nL pc lv [.int x] f n k (pz_Q G C (some (.int r)) f n k) := by
  obtain ⟨rfl, h⟩ := pz_bnar hf; exact pz_zret0 hC hK d h
theorem pz_zretw {x : Int32} {r : Int32 × pz_H} (hC : pz_OK G C cc nL own) (hK : pz_K C (some .boolean) fr0 lo0 mc0 ms0) (d : pz_d cc pc 1 pc' .ireturn) (hf : (pz_b x).bind (fun x => some (x, f)) = some r) : pz_W G C nL pc lv [.int x] f n k (pz_Q G C (some (.int r.1)) r.2 n k) := by
  obtain ⟨z, h1, h2⟩ := pz_bd hf
  obtain ⟨rfl, h⟩ := pz_bnar h1; cases h2; exact pz_zret0 hC hK d h
theorem pz_lret {x r : Int64} (hC : pz_OK G C cc nL own) (hK : pz_K C (some .long) fr0 lo0 mc0 ms0) (d : pz_d cc pc 1 pc' .lreturn) (hf : some x = some r) : pz_W G C nL pc lv [.long x] f n k (pz_Q G C (some (.long r)) f n k) := by
  cases hf; exact pz_lret0 hC hK d
theorem pz_lretw {x : Int64} {r : Int64 × pz_H} (hC : pz_OK G C cc nL own) (hK : pz_K C (some .long) fr0 lo0 mc0 ms0) (d : pz_d cc pc 1 pc' .lreturn) (hf : some (x, f) = some r) : pz_W G C nL pc lv [.long x] f n k (pz_Q G C (some (.long r.1)) r.2 n k) := by
  cases hf; exact pz_lret0 hC hK d
theorem pz_vret {r : pz_H} (hC : pz_OK G C cc nL own) (hK : pz_K C none fr0 lo0 mc0 ms0) (d : pz_d cc pc 1 pc' .return_) (hf : some f = some r) : pz_W G C nL pc lv [] f n k (pz_Q G C none r n k) := by
  cases hf; exact pz_vret0 hC hK d
theorem pz_uret {r : Unit} (hC : pz_OK G C cc nL own) (hK : pz_K C none fr0 lo0 mc0 ms0) (d : pz_d cc pc 1 pc' .return_) (hf : some () = some r) : pz_W G C nL pc lv [] f n k (pz_Q G C none f n k) := pz_vret0 hC hK d
theorem pz_objInit {a : Nat} (hC : pz_OK G C cc nL own) (hK : pz_K C rt0 fr0 lo0 mc0 ms0) (d : pz_d cc pc 3 pc' (.invokespecial idx)) (hlk : Cond.methodLink own idx Lib.objectInit ∈ lw_tbl) (hi : Cond.instanceMethod Lib.objectInit ∈ lw_tbl) (hc : Cond.code Lib.objectInit ⟨#[0xb1]⟩ 1 none ∈ lw_tbl) (hfr : 1 ≤ fr0) (hlo : (st.map fun v => v.category).sum + 12 ≤ lo0) (kk : pz_W G C nL pc' lv st f n k Q) : pz_W G C nL pc lv (.ref a :: st) f n k Q := by
  intro H locs ls hD hF hl
  obtain ⟨d1, rfl⟩ := d
  have hT := hC.2.2.2.2.2
  refine W.objInit hC.1 hC.2.1 hC.2.2.2.1 (hT.wd hlk rfl _) (hT.wd hi rfl _) (hT.wd hc rfl _) rfl (by rw [hC.2.2.1]; exact hl.1) rfl d1 (by rw [hK.2]; exact hfr) (by rw [hK.2]; simpa [JFrame.monitorRoom] using hlo) ?_
  exact kk H locs ls hD hF hl
theorem pz_new {Cn : String} {T : u_T} {N : Nat} {ty : Nat → FieldType} {fs : List Value} {n' k' : Nat} (hC : pz_OK G C cc nL own) (hK : pz_K C rt0 fr0 lo0 mc0 ms0) (d : pz_d cc pc 3 pc' (.new idx)) (hc : vwCl[ci]? = some (Cn, T, N)) (hin : ∀ w ∈ u_ws Cn T N, w ∈ lw_tbl) (hty : ∀ k, k < N → parseFieldDescriptor (T k).2.2.1 = some (ty k)) (h1 : Cond.classLink own idx Cn ∈ lw_tbl) (h2 : Cond.instantiable Cn N ∈ lw_tbl) (h3 : Cond.initialized Cn ∈ lw_tbl) (hfs : ∀ j, j < N → defaultValue (ty j) = vp_V fs j) (hn' : n + 1 = n') (hk' : k + N = k') (hr : n' ≤ mc0 ∧ k' ≤ ms0) (kk : pz_W G C nL pc' lv (.ref f.2.2 :: st) (pz_nw f (.inl (ci, fs))) n' k' Q) : pz_W G C nL pc lv st f n k Q := by
  intro H locs ls hD hF hl
  obtain ⟨d1, rfl⟩ := d
  subst hn'; subst hk'
  have hT := hC.2.2.2.2.2
  have hKn := hT.2.1.1 ci _ hc
  refine W.newcK hC.1 hC.2.1 hC.2.2.2.1 (hT.wd h1 rfl _) (hT.wd h2 rfl _) (hT.wd h3 rfl _) rfl d1 (by rw [hK.2]; exact hr.1) (by rw [hK.2]; exact hr.2) hKn.2.1 rfl fun H1 kC hkC e1 z1 o1 => ?_
  have hz : f.2.2 = H.size := hD.2.1
  rw [hz] at kk
  exact kk H1 locs ls (hD.push (pz_ci hc) ⟨_, hc, (u_born ty (pz_uws hT hin (pz_as C)) (fun w h => h) hKn hkC e1 hty).to hfs⟩ z1 o1) hF hl
theorem pz_newa {atype : ArrayType} {ty : FieldType} {t N : Nat} {x : Int32} {g : (Nat → Int32) ⊕ (Nat → Int64) ⊕ (Nat → Option Nat)} {n' k' : Nat} (hC : pz_OK G C cc nL own) (hK : pz_K C rt0 fr0 lo0 mc0 ms0) (d : pz_d cc pc 2 pc' (.newarray atype)) (ht10 : t < 10) (hw : Cond.arrayClass ty ∈ lw_tbl) (hty : newarray.typeOf atype = ty) (hra : ∀ G : pz_G, ∀ U, va_K G.1 vwCl (pz_tys G) U → U.vm.findClass ("[" ++ ty.toString) = some (G.2.1 t)) (hg : ∀ G : pz_G, ∀ cA, cA = G.2.1 t → ∃ a0, pz_e G (.inr (t, N, g)) = .inl (cA, a0) ∧ vp_cell cA a0 = arrV cA N (fun _ => defaultValue ty)) (hx : ¬ x < 0) (hN : x.toNatClampNeg = N) (hbytes : N * componentBytes ty ≤ 536870912) (hn' : n + 1 = n') (hk' : k + N = k') (hr : n' ≤ mc0 ∧ k' ≤ ms0) (kk : pz_W G C nL pc' lv (.ref f.2.2 :: st) (pz_nw f (.inr (t, N, g))) n' k' Q) : pz_W G C nL pc lv (.int x :: st) f n k Q := by
  intro H locs ls hD hF hl
  obtain ⟨d1, rfl⟩ := d
  subst hn'; subst hk'; subst hty
  have hT := hC.2.2.2.2.2
  refine va_newaK hC.1 hC.2.1 (hT.wd hw rfl _) rfl d1 rfl hx hN hbytes (by rw [hK.2]; exact hr.1) (by rw [hK.2]; exact hr.2) rfl fun H1 cA e1 z1 o1 hAr hNm => ?_
  have hz : f.2.2 = H.size := hD.2.1
  rw [hz] at kk
  have hcA : cA = G.2.1 t := Option.some.inj (hNm.symm.trans (hra G _ hT.2.1))
  obtain ⟨a0, ha1, ha2⟩ := hg G cA hcA
  refine kk H1 locs ls (hD.push ht10 ?_ z1 o1) hF hl
  rw [ha1]
  show H1[H.size]? = some (vp_cell _ _)
  rw [ha2]; exact e1
theorem pz_anew {Cn : String} {t N : Nat} {x : Int32} {n' k' : Nat} (hC : pz_OK G C cc nL own) (hK : pz_K C rt0 fr0 lo0 mc0 ms0) (d : pz_d cc pc 3 pc' (.anewarray idx)) (hw : Cond.classLink own idx Cn ∈ lw_tbl) (ht : ∀ G : pz_G, (pz_tys G)[t]? = some (G.2.1 t, .object Cn)) (h3 : 3 ≤ t ∧ t < 6) (hx : ¬ x < 0) (hN : x.toNatClampNeg = N) (hbytes : N * 4 ≤ 536870912) (hn' : n + 1 = n') (hk' : k + N = k') (hr : n' ≤ mc0 ∧ k' ≤ ms0) (kk : pz_W G C nL pc' lv (.ref f.2.2 :: st) (pz_nw f (.inr (t, N, .inr (.inr (fun _ => none))))) n' k' Q) : pz_W G C nL pc lv (.int x :: st) f n k Q := by
  intro H locs ls hD hF hl
  obtain ⟨d1, rfl⟩ := d
  subst hn'; subst hk'; subst hN
  have hT := hC.2.2.2.2.2
  have hov := hT.2.2.2.1 t h3.1 h3.2 _ (ht G) Cn rfl
  refine W.anew hC.1 hC.2.1 hC.2.2.2.1 (hT.wd hw rfl _) (va_AO.use hov) rfl d1 rfl hx hbytes (by rw [hK.2]; exact hr.1) (by rw [hK.2]; exact hr.2) fun cA kA comp f1 f2 f3 f4 => ?_
  have hz : f.2.2 = H.size := hD.2.1
  rw [hz] at kk
  obtain ⟨kA', comp', g1, g2, g3, g4⟩ := (hT.2.1.2 t _ (ht G)).2
  have hcA : cA = G.2.1 t := Option.some.inj (f1.symm.trans g4)
  subst hcA
  refine kk _ locs ls (hD.push (show t < 10 by omega) ?_ (by rw [Array.size_push]) (fun q hq => by rw [Array.getElem?_push, if_neg (Nat.ne_of_lt hq)])) hF hl
  show _ = some (vp_cell _ _)
  rw [vp_cell_q, Array.getElem?_push_size, ← arrV_new]
  rfl
end PZC
end
section
/-- loops' fuel: more than any loop goes round -/
def pz_F : Nat := 4000
theorem pz_case {α : Type} {x v : Int32} {A B : Option α} {r : α} {P : Prop} (hf : (if x = v then A else B) = some r) (kt : x = v → A = some r → P) (kf : ¬ x = v → B = some r → P) : P := by
  by_cases h : x = v
  · rw [if_pos h] at hf; exact kt h hf
  · rw [if_neg h] at hf; exact kf h hf
section PZX
variable {G : pz_G} {C : pz_C} {cc : ByteArray} {nL : Nat} {own : String} {pc pc' : Nat} {lv lv' : List (Nat × Value)} {st : List Value} {f : pz_H} {n k : Nat} {Q : State → Prop}
theorem pz_tabI {dflt lo hi : Int} {offs : Array Int} {len : Nat} {x v : Int32} {off : Int} {tgt : Nat} (hC : pz_OK G C cc nL own) (d : pz_d cc pc len pc' (.tableswitch dflt lo hi offs)) (c : x = v) (h1 : ¬ v.toInt < lo) (h2 : ¬ hi < v.toInt) (ho : offs[(v.toInt - lo).toNat]? = some off) (ht : (pc : Int) + off = (tgt : Int)) (kk : pz_W G C nL tgt lv st f n k Q) : pz_W G C nL pc lv (.int x :: st) f n k Q := by
  intro H locs ls hD hF hl
  subst c
  exact lv_tableIn hC.1 hC.2.1 d.1 h1 h2 ho ht (kk H locs ls hD hF hl)
theorem pz_tabO {dflt lo hi : Int} {offs : Array Int} {len : Nat} {x : Int32} {tgt : Nat} (hC : pz_OK G C cc nL own) (d : pz_d cc pc len pc' (.tableswitch dflt lo hi offs)) (h : x.toInt < lo ∨ hi < x.toInt) (ht : (pc : Int) + dflt = (tgt : Int)) (kk : pz_W G C nL tgt lv st f n k Q) : pz_W G C nL pc lv (.int x :: st) f n k Q := by
  intro H locs ls hD hF hl
  exact lv_tableOut hC.1 hC.2.1 d.1 h ht (kk H locs ls hD hF hl)
theorem pz_icmp_geT {x y : Int32} {tgt : Nat} {off : Int} (hC : pz_OK G C cc nL own) (d : pz_j cc pc pc' tgt (.if_icmp .ge off) off) (h : y ≤ x) (kk : pz_W G C nL tgt lv st f n k Q) : pz_W G C nL pc lv (.int y :: .int x :: st) f n k Q := by
  intro H locs ls hD hF hl
  exact lv_icmp_ge hC.1 hC.2.1 d.1 d.2.2 (fun _ => kk H locs ls hD hF hl) (fun c => absurd h c)
theorem pz_icmp_geF {x y : Int32} {tgt : Nat} {off : Int} (hC : pz_OK G C cc nL own) (d : pz_j cc pc pc' tgt (.if_icmp .ge off) off) (h : ¬ y ≤ x) (kk : pz_W G C nL pc' lv st f n k Q) : pz_W G C nL pc lv (.int y :: .int x :: st) f n k Q := by
  intro H locs ls hD hF hl
  obtain ⟨d1, rfl, d3⟩ := d
  exact lv_icmp_ge hC.1 hC.2.1 d1 d3 (fun c => absurd c h) (fun _ => kk H locs ls hD hF hl)
variable {y : MethodName} {cy : ByteArray} {mL idx np fr lo mc ms ci b fr0 lo0 mc0 ms0 : Nat} {rt rt0 : Option FieldType} {As stk : List Value} {v : Option Value} {f' : pz_H} {Cn : String}

theorem pz_callU {x : MethodName} {owner : String} (hC : pz_OK G C cc nL own) (hK : pz_K C rt0 fr0 lo0 mc0 ms0) (d : pz_d cc pc 3 pc' (.invokevirtual idx)) (hy : pz_y y cy mL rt np) (hyx : y = ⟨owner, x.name, x.desc⟩) (hin : Cond.instanceMethod y ∈ lw_tbl) (hse : Cond.selects Cn x y ∈ lw_tbl) (hsm : Cond.sameMethod x.cls owner x.name x.desc ∈ lw_tbl) (hrc : pz_rc ci Cn) (hlk : Cond.methodLink own idx x ∈ lw_tbl) (hM : pz_Met C.2.1 G y cy mL rt fr lo mc ms (.ref b :: As) f v f') (hb : pz_is f b ci = some ()) (hn : As.length = np) (hst : stk = As.reverse ++ .ref b :: st) (hW : (st.map fun v => v.category).sum ≤ 8) (hR : fr + 1 ≤ fr0 ∧ 8 + (mL + 11) + lo ≤ lo0) (hr : n + mc ≤ mc0 ∧ k + ms ≤ ms0) (kk : pz_W G C nL pc' lv (v.toList ++ st) f' (n + mc) (k + ms) Q) : pz_W G C nL pc lv stk f n k Q := by
  intro H locs ls hD hF hl
  obtain ⟨d1, rfl⟩ := d
  have hT := hC.2.2.2.2.2
  have hp : PreV (pz_s C) H Cn b (pz_Pc G (.ref b :: As) f) As := ⟨pz_blind, pz_recv hD hT hb hrc, fun U hU hW => ⟨rfl, hT.warm hW, by rw [hU]; exact hD⟩⟩
  have hroom : n + mc ≤ (pz_R C).cells ∧ k + ms ≤ (pz_R C).slots := by rw [hK.2]; exact hr
  refine pz_behind (va_runU (owner := owner) (x := x) (nL := nL) (Ts := []) (bytes := cy) (maxL := mL) (ret := rt) ⟨hC.1, hC.2.1, hC.2.2.1, hC.2.2.2.1, fun _ h => by cases h⟩ hM ⟨⟨rfl, rfl, by rw [hK.2]; exact hR.1, by rw [hK.2]; exact hR.2, fun w hw a' U hW => ?_, List.mem_singleton.mpr rfl⟩, hT.wd hy.1 rfl _, hT.wd hy.2.1 rfl _, ?_, fun sig h => ?_, hT.wd hlk rfl _, hT.wd hsm rfl _, ?_, hT.wd hse rfl _, hT.wd hin rfl _⟩ hp rfl hn hl.1 hst (lv_room hW) d1 hroom) hF hl kk
  · rw [List.mem_singleton.mp hw]; exact hT.ww hW hy.1 rfl _
  · have h1 := hy.2.2.1; rw [hyx] at h1; exact h1
  · have h2 := hy.2.2.2
    rw [hyx] at h2
    rw [h] at h2
    exact (Option.some.inj h2).symm
  · rw [← hyx]; exact va_Decl.of (hT.wd hin rfl #[]) (hT.wd hy.1 rfl #[])
theorem pz_gets {i : Nat} {q : String × String × String} (hC : pz_OK G C cc nL own) (d : pz_d cc pc 3 pc' (.getstatic idx)) (hq : pz_sF[i]? = some q) (hlk : Cond.fieldLink own idx q.1 q.2.1 q.2.2 ∈ lw_tbl ∨ ∃ host, Cond.fieldLinkNest own idx q.1 q.2.1 q.2.2 host ∈ lw_tbl) (kk : pz_W G C nL pc' lv (.ref (f.2.1 i) :: st) f n k Q) : pz_W G C nL pc lv st f n k Q := by
  intro H locs ls hD hF hl
  obtain ⟨d1, rfl⟩ := d
  have hT := hC.2.2.2.2.2
  obtain ⟨cf, kf, fi, fl, a, cell, h1, h2, h3, h4, h5, h6, h7, h8⟩ := hT.2.2.1.2.1 i q hq
  have ha : a < pz_z G := Nat.not_le.mp h8
  rw [hD.1] at kk
  rcases hlk with hlk | ⟨host, hlk⟩
  · exact W.gets hC.1 hC.2.1 hC.2.2.2.1 (hT.wd hlk rfl _) h1 h2 h3 h4 (by rw [hD.2.2.2.2.2 a ha]; exact h5) (fun e => by rw [e] at h6; cases h6) h7 rfl d1 (kk H locs ls hD hF hl)
  · exact va_WgetsN hC.1 hC.2.1 hC.2.2.2.1 (hT.wd hlk rfl _) h1 h2 h3 h4 (by rw [hD.2.2.2.2.2 a ha]; exact h5) (fun e => by rw [e] at h6; cases h6) h7 rfl d1 (kk H locs ls hD hF hl)
theorem pz_getsJ {i : Nat} {q : String × String × String × Int32} (hC : pz_OK G C cc nL own) (d : pz_d cc pc 3 pc' (.getstatic idx)) (hq : pz_sJ[i]? = some q) (hlk : Cond.fieldLink own idx q.1 q.2.1 q.2.2.1 ∈ lw_tbl) (kk : pz_W G C nL pc' lv (.int q.2.2.2 :: st) f n k Q) : pz_W G C nL pc lv st f n k Q := by
  intro H locs ls hD hF hl
  obtain ⟨d1, rfl⟩ := d
  have hT := hC.2.2.2.2.2
  obtain ⟨cf, kf, fi, fl, a, cell, h1, h2, h3, h4, h5, h6, h7, h8⟩ := hT.2.2.1.2.2.2.1 i q hq
  have ha : a < pz_z G := Nat.not_le.mp h8
  exact W.gets hC.1 hC.2.1 hC.2.2.2.1 (hT.wd hlk rfl _) h1 h2 h3 h4 (by rw [hD.2.2.2.2.2 a ha]; exact h5) (fun e => by rw [e] at h6; cases h6) h7 rfl d1 (kk H locs ls hD hF hl)
theorem pz_ldcS {i : Nat} {tx : String} (hC : pz_OK G C cc nL own) (d : pz_d cc pc 2 pc' (.ldc idx)) (hq : pz_sK[i]? = some (own, idx, tx)) (kk : pz_W G C nL pc' lv (.ref (f.2.1 (5 + i)) :: st) f n k Q) : pz_W G C nL pc lv st f n k Q := by
  intro H locs ls hD hF hl
  obtain ⟨d1, rfl⟩ := d
  have hT := hC.2.2.2.2.2
  rw [hD.1] at kk
  exact va_ldcS hC.1 hC.2.1 hC.2.2.2.1 (hT.2.2.1.2.2.1 i _ hq) d1 (kk H locs ls hD hF hl)
theorem pz_D.sta {G : pz_G} {f : pz_H} {H : Heap} {U : State} {a : Nat} {e : pz_E} (hD : pz_D G f H) (hT : pz_T G U) (h : f.1 a = some e) (hs : ¬ pz_dy e) : a < pz_z G ∧ pz_sat G U a e := by
  by_cases ha : a < pz_z G
  · exact ⟨ha, hT.2.2.1.1 a _ ha (by rw [← hD.2.2.2.1 a ha]; exact h)⟩
  · exact absurd (hD.2.2.2.2.1 a _ (by omega) h).1 hs
theorem pz_getS {a j : Nat} {v : Value} (hC : pz_OK G C cc nL own) (d : pz_d cc pc 3 pc' (.getfield idx)) (hci : 100 ≤ ci) (hlk : Cond.fieldLink own idx (pz_sT ci j).1 (pz_sT ci j).2.1 (pz_sT ci j).2.2 ∈ lw_tbl ∨ ∃ host, Cond.fieldLinkNest own idx (pz_sT ci j).1 (pz_sT ci j).2.1 (pz_sT ci j).2.2 host ∈ lw_tbl) (hv : pz_gV f a ci j = some v) (kk : pz_W G C nL pc' lv (v :: st) f n k Q) : pz_W G C nL pc lv (.ref a :: st) f n k Q := by
  intro H locs ls hD hF hl
  obtain ⟨d1, rfl⟩ := d
  have hT := hC.2.2.2.2.2
  obtain ⟨fs, h1, h2⟩ := pz_gV_of hv
  obtain ⟨ha, -, -, h3⟩ := hD.sta hT h1 (by show ¬ (ci < 100); omega)
  obtain ⟨cf, k0, i, fl, cell, g1, g2, g3, g4, g5, g6⟩ := h3 j v h2
  rcases hlk with hlk | ⟨host, hlk⟩
  · exact W.getf hC.1 hC.2.1 hC.2.2.2.1 (hT.wd hlk rfl _) g1 g2 (by rw [hD.2.2.2.2.2 a ha]; exact g3) g4 g5 rfl rfl d1 (kk H locs ls hD hF hl)
  · exact va_Wgetf hC.1 hC.2.1 hC.2.2.2.1 (hT.wd hlk rfl _) g1 g2 (by rw [hD.2.2.2.2.2 a ha]; exact g3) g4 g5 rfl rfl d1 (kk H locs ls hD hF hl)
theorem pz_getSI {α : Type} {a j : Nat} {g : Int32 → Option α} {r : α} (hC : pz_OK G C cc nL own) (d : pz_d cc pc 3 pc' (.getfield idx)) (hci : 100 ≤ ci) (hlk : Cond.fieldLink own idx (pz_sT ci j).1 (pz_sT ci j).2.1 (pz_sT ci j).2.2 ∈ lw_tbl ∨ ∃ host, Cond.fieldLinkNest own idx (pz_sT ci j).1 (pz_sT ci j).2.1 (pz_sT ci j).2.2 host ∈ lw_tbl) (hf : (pz_gI f a ci j).bind g = some r) (kk : ∀ v, g v = some r → pz_W G C nL pc' lv (.int v :: st) f n k Q) : pz_W G C nL pc lv (.ref a :: st) f n k Q := by
  obtain ⟨v, h1, h2⟩ := pz_bd hf
  exact pz_getS hC d hci hlk (pz_gI_of h1) (kk v h2)
theorem pz_getSR {α : Type} {a j : Nat} {g : Nat → Option α} {r : α} (hC : pz_OK G C cc nL own) (d : pz_d cc pc 3 pc' (.getfield idx)) (hci : 100 ≤ ci) (hlk : Cond.fieldLink own idx (pz_sT ci j).1 (pz_sT ci j).2.1 (pz_sT ci j).2.2 ∈ lw_tbl ∨ ∃ host, Cond.fieldLinkNest own idx (pz_sT ci j).1 (pz_sT ci j).2.1 (pz_sT ci j).2.2 host ∈ lw_tbl) (hf : (pz_gR f a ci j).bind g = some r) (kk : ∀ v, g v = some r → pz_W G C nL pc' lv (.ref v :: st) f n k Q) : pz_W G C nL pc lv (.ref a :: st) f n k Q := by
  obtain ⟨v, h1, h2⟩ := pz_bd hf
  exact pz_getS hC d hci hlk (pz_gR_of h1) (kk v h2)
theorem pz_stA {a t N : Nat} {H : Heap} {U : State} {gg : Nat → Int32} (hD : pz_D G f H) (hT : pz_T G U) (h : f.1 a = some (.inr (t, N, .inl gg))) (ht : 10 ≤ t) : ∃ cell : Cell, H[a]? = some cell ∧ U.isArrayOf cell (pz_sty t) ∧ cell.vm ≠ .unknown ∧ N ≤ cell.slots.size ∧ cell.slots.size.toInt32 = Int32.ofNat N ∧ ∀ j : Nat, j < N → cell.slots[j]? = some (.int (gg j)) := by
  obtain ⟨ha, -, cell, h1, h2, h3, h4, h5, h6, -⟩ := hD.sta hT h (by show ¬ (t < 10); omega)
  exact ⟨cell, by rw [hD.2.2.2.2.2 a ha]; exact h1, h2, h3, h4, h5, h6⟩
theorem pz_stR {a t N : Nat} {H : Heap} {U : State} {gg : Nat → Option Nat} (hD : pz_D G f H) (hT : pz_T G U) (h : f.1 a = some (.inr (t, N, .inr (.inr gg)))) (ht : 10 ≤ t) : ∃ cell : Cell, H[a]? = some cell ∧ U.isArrayOf cell (pz_sty t) ∧ cell.vm ≠ .unknown ∧ N ≤ cell.slots.size ∧ cell.slots.size.toInt32 = Int32.ofNat N ∧ ∀ j : Nat, j < N → cell.slots[j]? = some (va_rf (gg j)) := by
  obtain ⟨ha, -, cell, h1, h2, h3, h4, h5, h6, -⟩ := hD.sta hT h (by show ¬ (t < 10); omega)
  exact ⟨cell, by rw [hD.2.2.2.2.2 a ha]; exact h1, h2, h3, h4, h5, h6⟩
theorem pz_inS {i : Int32} {N : Nat} {cell : Cell} (h : vp_in i N) (h4 : N ≤ cell.slots.size) : ¬ (i < 0 ∨ cell.slots.size ≤ i.toNatClampNeg) := by
  intro q
  rcases q with q | q
  · exact h (Or.inl q)
  · exact h (Or.inr (by omega))
theorem pz_ialdS {α : Type} {a : Nat} {i : Int32} {g : Int32 → Option α} {r : α} (hC : pz_OK G C cc nL own) (d : pz_d cc pc 1 pc' .iaload) (hf : (pz_aI f a 10 i).bind g = some r) (kk : ∀ v, g v = some r → pz_W G C nL pc' lv (.int v :: st) f n k Q) : pz_W G C nL pc lv (.int i :: .ref a :: st) f n k Q := by
  intro H locs ls hD hF hl
  obtain ⟨d1, rfl⟩ := d
  obtain ⟨v, h1, h2⟩ := pz_bd hf
  obtain ⟨N, gg, h3, h4, rfl⟩ := pz_aI_of h1
  have hT := hC.2.2.2.2.2
  obtain ⟨cell, c1, c2, c3, c4, c5, c6⟩ := pz_stA hD hT h3 (by decide)
  exact W.iald hC.1 hC.2.1 c1 c2 c3 (pz_inS h4 c4) (c6 _ (Nat.not_le.mp fun q => h4 (Or.inr q))) rfl rfl d1 (kk _ h2 H locs ls hD hF hl)
theorem pz_baldS {α : Type} {a : Nat} {i : Int32} {g : Int32 → Option α} {r : α} (hC : pz_OK G C cc nL own) (d : pz_d cc pc 1 pc' .baload) (hf : (pz_aI f a 12 i).bind g = some r) (kk : ∀ v, g v = some r → pz_W G C nL pc' lv (.int v :: st) f n k Q) : pz_W G C nL pc lv (.int i :: .ref a :: st) f n k Q := by
  intro H locs ls hD hF hl
  obtain ⟨d1, rfl⟩ := d
  obtain ⟨v, h1, h2⟩ := pz_bd hf
  obtain ⟨N, gg, h3, h4, rfl⟩ := pz_aI_of h1
  have hT := hC.2.2.2.2.2
  obtain ⟨cell, c1, c2, c3, c4, c5, c6⟩ := pz_stA hD hT h3 (by decide)
  exact W.bald hC.1 hC.2.1 c1 c2 c3 (pz_inS h4 c4) (c6 _ (Nat.not_le.mp fun q => h4 (Or.inr q))) rfl rfl d1 (kk _ h2 H locs ls hD hF hl)
theorem pz_aaldS {α : Type} {a : Nat} {i : Int32} {g : Nat → Option α} {r : α} (hC : pz_OK G C cc nL own) (d : pz_d cc pc 1 pc' .aaload) (hf : (pz_aR f a 11 i).bind g = some r) (kk : ∀ v, g v = some r → pz_W G C nL pc' lv (.ref v :: st) f n k Q) : pz_W G C nL pc lv (.int i :: .ref a :: st) f n k Q := by
  intro H locs ls hD hF hl
  obtain ⟨d1, rfl⟩ := d
  obtain ⟨v, h1, h2⟩ := pz_bd hf
  obtain ⟨N, gg, h3, h4, h5⟩ := pz_aR_of h1
  have hT := hC.2.2.2.2.2
  obtain ⟨cell, c1, c2, c3, c4, c5, c6⟩ := pz_stR hD hT h3 (by decide)
  have c7 := c6 _ (Nat.not_le.mp fun q => h4 (Or.inr q))
  rw [h5] at c7
  exact W.aald (ty := .object "PartedPension$Verb") hC.1 hC.2.1 c1 c2 rfl c3 (pz_inS h4 c4) c7 rfl rfl d1 (kk _ h2 H locs ls hD hF hl)
theorem pz_alenS {α : Type} {a t : Nat} {g : Int32 → Option α} {r : α} (hC : pz_OK G C cc nL own) (d : pz_d cc pc 1 pc' .arraylength) (ht : 10 ≤ t) (hf : (pz_ln f a t).bind g = some r) (kk : ∀ v, g v = some r → pz_W G C nL pc' lv (.int v :: st) f n k Q) : pz_W G C nL pc lv (.ref a :: st) f n k Q := by
  intro H locs ls hD hF hl
  obtain ⟨d1, rfl⟩ := d
  obtain ⟨v, h1, h2⟩ := pz_bd hf
  obtain ⟨N, gg, h3, rfl⟩ := pz_ln_of h1
  have hT := hC.2.2.2.2.2
  rcases gg with gg | gg | gg
  · obtain ⟨cell, c1, c2, c3, c4, c5, c6⟩ := pz_stA hD hT h3 ht
    exact W.alen hC.1 hC.2.1 c1 c2 c5 rfl rfl d1 (kk _ h2 H locs ls hD hF hl)
  · exact absurd (hD.sta hT h3 (by show ¬ (t < 10); omega)).2 id
  · obtain ⟨cell, c1, c2, c3, c4, c5, c6⟩ := pz_stR hD hT h3 ht
    exact W.alen hC.1 hC.2.1 c1 c2 c5 rfl rfl d1 (kk _ h2 H locs ls hD hF hl)
theorem pz_aretO {x : Option Nat} {r : Option Nat} {Cn : String} (hC : pz_OK G C cc nL own) (hK : pz_K C (some (.object Cn)) fr0 lo0 mc0 ms0) (d : pz_d cc pc 1 pc' .areturn) (hf : some x = some r) : pz_W G C nL pc lv [va_rf x] f n k (pz_Q G C (some (va_rf r)) f n k) := by
  intro H locs ls hD hF hl
  obtain ⟨d1, rfl⟩ := d
  cases hf
  exact W.aret hC.1 hC.2.1 hK.1 (Or.inl ⟨_, rfl⟩) (va_rf_or x) (fun t ht hW => ⟨rfl, by rw [ht]; exact hD⟩) hF d1 (hlocks := hC.2.2.2.2.1)
theorem pz_VO {α : Type} {F : Option (Option Nat)} {g : Option Nat → Option α} {r : α} (hC : pz_OK G C cc nL own) (hK : pz_K C rt0 fr0 lo0 mc0 ms0) (d : pz_d cc pc 3 pc' (.invokevirtual idx)) (hy : pz_y y cy mL rt np) (hyv : pz_yv y ci) (hlk : pz_lk own idx y) (hf : F.bind g = some r) (hM : ∀ x, F = some x → pz_Met C.2.1 G y cy mL rt fr lo 0 0 (.ref b :: As) f (some (va_rf x)) f ∧ pz_is f b ci = some ()) (hn : As.length = np) (hst : stk = As.reverse ++ .ref b :: st) (hW : (st.map fun v => v.category).sum ≤ 8) (hR : fr + 1 ≤ fr0 ∧ 8 + (mL + 11) + lo ≤ lo0) (hr : n ≤ mc0 ∧ k ≤ ms0) (kk : ∀ x, g x = some r → pz_W G C nL pc' lv (va_rf x :: st) f n k Q) : pz_W G C nL pc lv stk f n k Q := by
  obtain ⟨x, h1, h2⟩ := pz_bd hf
  exact pz_callV hC hK d hy hyv hlk (hM x h1).1 (hM x h1).2 hn hst hW hR hr (kk x h2)
theorem pz_VU {α : Type} {F : Option Int32} {g : Int32 → Option α} {r : α} {x : MethodName} {owner : String} (hC : pz_OK G C cc nL own) (hK : pz_K C rt0 fr0 lo0 mc0 ms0) (d : pz_d cc pc 3 pc' (.invokevirtual idx)) (hy : pz_y y cy mL rt np) (hyx : y = ⟨owner, x.name, x.desc⟩) (hin : Cond.instanceMethod y ∈ lw_tbl) (hse : Cond.selects Cn x y ∈ lw_tbl) (hsm : Cond.sameMethod x.cls owner x.name x.desc ∈ lw_tbl) (hrc : pz_rc ci Cn) (hlk : Cond.methodLink own idx x ∈ lw_tbl) (hf : F.bind g = some r) (hM : ∀ x, F = some x → pz_Met C.2.1 G y cy mL rt fr lo 0 0 (.ref b :: As) f (some (.int x)) f ∧ pz_is f b ci = some ()) (hn : As.length = np) (hst : stk = As.reverse ++ .ref b :: st) (hW : (st.map fun v => v.category).sum ≤ 8) (hR : fr + 1 ≤ fr0 ∧ 8 + (mL + 11) + lo ≤ lo0) (hr : n ≤ mc0 ∧ k ≤ ms0) (kk : ∀ x, g x = some r → pz_W G C nL pc' lv (.int x :: st) f n k Q) : pz_W G C nL pc lv stk f n k Q := by
  obtain ⟨x, h1, h2⟩ := pz_bd hf
  exact pz_callU hC hK d hy hyx hin hse hsm hrc hlk (hM x h1).1 (hM x h1).2 hn hst hW hR hr (kk x h2)
/-- a byte's, a char's int -/
def pz_nb (x : Int32) : Option Int32 := if x.toInt8.toInt32 = x then some x else none
def pz_nc (x : Int32) : Option Int32 := if (x.toUInt32 % 65536).toInt32 = x then some x else none
theorem pz_bret {x r : Int32} (hC : pz_OK G C cc nL own) (hK : pz_K C (some .byte) fr0 lo0 mc0 ms0) (d : pz_d cc pc 1 pc' .ireturn) (hf : pz_nb x = some r) : pz_W G C nL pc lv [.int x] f n k (pz_Q G C (some (.int r)) f n k) := by
  unfold pz_nb at hf
  by_cases hx : x.toInt8.toInt32 = x
  · rw [if_pos hx] at hf; cases hf; exact pz_zret0 hC hK d (by have h := pk_nb x; rw [hx] at h; exact h)
  · rw [if_neg hx] at hf; cases hf
theorem pz_cret {x r : Int32} (hC : pz_OK G C cc nL own) (hK : pz_K C (some .char) fr0 lo0 mc0 ms0) (d : pz_d cc pc 1 pc' .ireturn) (hf : pz_nc x = some r) : pz_W G C nL pc lv [.int x] f n k (pz_Q G C (some (.int r)) f n k) := by
  unfold pz_nc at hf
  by_cases hx : (x.toUInt32 % 65536).toInt32 = x
  · rw [if_pos hx] at hf; cases hf; exact pz_zret0 hC hK d (by have h := pk_nc x; rw [hx] at h; exact h)
  · rw [if_neg hx] at hf; cases hf
theorem pz_i2c {x : Int32} (hC : pz_OK G C cc nL own) (d : pz_d cc pc 1 pc' .i2c) (kk : pz_W G C nL pc' lv (.int (x.toUInt32 % 65536).toInt32 :: st) f n k Q) : pz_W G C nL pc lv (.int x :: st) f n k Q := by
  intro H locs ls hD hF hl
  obtain ⟨d1, rfl⟩ := d
  exact lv_i2c hC.1 hC.2.1 d1 rfl (kk H locs ls hD hF hl)
theorem pz_pop {v : Value} (hC : pz_OK G C cc nL own) (d : pz_d cc pc 1 pc' .pop) (hv : v.category = 1) (kk : pz_W G C nL pc' lv st f n k Q) : pz_W G C nL pc lv (v :: st) f n k Q := by
  intro H locs ls hD hF hl
  obtain ⟨d1, rfl⟩ := d
  exact lv_pop hC.1 hC.2.1 d1 hv (kk H locs ls hD hF hl)
end PZX
end
