theorem sl_X4_96 : Cond.fieldLinkNest RX4 96 "PartedPension$Verb" "ALL" "[LPartedPension$Verb;" "PartedPension" ∈ lw_tbl := List.mem_of_getElem? (i := 494) (by decide +kernel)
theorem sl_X4_100 : Cond.fieldLinkNest RX4 100 "PartedPension$Verb" "word" "Ljava/lang/String;" "PartedPension" ∈ lw_tbl := List.mem_of_getElem? (i := 1441) (by decide +kernel)
theorem sl_Jx29ce0_7 : Cond.fieldLink RJx29ce0 7 "java/lang/Enum" "ordinal" "I" ∈ lw_tbl := List.mem_of_getElem? (i := 1444) (by decide +kernel)
theorem sl_X8_84 : Cond.fieldLink RX8 84 "PartedPension$1" "$SwitchMap$PartedPension$Verb" "[I" ∈ lw_tbl := List.mem_of_getElem? (i := 557) (by decide +kernel)
def vo_x : MethodName := ⟨"PartedPension$Verb", "ordinal", "()I"⟩
theorem vo_in : Cond.instanceMethod yJx29ce0_ordinal_8abf5 ∈ lw_tbl := List.mem_of_getElem? (i := 563) (by decide +kernel)
theorem vo_se : Cond.selects "PartedPension$Verb" vo_x yJx29ce0_ordinal_8abf5 ∈ lw_tbl := List.mem_of_getElem? (i := 562) (by decide +kernel)
theorem vo_sm : Cond.sameMethod vo_x.cls "java/lang/Enum" vo_x.name vo_x.desc ∈ lw_tbl := List.mem_of_getElem? (i := 560) (by decide +kernel)
theorem vo_lk90 : Cond.methodLink RX8 90 vo_x ∈ lw_tbl := List.mem_of_getElem? (i := 559) (by decide +kernel)
theorem py_Jx29ce0_ordinal_8abf5 : pz_y yJx29ce0_ordinal_8abf5 cJx29ce0_ordinal_8abf5 1 (some .int) 0 := ⟨List.mem_of_getElem? (i := 564) (by decide +kernel), List.mem_of_getElem? (i := 129) (by decide +kernel), ⟨by decide +kernel, by decide +kernel⟩, by decide +kernel⟩
theorem fa_X8_94 : pz_fa RX8 94 2 5 := ⟨RX3, TX3, 10, rfl, by decide, pz_wsX3, Or.inr ⟨"PartedPension", List.mem_of_getElem? (i := 285) (by decide +kernel)⟩⟩
theorem fa_X8_99 : pz_fa RX8 99 2 8 := ⟨RX3, TX3, 10, rfl, by decide, pz_wsX3, Or.inr ⟨"PartedPension", List.mem_of_getElem? (i := 296) (by decide +kernel)⟩⟩
theorem lk_X8_106 : pz_lk RX8 106 yX3_serve := Or.inr ⟨"PartedPension", List.mem_of_getElem? (i := 599) (by decide +kernel)⟩
theorem py_X3_serve : pz_y yX3_serve cX3_serve 6 (some .boolean) 3 := ⟨List.mem_of_getElem? (i := 602) (by decide +kernel), List.mem_of_getElem? (i := 121) (by decide +kernel), ⟨by decide +kernel, by decide +kernel⟩, by decide +kernel⟩
theorem pv_X3_serve : pz_yv yX3_serve 2 := ⟨List.mem_of_getElem? (i := 601) (by decide +kernel), List.mem_of_getElem? (i := 22) (by decide +kernel), Or.inl ⟨TX3, 10, rfl⟩⟩
theorem lk_X8_110 : pz_lk RX8 110 yX3_wed := Or.inr ⟨"PartedPension", List.mem_of_getElem? (i := 611) (by decide +kernel)⟩
theorem py_X3_wed : pz_y yX3_wed cX3_wed 3 (some .boolean) 2 := ⟨List.mem_of_getElem? (i := 614) (by decide +kernel), List.mem_of_getElem? (i := 121) (by decide +kernel), ⟨by decide +kernel, by decide +kernel⟩, by decide +kernel⟩
theorem pv_X3_wed : pz_yv yX3_wed 2 := ⟨List.mem_of_getElem? (i := 613) (by decide +kernel), List.mem_of_getElem? (i := 25) (by decide +kernel), Or.inl ⟨TX3, 10, rfl⟩⟩
theorem lk_X8_102 : pz_lk RX8 102 yX3_beginAnew := Or.inr ⟨"PartedPension", List.mem_of_getElem? (i := 598) (by decide +kernel)⟩
theorem lk_X8_114 : pz_lk RX8 114 yX3_part := Or.inr ⟨"PartedPension", List.mem_of_getElem? (i := 623) (by decide +kernel)⟩
theorem py_X3_part : pz_y yX3_part cX3_part 6 (some .boolean) 4 := ⟨List.mem_of_getElem? (i := 626) (by decide +kernel), List.mem_of_getElem? (i := 121) (by decide +kernel), ⟨by decide +kernel, by decide +kernel⟩, by decide +kernel⟩
theorem pv_X3_part : pz_yv yX3_part 2 := ⟨List.mem_of_getElem? (i := 625) (by decide +kernel), List.mem_of_getElem? (i := 28) (by decide +kernel), Or.inl ⟨TX3, 10, rfl⟩⟩
theorem fa_X8_118 : pz_fa RX8 118 2 9 := ⟨RX3, TX3, 10, rfl, by decide, pz_wsX3, Or.inr ⟨"PartedPension", List.mem_of_getElem? (i := 300) (by decide +kernel)⟩⟩
theorem lk_X8_122 : pz_lk RX8 122 yX2_tellYear := Or.inr ⟨"PartedPension", List.mem_of_getElem? (i := 627) (by decide +kernel)⟩
theorem py_X2_tellYear : pz_y yX2_tellYear cX2_tellYear 8 (some .boolean) 2 := ⟨List.mem_of_getElem? (i := 630) (by decide +kernel), List.mem_of_getElem? (i := 122) (by decide +kernel), ⟨by decide +kernel, by decide +kernel⟩, by decide +kernel⟩
theorem pv_X2_tellYear : pz_yv yX2_tellYear 1 := ⟨List.mem_of_getElem? (i := 629) (by decide +kernel), List.mem_of_getElem? (i := 29) (by decide +kernel), Or.inl ⟨TX2, 3, rfl⟩⟩
theorem lk_X8_127 : pz_lk RX8 127 yX3_alter := Or.inr ⟨"PartedPension", List.mem_of_getElem? (i := 636) (by decide +kernel)⟩
theorem py_X3_alter : pz_y yX3_alter cX3_alter 4 (some .boolean) 3 := ⟨List.mem_of_getElem? (i := 639) (by decide +kernel), List.mem_of_getElem? (i := 121) (by decide +kernel), ⟨by decide +kernel, by decide +kernel⟩, by decide +kernel⟩
theorem pv_X3_alter : pz_yv yX3_alter 2 := ⟨List.mem_of_getElem? (i := 638) (by decide +kernel), List.mem_of_getElem? (i := 31) (by decide +kernel), Or.inl ⟨TX3, 10, rfl⟩⟩
theorem sl_X8_71 : Cond.fieldLink RX8 71 "PartedPension$Verb" "first" "I" ∈ lw_tbl := List.mem_of_getElem? (i := 1445) (by decide +kernel)
theorem sl_X8_75 : Cond.fieldLink RX8 75 "PartedPension$Verb" "second" "I" ∈ lw_tbl := List.mem_of_getElem? (i := 1446) (by decide +kernel)
theorem sl_X8_78 : Cond.fieldLink RX8 78 "PartedPension$Verb" "third" "I" ∈ lw_tbl := List.mem_of_getElem? (i := 1447) (by decide +kernel)
theorem sl_X8_81 : Cond.fieldLink RX8 81 "PartedPension$Verb" "fourth" "I" ∈ lw_tbl := List.mem_of_getElem? (i := 1448) (by decide +kernel)
theorem lk_X4_64 : pz_lk RX4 64 yX4_readClose := Or.inl (List.mem_of_getElem? (i := 590) (by decide +kernel))
theorem py_X4_readClose : pz_y yX4_readClose cX4_readClose 1 none 0 := ⟨List.mem_of_getElem? (i := 593) (by decide +kernel), List.mem_of_getElem? (i := 125) (by decide +kernel), ⟨by decide +kernel, by decide +kernel⟩, by decide +kernel⟩
theorem pv_X4_readClose : pz_yv yX4_readClose 3 := ⟨List.mem_of_getElem? (i := 592) (by decide +kernel), List.mem_of_getElem? (i := 20) (by decide +kernel), Or.inl ⟨TX4, 8, rfl⟩⟩
theorem lk_X4_67 : pz_lk RX4 67 yX8_perform := Or.inr ⟨"PartedPension", List.mem_of_getElem? (i := 594) (by decide +kernel)⟩
theorem py_X8_perform : pz_y yX8_perform cX8_perform 6 (some .boolean) 5 := ⟨List.mem_of_getElem? (i := 597) (by decide +kernel), List.mem_of_getElem? (i := 130) (by decide +kernel), ⟨by decide +kernel, by decide +kernel⟩, by decide +kernel⟩
theorem pv_X8_perform : pz_yv yX8_perform 100 := ⟨List.mem_of_getElem? (i := 596) (by decide +kernel), List.mem_of_getElem? (i := 21) (by decide +kernel), Or.inr ⟨by decide, by decide +kernel⟩⟩
theorem lk_X4_56 : pz_lk RX4 56 yX8_slot := Or.inr ⟨"PartedPension", List.mem_of_getElem? (i := 565) (by decide +kernel)⟩
theorem py_X8_slot : pz_y yX8_slot cX8_slot 2 (some .int) 1 := ⟨List.mem_of_getElem? (i := 568) (by decide +kernel), List.mem_of_getElem? (i := 130) (by decide +kernel), ⟨by decide +kernel, by decide +kernel⟩, by decide +kernel⟩
theorem pv_X8_slot : pz_yv yX8_slot 100 := ⟨List.mem_of_getElem? (i := 567) (by decide +kernel), List.mem_of_getElem? (i := 16) (by decide +kernel), Or.inr ⟨by decide, by decide +kernel⟩⟩
theorem lk_X4_60 : pz_lk RX4 60 yX4_readSlot := Or.inl (List.mem_of_getElem? (i := 569) (by decide +kernel))
theorem py_X4_readSlot : pz_y yX4_readSlot cX4_readSlot 4 none 3 := ⟨List.mem_of_getElem? (i := 572) (by decide +kernel), List.mem_of_getElem? (i := 125) (by decide +kernel), ⟨by decide +kernel, by decide +kernel⟩, by decide +kernel⟩
theorem pv_X4_readSlot : pz_yv yX4_readSlot 3 := ⟨List.mem_of_getElem? (i := 571) (by decide +kernel), List.mem_of_getElem? (i := 17) (by decide +kernel), Or.inl ⟨TX4, 8, rfl⟩⟩
theorem lk_X4_50 : pz_lk RX4 50 yX8_isFull := Or.inr ⟨"PartedPension", List.mem_of_getElem? (i := 552) (by decide +kernel)⟩
theorem py_X8_isFull : pz_y yX8_isFull cX8_isFull 2 (some .boolean) 1 := ⟨List.mem_of_getElem? (i := 556) (by decide +kernel), List.mem_of_getElem? (i := 130) (by decide +kernel), ⟨by decide +kernel, by decide +kernel⟩, by decide +kernel⟩
theorem pv_X8_isFull : pz_yv yX8_isFull 100 := ⟨List.mem_of_getElem? (i := 554) (by decide +kernel), List.mem_of_getElem? (i := 15) (by decide +kernel), Or.inr ⟨by decide, by decide +kernel⟩⟩
theorem lk_X4_42 : pz_lk RX4 42 yX4_verbHere := Or.inl (List.mem_of_getElem? (i := 490) (by decide +kernel))
theorem py_X4_verbHere : pz_y yX4_verbHere cX4_verbHere 2 (some (.object "PartedPension$Verb")) 0 := ⟨List.mem_of_getElem? (i := 493) (by decide +kernel), List.mem_of_getElem? (i := 125) (by decide +kernel), ⟨by decide +kernel, by decide +kernel⟩, by decide +kernel⟩
theorem pv_X4_verbHere : pz_yv yX4_verbHere 3 := ⟨List.mem_of_getElem? (i := 492) (by decide +kernel), List.mem_of_getElem? (i := 12) (by decide +kernel), Or.inl ⟨TX4, 8, rfl⟩⟩
theorem lk_X4_35 : pz_lk RX4 35 yX4_readStatement := Or.inl (List.mem_of_getElem? (i := 486) (by decide +kernel))
theorem py_X4_readStatement : pz_y yX4_readStatement cX4_readStatement 5 none 1 := ⟨List.mem_of_getElem? (i := 489) (by decide +kernel), List.mem_of_getElem? (i := 125) (by decide +kernel), ⟨by decide +kernel, by decide +kernel⟩, by decide +kernel⟩
theorem pv_X4_readStatement : pz_yv yX4_readStatement 3 := ⟨List.mem_of_getElem? (i := 488) (by decide +kernel), List.mem_of_getElem? (i := 11) (by decide +kernel), Or.inl ⟨TX4, 8, rfl⟩⟩
theorem ol_X5_3 : Cond.methodLink RX5 3 Lib.objectInit ∈ lw_tbl := List.mem_of_getElem? (i := 363) (by decide +kernel)
theorem pz_wsX5 : ∀ w ∈ u_ws RX5 TX5 6, w ∈ lw_tbl := by decide +kernel
theorem fp_X5_9 : pz_fp RX5 9 4 0 (.array .int) true := ⟨RX5, TX5, 6, tyX5, rfl, by decide, pz_wsX5, Or.inl (List.mem_of_getElem? (i := 366) (by decide +kernel)), tyX5_ok, nmX5, rfl, by decide +kernel, rfl⟩
theorem fp_X5_15 : pz_fp RX5 15 4 1 (.array .int) true := ⟨RX5, TX5, 6, tyX5, rfl, by decide, pz_wsX5, Or.inl (List.mem_of_getElem? (i := 368) (by decide +kernel)), tyX5_ok, nmX5, rfl, by decide +kernel, rfl⟩
theorem fp_X5_18 : pz_fp RX5 18 4 2 (.array .int) true := ⟨RX5, TX5, 6, tyX5, rfl, by decide, pz_wsX5, Or.inl (List.mem_of_getElem? (i := 370) (by decide +kernel)), tyX5_ok, nmX5, rfl, by decide +kernel, rfl⟩
theorem fp_X5_21 : pz_fp RX5 21 4 3 (.array .int) true := ⟨RX5, TX5, 6, tyX5, rfl, by decide, pz_wsX5, Or.inl (List.mem_of_getElem? (i := 371) (by decide +kernel)), tyX5_ok, nmX5, rfl, by decide +kernel, rfl⟩
theorem ac_1 : Cond.arrayClass .long ∈ lw_tbl := List.mem_of_getElem? (i := 387) (by decide +kernel)
theorem fp_X5_24 : pz_fp RX5 24 4 4 (.array .long) true := ⟨RX5, TX5, 6, tyX5, rfl, by decide, pz_wsX5, Or.inl (List.mem_of_getElem? (i := 372) (by decide +kernel)), tyX5_ok, nmX5, rfl, by decide +kernel, rfl⟩
theorem lk_X5_30 : pz_lk RX5 30 yX7_init := Or.inr ⟨"PartedPension", List.mem_of_getElem? (i := 365) (by decide +kernel)⟩
theorem fp_X5_31 : pz_fp RX5 31 4 5 (.object "PartedPension$Spouse") true := ⟨RX5, TX5, 6, tyX5, rfl, by decide, pz_wsX5, Or.inl (List.mem_of_getElem? (i := 373) (by decide +kernel)), tyX5_ok, nmX5, rfl, by decide +kernel, rfl⟩
theorem fa_X5_9 : pz_fa RX5 9 4 0 := ⟨RX5, TX5, 6, rfl, by decide, pz_wsX5, Or.inl (List.mem_of_getElem? (i := 366) (by decide +kernel))⟩
theorem fa_X5_35 : pz_fa RX5 35 2 1 := ⟨RX3, TX3, 10, rfl, by decide, pz_wsX3, Or.inr ⟨"PartedPension", List.mem_of_getElem? (i := 270) (by decide +kernel)⟩⟩
theorem fa_X5_45 : pz_fa RX5 45 2 3 := ⟨RX3, TX3, 10, rfl, by decide, pz_wsX3, Or.inr ⟨"PartedPension", List.mem_of_getElem? (i := 278) (by decide +kernel)⟩⟩
theorem ck_X5_48 : Cond.constantLong RX5 48 1000 ∈ lw_tbl := List.mem_of_getElem? (i := 728) (by decide +kernel)
theorem lk_X5_41 : pz_lk RX5 41 yX3_firstPay := Or.inr ⟨"PartedPension", List.mem_of_getElem? (i := 727) (by decide +kernel)⟩
theorem py_X3_firstPay : pz_y yX3_firstPay cX3_firstPay 3 (some .int) 0 := ⟨List.mem_of_getElem? (i := 713) (by decide +kernel), List.mem_of_getElem? (i := 121) (by decide +kernel), ⟨by decide +kernel, by decide +kernel⟩, by decide +kernel⟩
theorem pv_X3_firstPay : pz_yv yX3_firstPay 2 := ⟨List.mem_of_getElem? (i := 712) (by decide +kernel), List.mem_of_getElem? (i := 39) (by decide +kernel), Or.inl ⟨TX3, 10, rfl⟩⟩
theorem fa_X5_15 : pz_fa RX5 15 4 1 := ⟨RX5, TX5, 6, rfl, by decide, pz_wsX5, Or.inl (List.mem_of_getElem? (i := 368) (by decide +kernel))⟩
theorem ck_X5_52 : Cond.constantLong RX5 52 12000 ∈ lw_tbl := List.mem_of_getElem? (i := 768) (by decide +kernel)
theorem ck_X5_50 : Cond.constantLong RX5 50 1000000000 ∈ lw_tbl := List.mem_of_getElem? (i := 767) (by decide +kernel)
theorem fa_X5_54 : pz_fa RX5 54 2 9 := ⟨RX3, TX3, 10, rfl, by decide, pz_wsX3, Or.inr ⟨"PartedPension", List.mem_of_getElem? (i := 299) (by decide +kernel)⟩⟩
theorem lk_X5_58 : pz_lk RX5 58 yX2_livesAt := Or.inr ⟨"PartedPension", List.mem_of_getElem? (i := 772) (by decide +kernel)⟩
theorem py_X2_livesAt : pz_y yX2_livesAt cX2_livesAt 8 (some .int) 1 := ⟨List.mem_of_getElem? (i := 775) (by decide +kernel), List.mem_of_getElem? (i := 122) (by decide +kernel), ⟨by decide +kernel, by decide +kernel⟩, by decide +kernel⟩
theorem pv_X2_livesAt : pz_yv yX2_livesAt 1 := ⟨List.mem_of_getElem? (i := 774) (by decide +kernel), List.mem_of_getElem? (i := 47) (by decide +kernel), Or.inl ⟨TX2, 3, rfl⟩⟩
theorem fa_X5_21 : pz_fa RX5 21 4 3 := ⟨RX5, TX5, 6, rfl, by decide, pz_wsX5, Or.inl (List.mem_of_getElem? (i := 371) (by decide +kernel))⟩
theorem lk_X5_134 : pz_lk RX5 134 yX5_annuityIn := Or.inl (List.mem_of_getElem? (i := 776) (by decide +kernel))
theorem py_X5_annuityIn : pz_y yX5_annuityIn cX5_annuityIn 3 (some .long) 2 := ⟨List.mem_of_getElem? (i := 779) (by decide +kernel), List.mem_of_getElem? (i := 126) (by decide +kernel), ⟨by decide +kernel, by decide +kernel⟩, by decide +kernel⟩
theorem pv_X5_annuityIn : pz_yv yX5_annuityIn 4 := ⟨List.mem_of_getElem? (i := 778) (by decide +kernel), List.mem_of_getElem? (i := 48) (by decide +kernel), Or.inl ⟨TX5, 6, rfl⟩⟩
theorem lk_X5_127 : pz_lk RX5 127 yX5_fillDiscounts := Or.inl (List.mem_of_getElem? (i := 763) (by decide +kernel))
theorem py_X5_fillDiscounts : pz_y yX5_fillDiscounts cX5_fillDiscounts 5 none 1 := ⟨List.mem_of_getElem? (i := 766) (by decide +kernel), List.mem_of_getElem? (i := 126) (by decide +kernel), ⟨by decide +kernel, by decide +kernel⟩, by decide +kernel⟩
theorem pv_X5_fillDiscounts : pz_yv yX5_fillDiscounts 4 := ⟨List.mem_of_getElem? (i := 765) (by decide +kernel), List.mem_of_getElem? (i := 46) (by decide +kernel), Or.inl ⟨TX5, 6, rfl⟩⟩
theorem lk_X5_130 : pz_lk RX5 130 yX5_fillOdds := Or.inl (List.mem_of_getElem? (i := 769) (by decide +kernel))
theorem py_X5_fillOdds : pz_y yX5_fillOdds cX5_fillOdds 6 none 4 := ⟨List.mem_of_getElem? (i := 771) (by decide +kernel), List.mem_of_getElem? (i := 126) (by decide +kernel), ⟨by decide +kernel, by decide +kernel⟩, by decide +kernel⟩
theorem ps_X5_fillOdds : pz_ys yX5_fillOdds := List.mem_of_getElem? (i := 770) (by decide +kernel)
theorem mk_X5_150 : Cond.methodLink RX5 150 Lib.MathLoose.min_long.x ∈ lw_tbl := List.mem_of_getElem? (i := 787) (by decide +kernel)
theorem ms_min : Cond.static Lib.MathLoose.min_long.x ∈ lw_tbl := List.mem_of_getElem? (i := 788) (by decide +kernel)
theorem mc_min : Cond.code Lib.MathLoose.min_long.x Lib.MathLoose.min_long.code 4 (some .long) ∈ lw_tbl := List.mem_of_getElem? (i := 789) (by decide +kernel)
theorem fa_X5_138 : pz_fa RX5 138 2 0 := ⟨RX3, TX3, 10, rfl, by decide, pz_wsX3, Or.inr ⟨"PartedPension", List.mem_of_getElem? (i := 268) (by decide +kernel)⟩⟩
theorem fa_X5_141 : pz_fa RX5 141 6 0 := ⟨RX7, TX7, 9, rfl, by decide, pz_wsX7, Or.inr ⟨"PartedPension", List.mem_of_getElem? (i := 209) (by decide +kernel)⟩⟩
theorem lk_X5_115 : pz_lk RX5 115 yX3_shareOf := Or.inr ⟨"PartedPension", List.mem_of_getElem? (i := 755) (by decide +kernel)⟩
theorem py_X3_shareOf : pz_y yX3_shareOf cX3_shareOf 3 (some .long) 2 := ⟨List.mem_of_getElem? (i := 758) (by decide +kernel), List.mem_of_getElem? (i := 121) (by decide +kernel), ⟨by decide +kernel, by decide +kernel⟩, by decide +kernel⟩
theorem pv_X3_shareOf : pz_yv yX3_shareOf 2 := ⟨List.mem_of_getElem? (i := 757) (by decide +kernel), List.mem_of_getElem? (i := 44) (by decide +kernel), Or.inl ⟨TX3, 10, rfl⟩⟩
theorem lk_X5_142 : pz_lk RX5 142 yX5_annuityOf := Or.inl (List.mem_of_getElem? (i := 759) (by decide +kernel))
theorem py_X5_annuityOf : pz_y yX5_annuityOf cX5_annuityOf 8 (some .long) 4 := ⟨List.mem_of_getElem? (i := 762) (by decide +kernel), List.mem_of_getElem? (i := 126) (by decide +kernel), ⟨by decide +kernel, by decide +kernel⟩, by decide +kernel⟩
theorem pv_X5_annuityOf : pz_yv yX5_annuityOf 4 := ⟨List.mem_of_getElem? (i := 761) (by decide +kernel), List.mem_of_getElem? (i := 45) (by decide +kernel), Or.inl ⟨TX5, 6, rfl⟩⟩
theorem lk_X5_104 : pz_lk RX5 104 yX3_beginOf := Or.inr ⟨"PartedPension", List.mem_of_getElem? (i := 780) (by decide +kernel)⟩
theorem lk_X5_146 : pz_lk RX5 146 yX5_ownBy := Or.inl (List.mem_of_getElem? (i := 784) (by decide +kernel))
theorem py_X5_ownBy : pz_y yX5_ownBy cX5_ownBy 6 (some .long) 3 := ⟨List.mem_of_getElem? (i := 786) (by decide +kernel), List.mem_of_getElem? (i := 126) (by decide +kernel), ⟨by decide +kernel, by decide +kernel⟩, by decide +kernel⟩
theorem ps_X5_ownBy : pz_ys yX5_ownBy := List.mem_of_getElem? (i := 785) (by decide +kernel)
theorem fa_X5_68 : pz_fa RX5 68 2 8 := ⟨RX3, TX3, 10, rfl, by decide, pz_wsX3, Or.inr ⟨"PartedPension", List.mem_of_getElem? (i := 295) (by decide +kernel)⟩⟩
theorem fa_X5_71 : pz_fa RX5 71 2 7 := ⟨RX3, TX3, 10, rfl, by decide, pz_wsX3, Or.inr ⟨"PartedPension", List.mem_of_getElem? (i := 291) (by decide +kernel)⟩⟩
theorem fa_X5_24 : pz_fa RX5 24 4 4 := ⟨RX5, TX5, 6, rfl, by decide, pz_wsX5, Or.inl (List.mem_of_getElem? (i := 372) (by decide +kernel))⟩
theorem fa_X5_75 : pz_fa RX5 75 6 4 := ⟨RX7, TX7, 9, rfl, by decide, pz_wsX7, Or.inr ⟨"PartedPension", List.mem_of_getElem? (i := 223) (by decide +kernel)⟩⟩
theorem lk_X5_78 : pz_lk RX5 78 yX5_ownOf := Or.inl (List.mem_of_getElem? (i := 751) (by decide +kernel))
theorem py_X5_ownOf : pz_y yX5_ownOf cX5_ownOf 7 (some .long) 2 := ⟨List.mem_of_getElem? (i := 754) (by decide +kernel), List.mem_of_getElem? (i := 126) (by decide +kernel), ⟨by decide +kernel, by decide +kernel⟩, by decide +kernel⟩
theorem pv_X5_ownOf : pz_yv yX5_ownOf 4 := ⟨List.mem_of_getElem? (i := 753) (by decide +kernel), List.mem_of_getElem? (i := 43) (by decide +kernel), Or.inl ⟨TX5, 6, rfl⟩⟩
theorem lk_X5_64 : pz_lk RX5 64 yX5_fillWholes := Or.inl (List.mem_of_getElem? (i := 750) (by decide +kernel))
theorem py_X5_fillWholes : pz_y yX5_fillWholes cX5_fillWholes 5 none 1 := ⟨List.mem_of_getElem? (i := 726) (by decide +kernel), List.mem_of_getElem? (i := 126) (by decide +kernel), ⟨by decide +kernel, by decide +kernel⟩, by decide +kernel⟩
theorem pv_X5_fillWholes : pz_yv yX5_fillWholes 4 := ⟨List.mem_of_getElem? (i := 725) (by decide +kernel), List.mem_of_getElem? (i := 40) (by decide +kernel), Or.inl ⟨TX5, 6, rfl⟩⟩
theorem lk_X5_101 : pz_lk RX5 101 yX7_isPartedBy := Or.inr ⟨"PartedPension", List.mem_of_getElem? (i := 805) (by decide +kernel)⟩
theorem fa_X5_108 : pz_fa RX5 108 6 7 := ⟨RX7, TX7, 9, rfl, by decide, pz_wsX7, Or.inr ⟨"PartedPension", List.mem_of_getElem? (i := 235) (by decide +kernel)⟩⟩
theorem lk_X5_111 : pz_lk RX5 111 yX5_isAlive := Or.inl (List.mem_of_getElem? (i := 798) (by decide +kernel))
theorem py_X5_isAlive : pz_y yX5_isAlive cX5_isAlive 2 (some .boolean) 2 := ⟨List.mem_of_getElem? (i := 800) (by decide +kernel), List.mem_of_getElem? (i := 126) (by decide +kernel), ⟨by decide +kernel, by decide +kernel⟩, by decide +kernel⟩
theorem ps_X5_isAlive : pz_ys yX5_isAlive := List.mem_of_getElem? (i := 799) (by decide +kernel)
theorem fa_X5_119 : pz_fa RX5 119 2 2 := ⟨RX3, TX3, 10, rfl, by decide, pz_wsX3, Or.inr ⟨"PartedPension", List.mem_of_getElem? (i := 275) (by decide +kernel)⟩⟩
theorem fa_X5_120 : pz_fa RX5 120 6 5 := ⟨RX7, TX7, 9, rfl, by decide, pz_wsX7, Or.inr ⟨"PartedPension", List.mem_of_getElem? (i := 228) (by decide +kernel)⟩⟩
theorem lk_X5_97 : pz_lk RX5 97 yX5_paidToSpouse := Or.inl (List.mem_of_getElem? (i := 801) (by decide +kernel))
theorem py_X5_paidToSpouse : pz_y yX5_paidToSpouse cX5_paidToSpouse 8 (some .long) 4 := ⟨List.mem_of_getElem? (i := 804) (by decide +kernel), List.mem_of_getElem? (i := 126) (by decide +kernel), ⟨by decide +kernel, by decide +kernel⟩, by decide +kernel⟩
theorem pv_X5_paidToSpouse : pz_yv yX5_paidToSpouse 4 := ⟨List.mem_of_getElem? (i := 803) (by decide +kernel), List.mem_of_getElem? (i := 52) (by decide +kernel), Or.inl ⟨TX5, 6, rfl⟩⟩
theorem lk_X5_86 : pz_lk RX5 86 yX5_paidToMember := Or.inl (List.mem_of_getElem? (i := 794) (by decide +kernel))
theorem py_X5_paidToMember : pz_y yX5_paidToMember cX5_paidToMember 7 (some .long) 2 := ⟨List.mem_of_getElem? (i := 797) (by decide +kernel), List.mem_of_getElem? (i := 126) (by decide +kernel), ⟨by decide +kernel, by decide +kernel⟩, by decide +kernel⟩
theorem pv_X5_paidToMember : pz_yv yX5_paidToMember 4 := ⟨List.mem_of_getElem? (i := 796) (by decide +kernel), List.mem_of_getElem? (i := 51) (by decide +kernel), Or.inl ⟨TX5, 6, rfl⟩⟩
theorem lk_X5_93 : pz_lk RX5 93 yX3_hasSpouse := Or.inr ⟨"PartedPension", List.mem_of_getElem? (i := 810) (by decide +kernel)⟩
theorem lk_X5_90 : pz_lk RX5 90 yX5_restOf := Or.inl (List.mem_of_getElem? (i := 806) (by decide +kernel))
theorem py_X5_restOf : pz_y yX5_restOf cX5_restOf 6 (some .long) 2 := ⟨List.mem_of_getElem? (i := 809) (by decide +kernel), List.mem_of_getElem? (i := 126) (by decide +kernel), ⟨by decide +kernel, by decide +kernel⟩, by decide +kernel⟩
theorem pv_X5_restOf : pz_yv yX5_restOf 4 := ⟨List.mem_of_getElem? (i := 808) (by decide +kernel), List.mem_of_getElem? (i := 53) (by decide +kernel), Or.inl ⟨TX5, 6, rfl⟩⟩
theorem lk_X5_82 : pz_lk RX5 82 yX5_paidTo := Or.inl (List.mem_of_getElem? (i := 819) (by decide +kernel))
theorem py_X5_paidTo : pz_y yX5_paidTo cX5_paidTo 4 (some .long) 3 := ⟨List.mem_of_getElem? (i := 793) (by decide +kernel), List.mem_of_getElem? (i := 126) (by decide +kernel), ⟨by decide +kernel, by decide +kernel⟩, by decide +kernel⟩
theorem pv_X5_paidTo : pz_yv yX5_paidTo 4 := ⟨List.mem_of_getElem? (i := 792) (by decide +kernel), List.mem_of_getElem? (i := 50) (by decide +kernel), Or.inl ⟨TX5, 6, rfl⟩⟩
theorem fa_X5_31 : pz_fa RX5 31 4 5 := ⟨RX5, TX5, 6, rfl, by decide, pz_wsX5, Or.inl (List.mem_of_getElem? (i := 373) (by decide +kernel))⟩
theorem fp_X5_75 : pz_fp RX5 75 6 4 (.int) false := ⟨RX7, TX7, 9, tyX7, rfl, by decide, pz_wsX7, Or.inr ⟨"PartedPension", List.mem_of_getElem? (i := 223) (by decide +kernel)⟩, tyX7_ok, nmX7, rfl, by decide +kernel, rfl⟩
theorem lk_X5_123 : pz_lk RX5 123 yX7_copyFrom := Or.inr ⟨"PartedPension", List.mem_of_getElem? (i := 901) (by decide +kernel)⟩
theorem fa_X5_18 : pz_fa RX5 18 4 2 := ⟨RX5, TX5, 6, rfl, by decide, pz_wsX5, Or.inl (List.mem_of_getElem? (i := 370) (by decide +kernel))⟩
theorem mk_X5_156 : Cond.methodLink RX5 156 Lib.Math.max.name ∈ lw_tbl := List.mem_of_getElem? (i := 866) (by decide +kernel)
theorem lk_X5_164 : pz_lk RX5 164 yX5_worthShared := Or.inl (List.mem_of_getElem? (i := 875) (by decide +kernel))
theorem py_X5_worthShared : pz_y yX5_worthShared cX5_worthShared 16 (some .long) 4 := ⟨List.mem_of_getElem? (i := 878) (by decide +kernel), List.mem_of_getElem? (i := 126) (by decide +kernel), ⟨by decide +kernel, by decide +kernel⟩, by decide +kernel⟩
theorem pv_X5_worthShared : pz_yv yX5_worthShared 4 := ⟨List.mem_of_getElem? (i := 877) (by decide +kernel), List.mem_of_getElem? (i := 60) (by decide +kernel), Or.inl ⟨TX5, 6, rfl⟩⟩
theorem lk_X5_160 : pz_lk RX5 160 yX5_worthApart := Or.inl (List.mem_of_getElem? (i := 871) (by decide +kernel))
theorem py_X5_worthApart : pz_y yX5_worthApart cX5_worthApart 8 (some .long) 3 := ⟨List.mem_of_getElem? (i := 874) (by decide +kernel), List.mem_of_getElem? (i := 126) (by decide +kernel), ⟨by decide +kernel, by decide +kernel⟩, by decide +kernel⟩
theorem pv_X5_worthApart : pz_yv yX5_worthApart 4 := ⟨List.mem_of_getElem? (i := 873) (by decide +kernel), List.mem_of_getElem? (i := 59) (by decide +kernel), Or.inl ⟨TX5, 6, rfl⟩⟩
theorem ck_X5_168 : Cond.constantLong RX5 168 (-1) ∈ lw_tbl := List.mem_of_getElem? (i := 891) (by decide +kernel)
theorem fp_X5_173 : pz_fp RX5 173 6 3 (.int) false := ⟨RX7, TX7, 9, tyX7, rfl, by decide, pz_wsX7, Or.inr ⟨"PartedPension", List.mem_of_getElem? (i := 221) (by decide +kernel)⟩, tyX7_ok, nmX7, rfl, by decide +kernel, rfl⟩
theorem ck_X5_176 : Cond.constantLong RX5 176 2 ∈ lw_tbl := List.mem_of_getElem? (i := 902) (by decide +kernel)
theorem lk_X5_178 : pz_lk RX5 178 yX5_worthOfSpouse := Or.inl (List.mem_of_getElem? (i := 903) (by decide +kernel))
theorem py_X5_worthOfSpouse : pz_y yX5_worthOfSpouse cX5_worthOfSpouse 7 (some .long) 3 := ⟨List.mem_of_getElem? (i := 870) (by decide +kernel), List.mem_of_getElem? (i := 126) (by decide +kernel), ⟨by decide +kernel, by decide +kernel⟩, by decide +kernel⟩
theorem pv_X5_worthOfSpouse : pz_yv yX5_worthOfSpouse 4 := ⟨List.mem_of_getElem? (i := 869) (by decide +kernel), List.mem_of_getElem? (i := 58) (by decide +kernel), Or.inl ⟨TX5, 6, rfl⟩⟩
theorem lk_X5_170 : pz_lk RX5 170 yX5_worthOfAll := Or.inl (List.mem_of_getElem? (i := 900) (by decide +kernel))
theorem py_X5_worthOfAll : pz_y yX5_worthOfAll cX5_worthOfAll 6 (some .long) 2 := ⟨List.mem_of_getElem? (i := 865) (by decide +kernel), List.mem_of_getElem? (i := 126) (by decide +kernel), ⟨by decide +kernel, by decide +kernel⟩, by decide +kernel⟩
theorem pv_X5_worthOfAll : pz_yv yX5_worthOfAll 4 := ⟨List.mem_of_getElem? (i := 864) (by decide +kernel), List.mem_of_getElem? (i := 57) (by decide +kernel), Or.inl ⟨TX5, 6, rfl⟩⟩
theorem ol_X9_1 : Cond.methodLink RX9 1 Lib.objectInit ∈ lw_tbl := List.mem_of_getElem? (i := 146) (by decide +kernel)
theorem pz_wsX9 : ∀ w ∈ u_ws RX9 TX9 8, w ∈ lw_tbl := by decide +kernel
theorem fp_X9_7 : pz_fp RX9 7 8 0 (.int) false := ⟨RX9, TX9, 8, tyX9, rfl, by decide, pz_wsX9, Or.inl (List.mem_of_getElem? (i := 403) (by decide +kernel)), tyX9_ok, nmX9, rfl, by decide +kernel, rfl⟩
theorem lk_X9_15 : pz_lk RX9 15 yX3_init := Or.inr ⟨"PartedPension", List.mem_of_getElem? (i := 151) (by decide +kernel)⟩
theorem py_X3_init : pz_y yX3_init cX3_init 2 none 0 := ⟨List.mem_of_getElem? (i := 153) (by decide +kernel), List.mem_of_getElem? (i := 121) (by decide +kernel), ⟨by decide +kernel, by decide +kernel⟩, by decide +kernel⟩
theorem pi_X3_init : pz_yi yX3_init := ⟨List.mem_of_getElem? (i := 152) (by decide +kernel), rfl⟩
theorem fp_X9_16 : pz_fp RX9 16 8 1 (.object "PartedPension$Plan") true := ⟨RX9, TX9, 8, tyX9, rfl, by decide, pz_wsX9, Or.inl (List.mem_of_getElem? (i := 404) (by decide +kernel)), tyX9_ok, nmX9, rfl, by decide +kernel, rfl⟩
theorem fp_X9_20 : pz_fp RX9 20 8 2 (.object "PartedPension$Plan") true := ⟨RX9, TX9, 8, tyX9, rfl, by decide, pz_wsX9, Or.inl (List.mem_of_getElem? (i := 405) (by decide +kernel)), tyX9_ok, nmX9, rfl, by decide +kernel, rfl⟩
theorem fp_X9_23 : pz_fp RX9 23 8 3 (.array (.object "PartedPension$Plan")) true := ⟨RX9, TX9, 8, tyX9, rfl, by decide, pz_wsX9, Or.inl (List.mem_of_getElem? (i := 406) (by decide +kernel)), tyX9_ok, nmX9, rfl, by decide +kernel, rfl⟩
theorem fp_X9_27 : pz_fp RX9 27 8 4 (.int) false := ⟨RX9, TX9, 8, tyX9, rfl, by decide, pz_wsX9, Or.inl (List.mem_of_getElem? (i := 407) (by decide +kernel)), tyX9_ok, nmX9, rfl, by decide +kernel, rfl⟩
theorem lk_X9_32 : pz_lk RX9 32 yX4_init := Or.inr ⟨"PartedPension", List.mem_of_getElem? (i := 326) (by decide +kernel)⟩
theorem py_X4_init : pz_y yX4_init cX4_init 1 none 0 := ⟨List.mem_of_getElem? (i := 328) (by decide +kernel), List.mem_of_getElem? (i := 125) (by decide +kernel), ⟨by decide +kernel, by decide +kernel⟩, by decide +kernel⟩
theorem pi_X4_init : pz_yi yX4_init := ⟨List.mem_of_getElem? (i := 327) (by decide +kernel), rfl⟩
theorem fp_X9_33 : pz_fp RX9 33 8 5 (.object "PartedPension$Reader") true := ⟨RX9, TX9, 8, tyX9, rfl, by decide, pz_wsX9, Or.inl (List.mem_of_getElem? (i := 408) (by decide +kernel)), tyX9_ok, nmX9, rfl, by decide +kernel, rfl⟩
theorem lk_X9_39 : pz_lk RX9 39 yX5_init := Or.inr ⟨"PartedPension", List.mem_of_getElem? (i := 360) (by decide +kernel)⟩
theorem py_X5_init : pz_y yX5_init cX5_init 1 none 0 := ⟨List.mem_of_getElem? (i := 362) (by decide +kernel), List.mem_of_getElem? (i := 126) (by decide +kernel), ⟨by decide +kernel, by decide +kernel⟩, by decide +kernel⟩
theorem pi_X5_init : pz_yi yX5_init := ⟨List.mem_of_getElem? (i := 361) (by decide +kernel), rfl⟩
theorem fp_X9_40 : pz_fp RX9 40 8 6 (.object "PartedPension$Reckoner") true := ⟨RX9, TX9, 8, tyX9, rfl, by decide, pz_wsX9, Or.inl (List.mem_of_getElem? (i := 409) (by decide +kernel)), tyX9_ok, nmX9, rfl, by decide +kernel, rfl⟩
theorem lk_X9_46 : pz_lk RX9 46 yX1_init := Or.inr ⟨"PartedPension", List.mem_of_getElem? (i := 390) (by decide +kernel)⟩
theorem py_X1_init : pz_y yX1_init cX1_init 1 none 0 := ⟨List.mem_of_getElem? (i := 392) (by decide +kernel), List.mem_of_getElem? (i := 127) (by decide +kernel), ⟨by decide +kernel, by decide +kernel⟩, by decide +kernel⟩
theorem pi_X1_init : pz_yi yX1_init := ⟨List.mem_of_getElem? (i := 391) (by decide +kernel), rfl⟩
theorem fp_X9_47 : pz_fp RX9 47 8 7 (.object "PartedPension$Calendar") true := ⟨RX9, TX9, 8, tyX9, rfl, by decide, pz_wsX9, Or.inl (List.mem_of_getElem? (i := 410) (by decide +kernel)), tyX9_ok, nmX9, rfl, by decide +kernel, rfl⟩
theorem fa_X9_23 : pz_fa RX9 23 8 3 := ⟨RX9, TX9, 8, rfl, by decide, pz_wsX9, Or.inl (List.mem_of_getElem? (i := 406) (by decide +kernel))⟩
theorem fa_X9_33 : pz_fa RX9 33 8 5 := ⟨RX9, TX9, 8, rfl, by decide, pz_wsX9, Or.inl (List.mem_of_getElem? (i := 408) (by decide +kernel))⟩
theorem fa_X9_51 : pz_fa RX9 51 3 1 := ⟨RX4, TX4, 8, rfl, by decide, pz_wsX4, Or.inr ⟨"PartedPension", List.mem_of_getElem? (i := 332) (by decide +kernel)⟩⟩
theorem lk_X9_54 : pz_lk RX9 54 yX4_append := Or.inr ⟨"PartedPension", List.mem_of_getElem? (i := 432) (by decide +kernel)⟩
theorem py_X4_append : pz_y yX4_append cX4_append 3 none 1 := ⟨List.mem_of_getElem? (i := 435) (by decide +kernel), List.mem_of_getElem? (i := 125) (by decide +kernel), ⟨by decide +kernel, by decide +kernel⟩, by decide +kernel⟩
theorem pv_X4_append : pz_yv yX4_append 3 := ⟨List.mem_of_getElem? (i := 434) (by decide +kernel), List.mem_of_getElem? (i := 1) (by decide +kernel), Or.inl ⟨TX4, 8, rfl⟩⟩
theorem fp_X9_51 : pz_fp RX9 51 3 1 (.int) false := ⟨RX4, TX4, 8, tyX4, rfl, by decide, pz_wsX4, Or.inr ⟨"PartedPension", List.mem_of_getElem? (i := 332) (by decide +kernel)⟩, tyX4_ok, nmX4, rfl, by decide +kernel, rfl⟩
theorem fa_X9_27 : pz_fa RX9 27 8 4 := ⟨RX9, TX9, 8, rfl, by decide, pz_wsX9, Or.inl (List.mem_of_getElem? (i := 407) (by decide +kernel))⟩
theorem fa_X9_16 : pz_fa RX9 16 8 1 := ⟨RX9, TX9, 8, rfl, by decide, pz_wsX9, Or.inl (List.mem_of_getElem? (i := 404) (by decide +kernel))⟩
theorem lk_X9_58 : pz_lk RX9 58 yX3_copyFrom := Or.inr ⟨"PartedPension", List.mem_of_getElem? (i := 444) (by decide +kernel)⟩
theorem py_X3_copyFrom : pz_y yX3_copyFrom cX3_copyFrom 3 none 1 := ⟨List.mem_of_getElem? (i := 447) (by decide +kernel), List.mem_of_getElem? (i := 121) (by decide +kernel), ⟨by decide +kernel, by decide +kernel⟩, by decide +kernel⟩
theorem pv_X3_copyFrom : pz_yv yX3_copyFrom 2 := ⟨List.mem_of_getElem? (i := 446) (by decide +kernel), List.mem_of_getElem? (i := 2) (by decide +kernel), Or.inl ⟨TX3, 10, rfl⟩⟩
theorem fa_X9_20 : pz_fa RX9 20 8 2 := ⟨RX9, TX9, 8, rfl, by decide, pz_wsX9, Or.inl (List.mem_of_getElem? (i := 405) (by decide +kernel))⟩
theorem lk_X9_62 : pz_lk RX9 62 yX4_readAll := Or.inr ⟨"PartedPension", List.mem_of_getElem? (i := 460) (by decide +kernel)⟩
theorem py_X4_readAll : pz_y yX4_readAll cX4_readAll 3 (some .int) 1 := ⟨List.mem_of_getElem? (i := 463) (by decide +kernel), List.mem_of_getElem? (i := 125) (by decide +kernel), ⟨by decide +kernel, by decide +kernel⟩, by decide +kernel⟩
theorem pv_X4_readAll : pz_yv yX4_readAll 3 := ⟨List.mem_of_getElem? (i := 462) (by decide +kernel), List.mem_of_getElem? (i := 6) (by decide +kernel), Or.inl ⟨TX4, 8, rfl⟩⟩
theorem fa_X9_66 : pz_fa RX9 66 3 7 := ⟨RX4, TX4, 8, rfl, by decide, pz_wsX4, Or.inr ⟨"PartedPension", List.mem_of_getElem? (i := 339) (by decide +kernel)⟩⟩
theorem fa_X9_7 : pz_fa RX9 7 8 0 := ⟨RX9, TX9, 8, rfl, by decide, pz_wsX9, Or.inl (List.mem_of_getElem? (i := 403) (by decide +kernel))⟩
theorem lk_X9_69 : pz_lk RX9 69 yX9_keepPast := Or.inl (List.mem_of_getElem? (i := 663) (by decide +kernel))
theorem py_X9_keepPast : pz_y yX9_keepPast cX9_keepPast 3 none 0 := ⟨List.mem_of_getElem? (i := 666) (by decide +kernel), List.mem_of_getElem? (i := 120) (by decide +kernel), ⟨by decide +kernel, by decide +kernel⟩, by decide +kernel⟩
theorem pv_X9_keepPast : pz_yv yX9_keepPast 8 := ⟨List.mem_of_getElem? (i := 665) (by decide +kernel), List.mem_of_getElem? (i := 35) (by decide +kernel), Or.inl ⟨TX9, 8, rfl⟩⟩
theorem lk_X9_72 : pz_lk RX9 72 yX3_canChange := Or.inr ⟨"PartedPension", List.mem_of_getElem? (i := 675) (by decide +kernel)⟩
theorem lk_X9_76 : pz_lk RX9 76 yX3_valueOf := Or.inr ⟨"PartedPension", List.mem_of_getElem? (i := 676) (by decide +kernel)⟩
theorem py_X3_valueOf : pz_y yX3_valueOf cX3_valueOf 4 (some .int) 2 := ⟨List.mem_of_getElem? (i := 679) (by decide +kernel), List.mem_of_getElem? (i := 121) (by decide +kernel), ⟨by decide +kernel, by decide +kernel⟩, by decide +kernel⟩
theorem pv_X3_valueOf : pz_yv yX3_valueOf 2 := ⟨List.mem_of_getElem? (i := 678) (by decide +kernel), List.mem_of_getElem? (i := 36) (by decide +kernel), Or.inl ⟨TX3, 10, rfl⟩⟩
theorem lk_X9_80 : pz_lk RX9 80 yX3_change := Or.inr ⟨"PartedPension", List.mem_of_getElem? (i := 680) (by decide +kernel)⟩
theorem lk_X9_84 : pz_lk RX9 84 yX9_isTerm := Or.inl (List.mem_of_getElem? (i := 689) (by decide +kernel))
theorem fa_X9_92 : pz_fa RX9 92 2 5 := ⟨RX3, TX3, 10, rfl, by decide, pz_wsX3, Or.inr ⟨"PartedPension", List.mem_of_getElem? (i := 286) (by decide +kernel)⟩⟩
theorem fa_X9_95 : pz_fa RX9 95 2 8 := ⟨RX3, TX3, 10, rfl, by decide, pz_wsX3, Or.inr ⟨"PartedPension", List.mem_of_getElem? (i := 297) (by decide +kernel)⟩⟩
theorem fa_X9_98 : pz_fa RX9 98 2 9 := ⟨RX3, TX3, 10, rfl, by decide, pz_wsX3, Or.inr ⟨"PartedPension", List.mem_of_getElem? (i := 301) (by decide +kernel)⟩⟩
theorem fa_X9_102 : pz_fa RX9 102 1 2 := ⟨RX2, TX2, 3, rfl, by decide, pz_wsX2, Or.inr ⟨"PartedPension", List.mem_of_getElem? (i := 169) (by decide +kernel)⟩⟩
theorem fa_X9_107 : pz_fa RX9 107 2 0 := ⟨RX3, TX3, 10, rfl, by decide, pz_wsX3, Or.inr ⟨"PartedPension", List.mem_of_getElem? (i := 267) (by decide +kernel)⟩⟩
theorem fa_X9_110 : pz_fa RX9 110 2 1 := ⟨RX3, TX3, 10, rfl, by decide, pz_wsX3, Or.inr ⟨"PartedPension", List.mem_of_getElem? (i := 272) (by decide +kernel)⟩⟩
theorem fa_X9_113 : pz_fa RX9 113 2 2 := ⟨RX3, TX3, 10, rfl, by decide, pz_wsX3, Or.inr ⟨"PartedPension", List.mem_of_getElem? (i := 276) (by decide +kernel)⟩⟩
theorem fa_X9_88 : pz_fa RX9 88 2 3 := ⟨RX3, TX3, 10, rfl, by decide, pz_wsX3, Or.inr ⟨"PartedPension", List.mem_of_getElem? (i := 279) (by decide +kernel)⟩⟩
theorem lk_X9_180 : pz_lk RX9 180 yX9_isMonth := Or.inl (List.mem_of_getElem? (i := 694) (by decide +kernel))
theorem lk_X9_183 : pz_lk RX9 183 yX3_serviceWithin := Or.inr ⟨"PartedPension", List.mem_of_getElem? (i := 695) (by decide +kernel)⟩
theorem fa_X9_186 : pz_fa RX9 186 2 6 := ⟨RX3, TX3, 10, rfl, by decide, pz_wsX3, Or.inr ⟨"PartedPension", List.mem_of_getElem? (i := 288) (by decide +kernel)⟩⟩
theorem lk_X9_187 : pz_lk RX9 187 yX3_finalPay := Or.inr ⟨"PartedPension", List.mem_of_getElem? (i := 700) (by decide +kernel)⟩
theorem lk_X9_191 : pz_lk RX9 191 yX3_basePay := Or.inr ⟨"PartedPension", List.mem_of_getElem? (i := 704) (by decide +kernel)⟩
theorem lk_X9_194 : pz_lk RX9 194 yX3_firstPay := Or.inr ⟨"PartedPension", List.mem_of_getElem? (i := 710) (by decide +kernel)⟩
theorem fa_X9_40 : pz_fa RX9 40 8 6 := ⟨RX9, TX9, 8, rfl, by decide, pz_wsX9, Or.inl (List.mem_of_getElem? (i := 409) (by decide +kernel))⟩
theorem lk_X9_197 : pz_lk RX9 197 yX5_fillWholes := Or.inr ⟨"PartedPension", List.mem_of_getElem? (i := 723) (by decide +kernel)⟩
theorem fa_X9_200 : pz_fa RX9 200 4 0 := ⟨RX5, TX5, 6, rfl, by decide, pz_wsX5, Or.inr ⟨"PartedPension", List.mem_of_getElem? (i := 367) (by decide +kernel)⟩⟩
theorem lk_X9_140 : pz_lk RX9 140 yX3_hasSpouse := Or.inr ⟨"PartedPension", List.mem_of_getElem? (i := 733) (by decide +kernel)⟩
theorem fa_X9_145 : pz_fa RX9 145 2 7 := ⟨RX3, TX3, 10, rfl, by decide, pz_wsX3, Or.inr ⟨"PartedPension", List.mem_of_getElem? (i := 292) (by decide +kernel)⟩⟩
theorem fa_X9_158 : pz_fa RX9 158 6 3 := ⟨RX7, TX7, 9, rfl, by decide, pz_wsX7, Or.inr ⟨"PartedPension", List.mem_of_getElem? (i := 220) (by decide +kernel)⟩⟩
theorem fa_X9_171 : pz_fa RX9 171 6 8 := ⟨RX7, TX7, 9, rfl, by decide, pz_wsX7, Or.inr ⟨"PartedPension", List.mem_of_getElem? (i := 239) (by decide +kernel)⟩⟩
theorem lk_X9_203 : pz_lk RX9 203 yX9_commonDivisor := Or.inl (List.mem_of_getElem? (i := 734) (by decide +kernel))
theorem py_X9_commonDivisor : pz_y yX9_commonDivisor cX9_commonDivisor 6 (some .int) 2 := ⟨List.mem_of_getElem? (i := 736) (by decide +kernel), List.mem_of_getElem? (i := 120) (by decide +kernel), ⟨by decide +kernel, by decide +kernel⟩, by decide +kernel⟩
theorem ps_X9_commonDivisor : pz_ys yX9_commonDivisor := List.mem_of_getElem? (i := 735) (by decide +kernel)
theorem ck_X9_209 : Cond.constantLong RX9 209 (-1000000000000000) ∈ lw_tbl := List.mem_of_getElem? (i := 745) (by decide +kernel)
theorem lk_X9_206 : pz_lk RX9 206 yX9_isPaid := Or.inl (List.mem_of_getElem? (i := 741) (by decide +kernel))
theorem py_X9_isPaid : pz_y yX9_isPaid cX9_isPaid 2 (some .boolean) 1 := ⟨List.mem_of_getElem? (i := 744) (by decide +kernel), List.mem_of_getElem? (i := 120) (by decide +kernel), ⟨by decide +kernel, by decide +kernel⟩, by decide +kernel⟩
theorem pv_X9_isPaid : pz_yv yX9_isPaid 8 := ⟨List.mem_of_getElem? (i := 743) (by decide +kernel), List.mem_of_getElem? (i := 41) (by decide +kernel), Or.inl ⟨TX9, 8, rfl⟩⟩
theorem lk_X9_211 : pz_lk RX9 211 yX5_prepare := Or.inr ⟨"PartedPension", List.mem_of_getElem? (i := 746) (by decide +kernel)⟩
theorem py_X5_prepare : pz_y yX5_prepare cX5_prepare 4 none 1 := ⟨List.mem_of_getElem? (i := 749) (by decide +kernel), List.mem_of_getElem? (i := 126) (by decide +kernel), ⟨by decide +kernel, by decide +kernel⟩, by decide +kernel⟩
theorem pv_X5_prepare : pz_yv yX5_prepare 4 := ⟨List.mem_of_getElem? (i := 748) (by decide +kernel), List.mem_of_getElem? (i := 42) (by decide +kernel), Or.inl ⟨TX5, 6, rfl⟩⟩
theorem lk_X9_214 : pz_lk RX9 214 yX5_paidTo := Or.inr ⟨"PartedPension", List.mem_of_getElem? (i := 790) (by decide +kernel)⟩
theorem lk_X9_218 : pz_lk RX9 218 yX5_paidWithin := Or.inr ⟨"PartedPension", List.mem_of_getElem? (i := 815) (by decide +kernel)⟩
theorem py_X5_paidWithin : pz_y yX5_paidWithin cX5_paidWithin 8 (some .long) 4 := ⟨List.mem_of_getElem? (i := 818) (by decide +kernel), List.mem_of_getElem? (i := 126) (by decide +kernel), ⟨by decide +kernel, by decide +kernel⟩, by decide +kernel⟩
theorem pv_X5_paidWithin : pz_yv yX5_paidWithin 4 := ⟨List.mem_of_getElem? (i := 817) (by decide +kernel), List.mem_of_getElem? (i := 54) (by decide +kernel), Or.inl ⟨TX5, 6, rfl⟩⟩
theorem fa_X9_47 : pz_fa RX9 47 8 7 := ⟨RX9, TX9, 8, rfl, by decide, pz_wsX9, Or.inl (List.mem_of_getElem? (i := 410) (by decide +kernel))⟩
theorem lk_X9_222 : pz_lk RX9 222 yX1_fill := Or.inr ⟨"PartedPension", List.mem_of_getElem? (i := 828) (by decide +kernel)⟩
theorem py_X1_fill : pz_y yX1_fill cX1_fill 4 none 1 := ⟨List.mem_of_getElem? (i := 831) (by decide +kernel), List.mem_of_getElem? (i := 127) (by decide +kernel), ⟨by decide +kernel, by decide +kernel⟩, by decide +kernel⟩
theorem pv_X1_fill : pz_yv yX1_fill 0 := ⟨List.mem_of_getElem? (i := 830) (by decide +kernel), List.mem_of_getElem? (i := 55) (by decide +kernel), Or.inl ⟨TX1, 2, rfl⟩⟩
theorem fa_X9_225 : pz_fa RX9 225 0 1 := ⟨RX1, TX1, 2, rfl, by decide, pz_wsX1, Or.inr ⟨"PartedPension", List.mem_of_getElem? (i := 397) (by decide +kernel)⟩⟩
theorem fa_X9_228 : pz_fa RX9 228 0 0 := ⟨RX1, TX1, 2, rfl, by decide, pz_wsX1, Or.inr ⟨"PartedPension", List.mem_of_getElem? (i := 395) (by decide +kernel)⟩⟩
theorem lk_X9_231 : pz_lk RX9 231 yX2_livesAt := Or.inr ⟨"PartedPension", List.mem_of_getElem? (i := 841) (by decide +kernel)⟩
theorem lk_X9_235 : pz_lk RX9 235 yX5_fillDiscounts := Or.inr ⟨"PartedPension", List.mem_of_getElem? (i := 846) (by decide +kernel)⟩
theorem fa_X9_238 : pz_fa RX9 238 4 1 := ⟨RX5, TX5, 6, rfl, by decide, pz_wsX5, Or.inr ⟨"PartedPension", List.mem_of_getElem? (i := 369) (by decide +kernel)⟩⟩
theorem ck_X9_241 : Cond.constantLong RX9 241 (-1) ∈ lw_tbl := List.mem_of_getElem? (i := 851) (by decide +kernel)
theorem lk_X9_243 : pz_lk RX9 243 yX5_annuityOf := Or.inr ⟨"PartedPension", List.mem_of_getElem? (i := 852) (by decide +kernel)⟩
theorem fa_X9_149 : pz_fa RX9 149 6 0 := ⟨RX7, TX7, 9, rfl, by decide, pz_wsX7, Or.inr ⟨"PartedPension", List.mem_of_getElem? (i := 208) (by decide +kernel)⟩⟩
theorem lk_X9_246 : pz_lk RX9 246 yX5_ownOf := Or.inr ⟨"PartedPension", List.mem_of_getElem? (i := 857) (by decide +kernel)⟩
theorem lk_X9_254 : pz_lk RX9 254 yX5_worthOfSpouse := Or.inr ⟨"PartedPension", List.mem_of_getElem? (i := 867) (by decide +kernel)⟩
theorem lk_X9_250 : pz_lk RX9 250 yX5_worthOfAll := Or.inr ⟨"PartedPension", List.mem_of_getElem? (i := 862) (by decide +kernel)⟩
theorem lk_X9_258 : pz_lk RX9 258 yX9_hasWorthInRetires := Or.inl (List.mem_of_getElem? (i := 883) (by decide +kernel))
theorem py_X9_hasWorthInRetires : pz_y yX9_hasWorthInRetires cX9_hasWorthInRetires 2 (some .boolean) 1 := ⟨List.mem_of_getElem? (i := 886) (by decide +kernel), List.mem_of_getElem? (i := 120) (by decide +kernel), ⟨by decide +kernel, by decide +kernel⟩, by decide +kernel⟩
theorem pv_X9_hasWorthInRetires : pz_yv yX9_hasWorthInRetires 8 := ⟨List.mem_of_getElem? (i := 885) (by decide +kernel), List.mem_of_getElem? (i := 61) (by decide +kernel), Or.inl ⟨TX9, 8, rfl⟩⟩
theorem lk_X9_261 : pz_lk RX9 261 yX5_bestClaim := Or.inr ⟨"PartedPension", List.mem_of_getElem? (i := 887) (by decide +kernel)⟩
