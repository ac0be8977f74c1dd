theorem py_X5_bestClaim : pz_y yX5_bestClaim cX5_bestClaim 16 (some .int) 2 := ⟨List.mem_of_getElem? (i := 890) (by decide +kernel), List.mem_of_getElem? (i := 126) (by decide +kernel), ⟨by decide +kernel, by decide +kernel⟩, by decide +kernel⟩
theorem pv_X5_bestClaim : pz_yv yX5_bestClaim 4 := ⟨List.mem_of_getElem? (i := 889) (by decide +kernel), List.mem_of_getElem? (i := 62) (by decide +kernel), Or.inl ⟨TX5, 6, rfl⟩⟩
theorem fa_X9_155 : pz_fa RX9 155 6 2 := ⟨RX7, TX7, 9, rfl, by decide, pz_wsX7, Or.inr ⟨"PartedPension", List.mem_of_getElem? (i := 217) (by decide +kernel)⟩⟩
theorem lk_X9_265 : pz_lk RX9 265 yX5_leastHalf := Or.inr ⟨"PartedPension", List.mem_of_getElem? (i := 896) (by decide +kernel)⟩
theorem py_X5_leastHalf : pz_y yX5_leastHalf cX5_leastHalf 9 (some .int) 2 := ⟨List.mem_of_getElem? (i := 899) (by decide +kernel), List.mem_of_getElem? (i := 126) (by decide +kernel), ⟨by decide +kernel, by decide +kernel⟩, by decide +kernel⟩
theorem pv_X5_leastHalf : pz_yv yX5_leastHalf 4 := ⟨List.mem_of_getElem? (i := 898) (by decide +kernel), List.mem_of_getElem? (i := 63) (by decide +kernel), Or.inl ⟨TX5, 6, rfl⟩⟩
theorem lk_X9_268 : pz_lk RX9 268 yX5_firstCrossing := Or.inr ⟨"PartedPension", List.mem_of_getElem? (i := 908) (by decide +kernel)⟩
theorem py_X5_firstCrossing : pz_y yX5_firstCrossing cX5_firstCrossing 8 (some .int) 2 := ⟨List.mem_of_getElem? (i := 911) (by decide +kernel), List.mem_of_getElem? (i := 126) (by decide +kernel), ⟨by decide +kernel, by decide +kernel⟩, by decide +kernel⟩
theorem pv_X5_firstCrossing : pz_yv yX5_firstCrossing 4 := ⟨List.mem_of_getElem? (i := 910) (by decide +kernel), List.mem_of_getElem? (i := 64) (by decide +kernel), Or.inl ⟨TX5, 6, rfl⟩⟩
theorem pz_wsX10 : ∀ w ∈ u_ws RX10 TX10 22, w ∈ lw_tbl := by decide +kernel
theorem fa_X10_7 : pz_fa RX10 7 9 1 := ⟨RX10, TX10, 22, rfl, by decide, pz_wsX10, Or.inl (List.mem_of_getElem? (i := 1007) (by decide +kernel))⟩
theorem ol_X10_1 : Cond.methodLink RX10 1 Lib.objectInit ∈ lw_tbl := List.mem_of_getElem? (i := 1001) (by decide +kernel)
theorem fp_X10_7 : pz_fp RX10 7 9 1 (.array .int) true := ⟨RX10, TX10, 22, tyX10, rfl, by decide, pz_wsX10, Or.inl (List.mem_of_getElem? (i := 1007) (by decide +kernel)), tyX10_ok, nmX10, rfl, by decide +kernel, rfl⟩
theorem fp_X10_13 : pz_fp RX10 13 9 2 (.array .int) true := ⟨RX10, TX10, 22, tyX10, rfl, by decide, pz_wsX10, Or.inl (List.mem_of_getElem? (i := 1008) (by decide +kernel)), tyX10_ok, nmX10, rfl, by decide +kernel, rfl⟩
theorem fp_X10_16 : pz_fp RX10 16 9 3 (.array .int) true := ⟨RX10, TX10, 22, tyX10, rfl, by decide, pz_wsX10, Or.inl (List.mem_of_getElem? (i := 1009) (by decide +kernel)), tyX10_ok, nmX10, rfl, by decide +kernel, rfl⟩
theorem fp_X10_19 : pz_fp RX10 19 9 5 (.array .long) true := ⟨RX10, TX10, 22, tyX10, rfl, by decide, pz_wsX10, Or.inl (List.mem_of_getElem? (i := 1011) (by decide +kernel)), tyX10_ok, nmX10, rfl, by decide +kernel, rfl⟩
theorem fp_X10_23 : pz_fp RX10 23 9 7 (.array .long) true := ⟨RX10, TX10, 22, tyX10, rfl, by decide, pz_wsX10, Or.inl (List.mem_of_getElem? (i := 1013) (by decide +kernel)), tyX10_ok, nmX10, rfl, by decide +kernel, rfl⟩
theorem fp_X10_26 : pz_fp RX10 26 9 8 (.array .long) true := ⟨RX10, TX10, 22, tyX10, rfl, by decide, pz_wsX10, Or.inl (List.mem_of_getElem? (i := 1014) (by decide +kernel)), tyX10_ok, nmX10, rfl, by decide +kernel, rfl⟩
theorem fp_X10_29 : pz_fp RX10 29 9 9 (.array .long) true := ⟨RX10, TX10, 22, tyX10, rfl, by decide, pz_wsX10, Or.inl (List.mem_of_getElem? (i := 1015) (by decide +kernel)), tyX10_ok, nmX10, rfl, by decide +kernel, rfl⟩
theorem fp_X10_32 : pz_fp RX10 32 9 10 (.array .long) true := ⟨RX10, TX10, 22, tyX10, rfl, by decide, pz_wsX10, Or.inl (List.mem_of_getElem? (i := 1016) (by decide +kernel)), tyX10_ok, nmX10, rfl, by decide +kernel, rfl⟩
theorem fp_X10_35 : pz_fp RX10 35 9 11 (.array .int) true := ⟨RX10, TX10, 22, tyX10, rfl, by decide, pz_wsX10, Or.inl (List.mem_of_getElem? (i := 1017) (by decide +kernel)), tyX10_ok, nmX10, rfl, by decide +kernel, rfl⟩
theorem fp_X10_38 : pz_fp RX10 38 9 13 (.array .int) true := ⟨RX10, TX10, 22, tyX10, rfl, by decide, pz_wsX10, Or.inl (List.mem_of_getElem? (i := 1019) (by decide +kernel)), tyX10_ok, nmX10, rfl, by decide +kernel, rfl⟩
theorem fp_X10_41 : pz_fp RX10 41 9 21 (.array .int) true := ⟨RX10, TX10, 22, tyX10, rfl, by decide, pz_wsX10, Or.inl (List.mem_of_getElem? (i := 1027) (by decide +kernel)), tyX10_ok, nmX10, rfl, by decide +kernel, rfl⟩
theorem lk_X10_44 : pz_lk RX10 44 yX10_begins := Or.inl (List.mem_of_getElem? (i := 1002) (by decide +kernel))
theorem py_X10_begins : pz_y yX10_begins cX10_begins 3 none 1 := ⟨List.mem_of_getElem? (i := 1005) (by decide +kernel), List.mem_of_getElem? (i := 128) (by decide +kernel), ⟨by decide +kernel, by decide +kernel⟩, by decide +kernel⟩
theorem pv_X10_begins : pz_yv yX10_begins 9 := ⟨List.mem_of_getElem? (i := 1004) (by decide +kernel), List.mem_of_getElem? (i := 66) (by decide +kernel), Or.inl ⟨TX10, 22, rfl⟩⟩
theorem fa_X10_48 : pz_fa RX10 48 9 0 := ⟨RX10, TX10, 22, rfl, by decide, pz_wsX10, Or.inl (List.mem_of_getElem? (i := 1006) (by decide +kernel))⟩
theorem lk_X10_52 : pz_lk RX10 52 yX10_in := Or.inl (List.mem_of_getElem? (i := 1084) (by decide +kernel))
theorem py_X10_in : pz_y yX10_in cX10_in 3 (some .boolean) 3 := ⟨List.mem_of_getElem? (i := 1086) (by decide +kernel), List.mem_of_getElem? (i := 128) (by decide +kernel), ⟨by decide +kernel, by decide +kernel⟩, by decide +kernel⟩
theorem ps_X10_in : pz_ys yX10_in := List.mem_of_getElem? (i := 1085) (by decide +kernel)
theorem lk_X10_56 : pz_lk RX10 56 yX10_its := Or.inl (List.mem_of_getElem? (i := 1108) (by decide +kernel))
theorem py_X10_its : pz_y yX10_its cX10_its 3 (some .int) 2 := ⟨List.mem_of_getElem? (i := 1111) (by decide +kernel), List.mem_of_getElem? (i := 128) (by decide +kernel), ⟨by decide +kernel, by decide +kernel⟩, by decide +kernel⟩
theorem pv_X10_its : pz_yv yX10_its 9 := ⟨List.mem_of_getElem? (i := 1110) (by decide +kernel), List.mem_of_getElem? (i := 72) (by decide +kernel), Or.inl ⟨TX10, 22, rfl⟩⟩
theorem lk_X10_60 : pz_lk RX10 60 yX10_spanOf := Or.inl (List.mem_of_getElem? (i := 1150) (by decide +kernel))
theorem py_X10_spanOf : pz_y yX10_spanOf cX10_spanOf 3 (some .int) 2 := ⟨List.mem_of_getElem? (i := 1153) (by decide +kernel), List.mem_of_getElem? (i := 128) (by decide +kernel), ⟨by decide +kernel, by decide +kernel⟩, by decide +kernel⟩
theorem pv_X10_spanOf : pz_yv yX10_spanOf 9 := ⟨List.mem_of_getElem? (i := 1152) (by decide +kernel), List.mem_of_getElem? (i := 82) (by decide +kernel), Or.inl ⟨TX10, 22, rfl⟩⟩
theorem lk_X10_63 : pz_lk RX10 63 yX10_serviceIn := Or.inl (List.mem_of_getElem? (i := 1158) (by decide +kernel))
theorem py_X10_serviceIn : pz_y yX10_serviceIn cX10_serviceIn 7 (some .int) 2 := ⟨List.mem_of_getElem? (i := 1161) (by decide +kernel), List.mem_of_getElem? (i := 128) (by decide +kernel), ⟨by decide +kernel, by decide +kernel⟩, by decide +kernel⟩
theorem pv_X10_serviceIn : pz_yv yX10_serviceIn 9 := ⟨List.mem_of_getElem? (i := 1160) (by decide +kernel), List.mem_of_getElem? (i := 84) (by decide +kernel), Or.inl ⟨TX10, 22, rfl⟩⟩
theorem lk_X10_66 : pz_lk RX10 66 yX10_finalPay := Or.inl (List.mem_of_getElem? (i := 1146) (by decide +kernel))
theorem py_X10_finalPay : pz_y yX10_finalPay cX10_finalPay 6 (some .int) 0 := ⟨List.mem_of_getElem? (i := 1149) (by decide +kernel), List.mem_of_getElem? (i := 128) (by decide +kernel), ⟨by decide +kernel, by decide +kernel⟩, by decide +kernel⟩
theorem pv_X10_finalPay : pz_yv yX10_finalPay 9 := ⟨List.mem_of_getElem? (i := 1148) (by decide +kernel), List.mem_of_getElem? (i := 81) (by decide +kernel), Or.inl ⟨TX10, 22, rfl⟩⟩
theorem lk_X10_70 : pz_lk RX10 70 yX10_served := Or.inl (List.mem_of_getElem? (i := 1154) (by decide +kernel))
theorem py_X10_served : pz_y yX10_served cX10_served 1 (some .int) 0 := ⟨List.mem_of_getElem? (i := 1157) (by decide +kernel), List.mem_of_getElem? (i := 128) (by decide +kernel), ⟨by decide +kernel, by decide +kernel⟩, by decide +kernel⟩
theorem pv_X10_served : pz_yv yX10_served 9 := ⟨List.mem_of_getElem? (i := 1156) (by decide +kernel), List.mem_of_getElem? (i := 83) (by decide +kernel), Or.inl ⟨TX10, 22, rfl⟩⟩
theorem ck_X10_73 : Cond.constantLong RX10 73 120000 ∈ lw_tbl := List.mem_of_getElem? (i := 1162) (by decide +kernel)
theorem lk_X10_75 : pz_lk RX10 75 yX10_base := Or.inl (List.mem_of_getElem? (i := 1142) (by decide +kernel))
theorem py_X10_base : pz_y yX10_base cX10_base 1 (some .int) 0 := ⟨List.mem_of_getElem? (i := 1145) (by decide +kernel), List.mem_of_getElem? (i := 128) (by decide +kernel), ⟨by decide +kernel, by decide +kernel⟩, by decide +kernel⟩
theorem pv_X10_base : pz_yv yX10_base 9 := ⟨List.mem_of_getElem? (i := 1144) (by decide +kernel), List.mem_of_getElem? (i := 80) (by decide +kernel), Or.inl ⟨TX10, 22, rfl⟩⟩
theorem ck_X10_78 : Cond.constantLong RX10 78 1000 ∈ lw_tbl := List.mem_of_getElem? (i := 1163) (by decide +kernel)
theorem fa_X10_19 : pz_fa RX10 19 9 5 := ⟨RX10, TX10, 22, rfl, by decide, pz_wsX10, Or.inl (List.mem_of_getElem? (i := 1011) (by decide +kernel))⟩
theorem fa_X10_23 : pz_fa RX10 23 9 7 := ⟨RX10, TX10, 22, rfl, by decide, pz_wsX10, Or.inl (List.mem_of_getElem? (i := 1013) (by decide +kernel))⟩
theorem ck_X10_89 : Cond.constantLong RX10 89 12000 ∈ lw_tbl := List.mem_of_getElem? (i := 1164) (by decide +kernel)
theorem ck_X10_87 : Cond.constantLong RX10 87 1000000000 ∈ lw_tbl := List.mem_of_getElem? (i := 1129) (by decide +kernel)
theorem fa_X10_80 : pz_fa RX10 80 9 6 := ⟨RX10, TX10, 22, rfl, by decide, pz_wsX10, Or.inl (List.mem_of_getElem? (i := 1012) (by decide +kernel))⟩
theorem fp_X10_80 : pz_fp RX10 80 9 6 (.boolean) false := ⟨RX10, TX10, 22, tyX10, rfl, by decide, pz_wsX10, Or.inl (List.mem_of_getElem? (i := 1012) (by decide +kernel)), tyX10_ok, nmX10, rfl, by decide +kernel, rfl⟩
theorem lk_X10_84 : pz_lk RX10 84 yX10_firstPaid := Or.inl (List.mem_of_getElem? (i := 1138) (by decide +kernel))
theorem py_X10_firstPaid : pz_y yX10_firstPaid cX10_firstPaid 3 (some .int) 0 := ⟨List.mem_of_getElem? (i := 1141) (by decide +kernel), List.mem_of_getElem? (i := 128) (by decide +kernel), ⟨by decide +kernel, by decide +kernel⟩, by decide +kernel⟩
theorem pv_X10_firstPaid : pz_yv yX10_firstPaid 9 := ⟨List.mem_of_getElem? (i := 1140) (by decide +kernel), List.mem_of_getElem? (i := 79) (by decide +kernel), Or.inl ⟨TX10, 22, rfl⟩⟩
theorem lk_X10_91 : pz_lk RX10 91 yX10_isParted := Or.inl (List.mem_of_getElem? (i := 1104) (by decide +kernel))
theorem py_X10_isParted : pz_y yX10_isParted cX10_isParted 2 (some .boolean) 1 := ⟨List.mem_of_getElem? (i := 1107) (by decide +kernel), List.mem_of_getElem? (i := 128) (by decide +kernel), ⟨by decide +kernel, by decide +kernel⟩, by decide +kernel⟩
theorem pv_X10_isParted : pz_yv yX10_isParted 9 := ⟨List.mem_of_getElem? (i := 1106) (by decide +kernel), List.mem_of_getElem? (i := 71) (by decide +kernel), Or.inl ⟨TX10, 22, rfl⟩⟩
theorem lk_X10_95 : pz_lk RX10 95 yX10_laysWholes := Or.inl (List.mem_of_getElem? (i := 1134) (by decide +kernel))
theorem py_X10_laysWholes : pz_y yX10_laysWholes cX10_laysWholes 6 none 0 := ⟨List.mem_of_getElem? (i := 1137) (by decide +kernel), List.mem_of_getElem? (i := 128) (by decide +kernel), ⟨by decide +kernel, by decide +kernel⟩, by decide +kernel⟩
theorem pv_X10_laysWholes : pz_yv yX10_laysWholes 9 := ⟨List.mem_of_getElem? (i := 1136) (by decide +kernel), List.mem_of_getElem? (i := 78) (by decide +kernel), Or.inl ⟨TX10, 22, rfl⟩⟩
theorem lk_X10_98 : pz_lk RX10 98 yX10_wedIn := Or.inl (List.mem_of_getElem? (i := 1177) (by decide +kernel))
theorem py_X10_wedIn : pz_y yX10_wedIn cX10_wedIn 2 (some .int) 1 := ⟨List.mem_of_getElem? (i := 1180) (by decide +kernel), List.mem_of_getElem? (i := 128) (by decide +kernel), ⟨by decide +kernel, by decide +kernel⟩, by decide +kernel⟩
theorem pv_X10_wedIn : pz_yv yX10_wedIn 9 := ⟨List.mem_of_getElem? (i := 1179) (by decide +kernel), List.mem_of_getElem? (i := 88) (by decide +kernel), Or.inl ⟨TX10, 22, rfl⟩⟩
theorem ck_X10_102 : Cond.constant RX10 102 100000 ∈ lw_tbl := List.mem_of_getElem? (i := 1128) (by decide +kernel)
theorem lk_X10_103 : pz_lk RX10 103 yX10_bornOf := Or.inl (List.mem_of_getElem? (i := 1120) (by decide +kernel))
theorem py_X10_bornOf : pz_y yX10_bornOf cX10_bornOf 2 (some .int) 1 := ⟨List.mem_of_getElem? (i := 1123) (by decide +kernel), List.mem_of_getElem? (i := 128) (by decide +kernel), ⟨by decide +kernel, by decide +kernel⟩, by decide +kernel⟩
theorem pv_X10_bornOf : pz_yv yX10_bornOf 9 := ⟨List.mem_of_getElem? (i := 1122) (by decide +kernel), List.mem_of_getElem? (i := 75) (by decide +kernel), Or.inl ⟨TX10, 22, rfl⟩⟩
theorem lk_X10_106 : pz_lk RX10 106 yX10_livesAt := Or.inl (List.mem_of_getElem? (i := 1124) (by decide +kernel))
theorem py_X10_livesAt : pz_y yX10_livesAt cX10_livesAt 9 (some .int) 1 := ⟨List.mem_of_getElem? (i := 1127) (by decide +kernel), List.mem_of_getElem? (i := 128) (by decide +kernel), ⟨by decide +kernel, by decide +kernel⟩, by decide +kernel⟩
theorem pv_X10_livesAt : pz_yv yX10_livesAt 9 := ⟨List.mem_of_getElem? (i := 1126) (by decide +kernel), List.mem_of_getElem? (i := 76) (by decide +kernel), Or.inl ⟨TX10, 22, rfl⟩⟩
theorem lk_X10_128 : pz_lk RX10 128 yX10_shareIn := Or.inl (List.mem_of_getElem? (i := 1173) (by decide +kernel))
theorem py_X10_shareIn : pz_y yX10_shareIn cX10_shareIn 4 (some .long) 2 := ⟨List.mem_of_getElem? (i := 1176) (by decide +kernel), List.mem_of_getElem? (i := 128) (by decide +kernel), ⟨by decide +kernel, by decide +kernel⟩, by decide +kernel⟩
theorem pv_X10_shareIn : pz_yv yX10_shareIn 9 := ⟨List.mem_of_getElem? (i := 1175) (by decide +kernel), List.mem_of_getElem? (i := 87) (by decide +kernel), Or.inl ⟨TX10, 22, rfl⟩⟩
theorem lk_X10_109 : pz_lk RX10 109 yX10_areBorn := Or.inl (List.mem_of_getElem? (i := 1112) (by decide +kernel))
theorem py_X10_areBorn : pz_y yX10_areBorn cX10_areBorn 3 (some .boolean) 2 := ⟨List.mem_of_getElem? (i := 1115) (by decide +kernel), List.mem_of_getElem? (i := 128) (by decide +kernel), ⟨by decide +kernel, by decide +kernel⟩, by decide +kernel⟩
theorem pv_X10_areBorn : pz_yv yX10_areBorn 9 := ⟨List.mem_of_getElem? (i := 1114) (by decide +kernel), List.mem_of_getElem? (i := 73) (by decide +kernel), Or.inl ⟨TX10, 22, rfl⟩⟩
theorem fa_X10_26 : pz_fa RX10 26 9 8 := ⟨RX10, TX10, 22, rfl, by decide, pz_wsX10, Or.inl (List.mem_of_getElem? (i := 1014) (by decide +kernel))⟩
theorem lk_X10_113 : pz_lk RX10 113 yX10_laysOdds := Or.inl (List.mem_of_getElem? (i := 1116) (by decide +kernel))
theorem py_X10_laysOdds : pz_y yX10_laysOdds cX10_laysOdds 6 none 3 := ⟨List.mem_of_getElem? (i := 1119) (by decide +kernel), List.mem_of_getElem? (i := 128) (by decide +kernel), ⟨by decide +kernel, by decide +kernel⟩, by decide +kernel⟩
theorem pv_X10_laysOdds : pz_yv yX10_laysOdds 9 := ⟨List.mem_of_getElem? (i := 1118) (by decide +kernel), List.mem_of_getElem? (i := 74) (by decide +kernel), Or.inl ⟨TX10, 22, rfl⟩⟩
theorem fa_X10_29 : pz_fa RX10 29 9 9 := ⟨RX10, TX10, 22, rfl, by decide, pz_wsX10, Or.inl (List.mem_of_getElem? (i := 1015) (by decide +kernel))⟩
theorem lk_X10_117 : pz_lk RX10 117 yX10_annuityBy := Or.inl (List.mem_of_getElem? (i := 1130) (by decide +kernel))
theorem py_X10_annuityBy : pz_y yX10_annuityBy cX10_annuityBy 7 (some .long) 3 := ⟨List.mem_of_getElem? (i := 1133) (by decide +kernel), List.mem_of_getElem? (i := 128) (by decide +kernel), ⟨by decide +kernel, by decide +kernel⟩, by decide +kernel⟩
theorem pv_X10_annuityBy : pz_yv yX10_annuityBy 9 := ⟨List.mem_of_getElem? (i := 1132) (by decide +kernel), List.mem_of_getElem? (i := 77) (by decide +kernel), Or.inl ⟨TX10, 22, rfl⟩⟩
theorem lk_X10_121 : pz_lk RX10 121 yX10_begin := Or.inl (List.mem_of_getElem? (i := 1165) (by decide +kernel))
theorem py_X10_begin : pz_y yX10_begin cX10_begin 2 (some .int) 1 := ⟨List.mem_of_getElem? (i := 1168) (by decide +kernel), List.mem_of_getElem? (i := 128) (by decide +kernel), ⟨by decide +kernel, by decide +kernel⟩, by decide +kernel⟩
theorem pv_X10_begin : pz_yv yX10_begin 9 := ⟨List.mem_of_getElem? (i := 1167) (by decide +kernel), List.mem_of_getElem? (i := 85) (by decide +kernel), Or.inl ⟨TX10, 22, rfl⟩⟩
theorem lk_X10_124 : pz_lk RX10 124 yX10_ownBy := Or.inl (List.mem_of_getElem? (i := 1169) (by decide +kernel))
theorem py_X10_ownBy : pz_y yX10_ownBy cX10_ownBy 10 (some .long) 3 := ⟨List.mem_of_getElem? (i := 1172) (by decide +kernel), List.mem_of_getElem? (i := 128) (by decide +kernel), ⟨by decide +kernel, by decide +kernel⟩, by decide +kernel⟩
theorem pv_X10_ownBy : pz_yv yX10_ownBy 9 := ⟨List.mem_of_getElem? (i := 1171) (by decide +kernel), List.mem_of_getElem? (i := 86) (by decide +kernel), Or.inl ⟨TX10, 22, rfl⟩⟩
theorem fa_X10_32 : pz_fa RX10 32 9 10 := ⟨RX10, TX10, 22, rfl, by decide, pz_wsX10, Or.inl (List.mem_of_getElem? (i := 1016) (by decide +kernel))⟩
theorem lk_X10_132 : pz_lk RX10 132 yX10_ownOf := Or.inl (List.mem_of_getElem? (i := 1100) (by decide +kernel))
theorem py_X10_ownOf : pz_y yX10_ownOf cX10_ownOf 3 (some .long) 1 := ⟨List.mem_of_getElem? (i := 1103) (by decide +kernel), List.mem_of_getElem? (i := 128) (by decide +kernel), ⟨by decide +kernel, by decide +kernel⟩, by decide +kernel⟩
theorem pv_X10_ownOf : pz_yv yX10_ownOf 9 := ⟨List.mem_of_getElem? (i := 1102) (by decide +kernel), List.mem_of_getElem? (i := 70) (by decide +kernel), Or.inl ⟨TX10, 22, rfl⟩⟩
theorem lk_X10_136 : pz_lk RX10 136 yX10_livesIn := Or.inl (List.mem_of_getElem? (i := 1189) (by decide +kernel))
theorem py_X10_livesIn : pz_y yX10_livesIn cX10_livesIn 3 (some .boolean) 2 := ⟨List.mem_of_getElem? (i := 1192) (by decide +kernel), List.mem_of_getElem? (i := 128) (by decide +kernel), ⟨by decide +kernel, by decide +kernel⟩, by decide +kernel⟩
theorem pv_X10_livesIn : pz_yv yX10_livesIn 9 := ⟨List.mem_of_getElem? (i := 1191) (by decide +kernel), List.mem_of_getElem? (i := 91) (by decide +kernel), Or.inl ⟨TX10, 22, rfl⟩⟩
theorem lk_X10_139 : pz_lk RX10 139 yX10_isPaid := Or.inl (List.mem_of_getElem? (i := 1197) (by decide +kernel))
theorem py_X10_isPaid : pz_y yX10_isPaid cX10_isPaid 3 (some .boolean) 2 := ⟨List.mem_of_getElem? (i := 1200) (by decide +kernel), List.mem_of_getElem? (i := 128) (by decide +kernel), ⟨by decide +kernel, by decide +kernel⟩, by decide +kernel⟩
theorem pv_X10_isPaid : pz_yv yX10_isPaid 9 := ⟨List.mem_of_getElem? (i := 1199) (by decide +kernel), List.mem_of_getElem? (i := 93) (by decide +kernel), Or.inl ⟨TX10, 22, rfl⟩⟩
theorem lk_X10_142 : pz_lk RX10 142 yX10_paidBy := Or.inl (List.mem_of_getElem? (i := 1193) (by decide +kernel))
theorem py_X10_paidBy : pz_y yX10_paidBy cX10_paidBy 6 (some .long) 3 := ⟨List.mem_of_getElem? (i := 1196) (by decide +kernel), List.mem_of_getElem? (i := 128) (by decide +kernel), ⟨by decide +kernel, by decide +kernel⟩, by decide +kernel⟩
theorem pv_X10_paidBy : pz_yv yX10_paidBy 9 := ⟨List.mem_of_getElem? (i := 1195) (by decide +kernel), List.mem_of_getElem? (i := 92) (by decide +kernel), Or.inl ⟨TX10, 22, rfl⟩⟩
theorem lk_X10_146 : pz_lk RX10 146 yX10_paidMember := Or.inl (List.mem_of_getElem? (i := 1185) (by decide +kernel))
theorem py_X10_paidMember : pz_y yX10_paidMember cX10_paidMember 5 (some .long) 1 := ⟨List.mem_of_getElem? (i := 1188) (by decide +kernel), List.mem_of_getElem? (i := 128) (by decide +kernel), ⟨by decide +kernel, by decide +kernel⟩, by decide +kernel⟩
theorem pv_X10_paidMember : pz_yv yX10_paidMember 9 := ⟨List.mem_of_getElem? (i := 1187) (by decide +kernel), List.mem_of_getElem? (i := 90) (by decide +kernel), Or.inl ⟨TX10, 22, rfl⟩⟩
theorem lk_X10_149 : pz_lk RX10 149 yX10_isSpouse := Or.inl (List.mem_of_getElem? (i := 1091) (by decide +kernel))
theorem py_X10_isSpouse : pz_y yX10_isSpouse cX10_isSpouse 2 (some .boolean) 1 := ⟨List.mem_of_getElem? (i := 1094) (by decide +kernel), List.mem_of_getElem? (i := 128) (by decide +kernel), ⟨by decide +kernel, by decide +kernel⟩, by decide +kernel⟩
theorem pv_X10_isSpouse : pz_yv yX10_isSpouse 9 := ⟨List.mem_of_getElem? (i := 1093) (by decide +kernel), List.mem_of_getElem? (i := 68) (by decide +kernel), Or.inl ⟨TX10, 22, rfl⟩⟩
theorem lk_X10_152 : pz_lk RX10 152 yX10_paidTo := Or.inl (List.mem_of_getElem? (i := 1181) (by decide +kernel))
theorem py_X10_paidTo : pz_y yX10_paidTo cX10_paidTo 6 (some .long) 2 := ⟨List.mem_of_getElem? (i := 1184) (by decide +kernel), List.mem_of_getElem? (i := 128) (by decide +kernel), ⟨by decide +kernel, by decide +kernel⟩, by decide +kernel⟩
theorem pv_X10_paidTo : pz_yv yX10_paidTo 9 := ⟨List.mem_of_getElem? (i := 1183) (by decide +kernel), List.mem_of_getElem? (i := 89) (by decide +kernel), Or.inl ⟨TX10, 22, rfl⟩⟩
theorem ck_X10_161 : Cond.constantLong RX10 161 (-1000000000000000) ∈ lw_tbl := List.mem_of_getElem? (i := 1095) (by decide +kernel)
theorem lk_X10_163 : pz_lk RX10 163 yX10_laysOwns := Or.inl (List.mem_of_getElem? (i := 1096) (by decide +kernel))
theorem py_X10_laysOwns : pz_y yX10_laysOwns cX10_laysOwns 2 none 0 := ⟨List.mem_of_getElem? (i := 1099) (by decide +kernel), List.mem_of_getElem? (i := 128) (by decide +kernel), ⟨by decide +kernel, by decide +kernel⟩, by decide +kernel⟩
theorem pv_X10_laysOwns : pz_yv yX10_laysOwns 9 := ⟨List.mem_of_getElem? (i := 1098) (by decide +kernel), List.mem_of_getElem? (i := 69) (by decide +kernel), Or.inl ⟨TX10, 22, rfl⟩⟩
theorem fp_X10_48 : pz_fp RX10 48 9 0 (.int) false := ⟨RX10, TX10, 22, tyX10, rfl, by decide, pz_wsX10, Or.inl (List.mem_of_getElem? (i := 1006) (by decide +kernel)), tyX10_ok, nmX10, rfl, by decide +kernel, rfl⟩
theorem lk_X10_155 : pz_lk RX10 155 yX10_isMonth := Or.inl (List.mem_of_getElem? (i := 1081) (by decide +kernel))
theorem py_X10_isMonth : pz_y yX10_isMonth cX10_isMonth 1 (some .boolean) 1 := ⟨List.mem_of_getElem? (i := 1083) (by decide +kernel), List.mem_of_getElem? (i := 128) (by decide +kernel), ⟨by decide +kernel, by decide +kernel⟩, by decide +kernel⟩
theorem ps_X10_isMonth : pz_ys yX10_isMonth := List.mem_of_getElem? (i := 1082) (by decide +kernel)
theorem lk_X10_158 : pz_lk RX10 158 yX10_isWho := Or.inl (List.mem_of_getElem? (i := 1087) (by decide +kernel))
theorem py_X10_isWho : pz_y yX10_isWho cX10_isWho 2 (some .boolean) 1 := ⟨List.mem_of_getElem? (i := 1090) (by decide +kernel), List.mem_of_getElem? (i := 128) (by decide +kernel), ⟨by decide +kernel, by decide +kernel⟩, by decide +kernel⟩
theorem pv_X10_isWho : pz_yv yX10_isWho 9 := ⟨List.mem_of_getElem? (i := 1089) (by decide +kernel), List.mem_of_getElem? (i := 67) (by decide +kernel), Or.inl ⟨TX10, 22, rfl⟩⟩
theorem lk_X10_166 : pz_lk RX10 166 yX10_sumOf := Or.inl (List.mem_of_getElem? (i := 1205) (by decide +kernel))
theorem py_X10_sumOf : pz_y yX10_sumOf cX10_sumOf 7 (some .long) 3 := ⟨List.mem_of_getElem? (i := 1208) (by decide +kernel), List.mem_of_getElem? (i := 128) (by decide +kernel), ⟨by decide +kernel, by decide +kernel⟩, by decide +kernel⟩
theorem pv_X10_sumOf : pz_yv yX10_sumOf 9 := ⟨List.mem_of_getElem? (i := 1207) (by decide +kernel), List.mem_of_getElem? (i := 94) (by decide +kernel), Or.inl ⟨TX10, 22, rfl⟩⟩
theorem fa_X10_169 : pz_fa RX10 169 9 14 := ⟨RX10, TX10, 22, rfl, by decide, pz_wsX10, Or.inl (List.mem_of_getElem? (i := 1020) (by decide +kernel))⟩
theorem fa_X10_172 : pz_fa RX10 172 9 4 := ⟨RX10, TX10, 22, rfl, by decide, pz_wsX10, Or.inl (List.mem_of_getElem? (i := 1010) (by decide +kernel))⟩
theorem lk_X10_175 : pz_lk RX10 175 yX10_divisor := Or.inl (List.mem_of_getElem? (i := 1245) (by decide +kernel))
theorem py_X10_divisor : pz_y yX10_divisor cX10_divisor 5 (some .int) 2 := ⟨List.mem_of_getElem? (i := 1247) (by decide +kernel), List.mem_of_getElem? (i := 128) (by decide +kernel), ⟨by decide +kernel, by decide +kernel⟩, by decide +kernel⟩
theorem ps_X10_divisor : pz_ys yX10_divisor := List.mem_of_getElem? (i := 1246) (by decide +kernel)
theorem fa_X10_35 : pz_fa RX10 35 9 11 := ⟨RX10, TX10, 22, rfl, by decide, pz_wsX10, Or.inl (List.mem_of_getElem? (i := 1017) (by decide +kernel))⟩
theorem fa_X10_178 : pz_fa RX10 178 9 12 := ⟨RX10, TX10, 22, rfl, by decide, pz_wsX10, Or.inl (List.mem_of_getElem? (i := 1018) (by decide +kernel))⟩
theorem fp_X10_178 : pz_fp RX10 178 9 12 (.int) false := ⟨RX10, TX10, 22, tyX10, rfl, by decide, pz_wsX10, Or.inl (List.mem_of_getElem? (i := 1018) (by decide +kernel)), tyX10_ok, nmX10, rfl, by decide +kernel, rfl⟩
theorem lk_X10_181 : pz_lk RX10 181 yX10_happensIn := Or.inl (List.mem_of_getElem? (i := 1252) (by decide +kernel))
theorem py_X10_happensIn : pz_y yX10_happensIn cX10_happensIn 6 none 3 := ⟨List.mem_of_getElem? (i := 1255) (by decide +kernel), List.mem_of_getElem? (i := 128) (by decide +kernel), ⟨by decide +kernel, by decide +kernel⟩, by decide +kernel⟩
theorem pv_X10_happensIn : pz_yv yX10_happensIn 9 := ⟨List.mem_of_getElem? (i := 1254) (by decide +kernel), List.mem_of_getElem? (i := 95) (by decide +kernel), Or.inl ⟨TX10, 22, rfl⟩⟩
theorem ck_X10_185 : Cond.constantLong RX10 185 (-1) ∈ lw_tbl := List.mem_of_getElem? (i := 1268) (by decide +kernel)
theorem lk_X10_187 : pz_lk RX10 187 yX10_worthIn := Or.inl (List.mem_of_getElem? (i := 1289) (by decide +kernel))
theorem py_X10_worthIn : pz_y yX10_worthIn cX10_worthIn 17 (some .long) 3 := ⟨List.mem_of_getElem? (i := 1292) (by decide +kernel), List.mem_of_getElem? (i := 128) (by decide +kernel), ⟨by decide +kernel, by decide +kernel⟩, by decide +kernel⟩
theorem pv_X10_worthIn : pz_yv yX10_worthIn 9 := ⟨List.mem_of_getElem? (i := 1291) (by decide +kernel), List.mem_of_getElem? (i := 99) (by decide +kernel), Or.inl ⟨TX10, 22, rfl⟩⟩
theorem lk_X10_191 : pz_lk RX10 191 yX10_hasWorth := Or.inl (List.mem_of_getElem? (i := 1277) (by decide +kernel))
theorem py_X10_hasWorth : pz_y yX10_hasWorth cX10_hasWorth 3 (some .boolean) 2 := ⟨List.mem_of_getElem? (i := 1280) (by decide +kernel), List.mem_of_getElem? (i := 128) (by decide +kernel), ⟨by decide +kernel, by decide +kernel⟩, by decide +kernel⟩
theorem pv_X10_hasWorth : pz_yv yX10_hasWorth 9 := ⟨List.mem_of_getElem? (i := 1279) (by decide +kernel), List.mem_of_getElem? (i := 96) (by decide +kernel), Or.inl ⟨TX10, 22, rfl⟩⟩
theorem lk_X10_197 : pz_lk RX10 197 yX10_worthOfSpouse := Or.inl (List.mem_of_getElem? (i := 1285) (by decide +kernel))
theorem py_X10_worthOfSpouse : pz_y yX10_worthOfSpouse cX10_worthOfSpouse 5 (some .long) 2 := ⟨List.mem_of_getElem? (i := 1288) (by decide +kernel), List.mem_of_getElem? (i := 128) (by decide +kernel), ⟨by decide +kernel, by decide +kernel⟩, by decide +kernel⟩
theorem pv_X10_worthOfSpouse : pz_yv yX10_worthOfSpouse 9 := ⟨List.mem_of_getElem? (i := 1287) (by decide +kernel), List.mem_of_getElem? (i := 98) (by decide +kernel), Or.inl ⟨TX10, 22, rfl⟩⟩
theorem lk_X10_194 : pz_lk RX10 194 yX10_worthOfAll := Or.inl (List.mem_of_getElem? (i := 1281) (by decide +kernel))
theorem py_X10_worthOfAll : pz_y yX10_worthOfAll cX10_worthOfAll 5 (some .long) 1 := ⟨List.mem_of_getElem? (i := 1284) (by decide +kernel), List.mem_of_getElem? (i := 128) (by decide +kernel), ⟨by decide +kernel, by decide +kernel⟩, by decide +kernel⟩
theorem pv_X10_worthOfAll : pz_yv yX10_worthOfAll 9 := ⟨List.mem_of_getElem? (i := 1283) (by decide +kernel), List.mem_of_getElem? (i := 97) (by decide +kernel), Or.inl ⟨TX10, 22, rfl⟩⟩
theorem ck_X10_200 : Cond.constantLong RX10 200 2 ∈ lw_tbl := List.mem_of_getElem? (i := 1301) (by decide +kernel)
theorem fp_X10_172 : pz_fp RX10 172 9 4 (.int) false := ⟨RX10, TX10, 22, tyX10, rfl, by decide, pz_wsX10, Or.inl (List.mem_of_getElem? (i := 1010) (by decide +kernel)), tyX10_ok, nmX10, rfl, by decide +kernel, rfl⟩
theorem fa_X10_13 : pz_fa RX10 13 9 2 := ⟨RX10, TX10, 22, rfl, by decide, pz_wsX10, Or.inl (List.mem_of_getElem? (i := 1008) (by decide +kernel))⟩
theorem lk_X10_202 : pz_lk RX10 202 yX10_lastService := Or.inl (List.mem_of_getElem? (i := 1317) (by decide +kernel))
theorem py_X10_lastService : pz_y yX10_lastService cX10_lastService 1 (some .int) 0 := ⟨List.mem_of_getElem? (i := 1320) (by decide +kernel), List.mem_of_getElem? (i := 128) (by decide +kernel), ⟨by decide +kernel, by decide +kernel⟩, by decide +kernel⟩
theorem pv_X10_lastService : pz_yv yX10_lastService 9 := ⟨List.mem_of_getElem? (i := 1319) (by decide +kernel), List.mem_of_getElem? (i := 102) (by decide +kernel), Or.inl ⟨TX10, 22, rfl⟩⟩
theorem lk_X10_208 : pz_lk RX10 208 yX10_canRetire := Or.inl (List.mem_of_getElem? (i := 1313) (by decide +kernel))
theorem py_X10_canRetire : pz_y yX10_canRetire cX10_canRetire 2 (some .boolean) 1 := ⟨List.mem_of_getElem? (i := 1316) (by decide +kernel), List.mem_of_getElem? (i := 128) (by decide +kernel), ⟨by decide +kernel, by decide +kernel⟩, by decide +kernel⟩
theorem pv_X10_canRetire : pz_yv yX10_canRetire 9 := ⟨List.mem_of_getElem? (i := 1315) (by decide +kernel), List.mem_of_getElem? (i := 101) (by decide +kernel), Or.inl ⟨TX10, 22, rfl⟩⟩
theorem lk_X10_205 : pz_lk RX10 205 yX10_mostOf := Or.inl (List.mem_of_getElem? (i := 1310) (by decide +kernel))
theorem py_X10_mostOf : pz_y yX10_mostOf cX10_mostOf 1 (some .int) 1 := ⟨List.mem_of_getElem? (i := 1312) (by decide +kernel), List.mem_of_getElem? (i := 128) (by decide +kernel), ⟨by decide +kernel, by decide +kernel⟩, by decide +kernel⟩
theorem ps_X10_mostOf : pz_ys yX10_mostOf := List.mem_of_getElem? (i := 1311) (by decide +kernel)
theorem lk_X10_211 : pz_lk RX10 211 yX10_placeOf := Or.inl (List.mem_of_getElem? (i := 1306) (by decide +kernel))
theorem py_X10_placeOf : pz_y yX10_placeOf cX10_placeOf 5 (some .int) 3 := ⟨List.mem_of_getElem? (i := 1309) (by decide +kernel), List.mem_of_getElem? (i := 128) (by decide +kernel), ⟨by decide +kernel, by decide +kernel⟩, by decide +kernel⟩
theorem pv_X10_placeOf : pz_yv yX10_placeOf 9 := ⟨List.mem_of_getElem? (i := 1308) (by decide +kernel), List.mem_of_getElem? (i := 100) (by decide +kernel), Or.inl ⟨TX10, 22, rfl⟩⟩
theorem lk_X10_215 : pz_lk RX10 215 yX10_keeps := Or.inl (List.mem_of_getElem? (i := 1321) (by decide +kernel))
theorem py_X10_keeps : pz_y yX10_keeps cX10_keeps 3 none 1 := ⟨List.mem_of_getElem? (i := 1324) (by decide +kernel), List.mem_of_getElem? (i := 128) (by decide +kernel), ⟨by decide +kernel, by decide +kernel⟩, by decide +kernel⟩
theorem pv_X10_keeps : pz_yv yX10_keeps 9 := ⟨List.mem_of_getElem? (i := 1323) (by decide +kernel), List.mem_of_getElem? (i := 103) (by decide +kernel), Or.inl ⟨TX10, 22, rfl⟩⟩
theorem fa_X10_38 : pz_fa RX10 38 9 13 := ⟨RX10, TX10, 22, rfl, by decide, pz_wsX10, Or.inl (List.mem_of_getElem? (i := 1019) (by decide +kernel))⟩
theorem fp_X10_169 : pz_fp RX10 169 9 14 (.int) false := ⟨RX10, TX10, 22, tyX10, rfl, by decide, pz_wsX10, Or.inl (List.mem_of_getElem? (i := 1020) (by decide +kernel)), tyX10_ok, nmX10, rfl, by decide +kernel, rfl⟩
theorem lk_X10_219 : pz_lk RX10 219 yX10_four := Or.inl (List.mem_of_getElem? (i := 1333) (by decide +kernel))
theorem py_X10_four : pz_y yX10_four cX10_four 3 none 1 := ⟨List.mem_of_getElem? (i := 1336) (by decide +kernel), List.mem_of_getElem? (i := 128) (by decide +kernel), ⟨by decide +kernel, by decide +kernel⟩, by decide +kernel⟩
theorem pv_X10_four : pz_yv yX10_four 9 := ⟨List.mem_of_getElem? (i := 1335) (by decide +kernel), List.mem_of_getElem? (i := 104) (by decide +kernel), Or.inl ⟨TX10, 22, rfl⟩⟩
theorem fa_X10_222 : pz_fa RX10 222 9 16 := ⟨RX10, TX10, 22, rfl, by decide, pz_wsX10, Or.inl (List.mem_of_getElem? (i := 1022) (by decide +kernel))⟩
theorem fp_X10_222 : pz_fp RX10 222 9 16 (.int) false := ⟨RX10, TX10, 22, tyX10, rfl, by decide, pz_wsX10, Or.inl (List.mem_of_getElem? (i := 1022) (by decide +kernel)), tyX10_ok, nmX10, rfl, by decide +kernel, rfl⟩
theorem fp_X10_225 : pz_fp RX10 225 9 17 (.int) false := ⟨RX10, TX10, 22, tyX10, rfl, by decide, pz_wsX10, Or.inl (List.mem_of_getElem? (i := 1023) (by decide +kernel)), tyX10_ok, nmX10, rfl, by decide +kernel, rfl⟩
theorem fp_X10_237 : pz_fp RX10 237 9 18 (.int) false := ⟨RX10, TX10, 22, tyX10, rfl, by decide, pz_wsX10, Or.inl (List.mem_of_getElem? (i := 1024) (by decide +kernel)), tyX10_ok, nmX10, rfl, by decide +kernel, rfl⟩
theorem fa_X10_234 : pz_fa RX10 234 9 19 := ⟨RX10, TX10, 22, rfl, by decide, pz_wsX10, Or.inl (List.mem_of_getElem? (i := 1025) (by decide +kernel))⟩
theorem fa_X10_41 : pz_fa RX10 41 9 21 := ⟨RX10, TX10, 22, rfl, by decide, pz_wsX10, Or.inl (List.mem_of_getElem? (i := 1027) (by decide +kernel))⟩
theorem fa_X10_237 : pz_fa RX10 237 9 18 := ⟨RX10, TX10, 22, rfl, by decide, pz_wsX10, Or.inl (List.mem_of_getElem? (i := 1024) (by decide +kernel))⟩
theorem lk_X10_231 : pz_lk RX10 231 yX10_fails := Or.inl (List.mem_of_getElem? (i := 1353) (by decide +kernel))
theorem py_X10_fails : pz_y yX10_fails cX10_fails 3 (some .boolean) 2 := ⟨List.mem_of_getElem? (i := 1356) (by decide +kernel), List.mem_of_getElem? (i := 128) (by decide +kernel), ⟨by decide +kernel, by decide +kernel⟩, by decide +kernel⟩
theorem pv_X10_fails : pz_yv yX10_fails 9 := ⟨List.mem_of_getElem? (i := 1355) (by decide +kernel), List.mem_of_getElem? (i := 107) (by decide +kernel), Or.inl ⟨TX10, 22, rfl⟩⟩
theorem lk_X10_228 : pz_lk RX10 228 yX10_here := Or.inl (List.mem_of_getElem? (i := 1345) (by decide +kernel))
theorem py_X10_here : pz_y yX10_here cX10_here 1 (some .int) 0 := ⟨List.mem_of_getElem? (i := 1348) (by decide +kernel), List.mem_of_getElem? (i := 128) (by decide +kernel), ⟨by decide +kernel, by decide +kernel⟩, by decide +kernel⟩
theorem pv_X10_here : pz_yv yX10_here 9 := ⟨List.mem_of_getElem? (i := 1347) (by decide +kernel), List.mem_of_getElem? (i := 105) (by decide +kernel), Or.inl ⟨TX10, 22, rfl⟩⟩
theorem fp_X10_234 : pz_fp RX10 234 9 19 (.int) false := ⟨RX10, TX10, 22, tyX10, rfl, by decide, pz_wsX10, Or.inl (List.mem_of_getElem? (i := 1025) (by decide +kernel)), tyX10_ok, nmX10, rfl, by decide +kernel, rfl⟩
theorem lk_X10_240 : pz_lk RX10 240 yX10_number := Or.inl (List.mem_of_getElem? (i := 1372) (by decide +kernel))
theorem py_X10_number : pz_y yX10_number cX10_number 4 (some .boolean) 3 := ⟨List.mem_of_getElem? (i := 1375) (by decide +kernel), List.mem_of_getElem? (i := 128) (by decide +kernel), ⟨by decide +kernel, by decide +kernel⟩, by decide +kernel⟩
theorem pv_X10_number : pz_yv yX10_number 9 := ⟨List.mem_of_getElem? (i := 1374) (by decide +kernel), List.mem_of_getElem? (i := 111) (by decide +kernel), Or.inl ⟨TX10, 22, rfl⟩⟩
theorem ck_X10_243 : Cond.constantLong RX10 243 27 ∈ lw_tbl := List.mem_of_getElem? (i := 1361) (by decide +kernel)
theorem ck_X10_245 : Cond.constantLong RX10 245 96 ∈ lw_tbl := List.mem_of_getElem? (i := 1362) (by decide +kernel)
theorem lk_X10_247 : pz_lk RX10 247 yX10_month := Or.inl (List.mem_of_getElem? (i := 1368) (by decide +kernel))
theorem py_X10_month : pz_y yX10_month cX10_month 2 (some .boolean) 1 := ⟨List.mem_of_getElem? (i := 1371) (by decide +kernel), List.mem_of_getElem? (i := 128) (by decide +kernel), ⟨by decide +kernel, by decide +kernel⟩, by decide +kernel⟩
theorem pv_X10_month : pz_yv yX10_month 9 := ⟨List.mem_of_getElem? (i := 1370) (by decide +kernel), List.mem_of_getElem? (i := 110) (by decide +kernel), Or.inl ⟨TX10, 22, rfl⟩⟩
theorem ck_X10_250 : Cond.constant RX10 250 1000000 ∈ lw_tbl := List.mem_of_getElem? (i := 1385) (by decide +kernel)
theorem lk_X10_251 : pz_lk RX10 251 yX10_ends := Or.inl (List.mem_of_getElem? (i := 1376) (by decide +kernel))
theorem py_X10_ends : pz_y yX10_ends cX10_ends 1 (some .boolean) 0 := ⟨List.mem_of_getElem? (i := 1379) (by decide +kernel), List.mem_of_getElem? (i := 128) (by decide +kernel), ⟨by decide +kernel, by decide +kernel⟩, by decide +kernel⟩
theorem pv_X10_ends : pz_yv yX10_ends 9 := ⟨List.mem_of_getElem? (i := 1378) (by decide +kernel), List.mem_of_getElem? (i := 112) (by decide +kernel), Or.inl ⟨TX10, 22, rfl⟩⟩
theorem ck_X10_261 : Cond.constantLong RX10 261 847604 ∈ lw_tbl := List.mem_of_getElem? (i := 1397) (by decide +kernel)
theorem lk_X10_255 : pz_lk RX10 255 yX10_readWord := Or.inl (List.mem_of_getElem? (i := 1357) (by decide +kernel))
theorem py_X10_readWord : pz_y yX10_readWord cX10_readWord 4 (some .long) 0 := ⟨List.mem_of_getElem? (i := 1360) (by decide +kernel), List.mem_of_getElem? (i := 128) (by decide +kernel), ⟨by decide +kernel, by decide +kernel⟩, by decide +kernel⟩
theorem pv_X10_readWord : pz_yv yX10_readWord 9 := ⟨List.mem_of_getElem? (i := 1359) (by decide +kernel), List.mem_of_getElem? (i := 108) (by decide +kernel), Or.inl ⟨TX10, 22, rfl⟩⟩
theorem ck_X10_259 : Cond.constantLong RX10 259 276913705 ∈ lw_tbl := List.mem_of_getElem? (i := 1396) (by decide +kernel)
theorem ck_X10_263 : Cond.constantLong RX10 263 11817 ∈ lw_tbl := List.mem_of_getElem? (i := 1418) (by decide +kernel)
theorem ck_X10_265 : Cond.constantLong RX10 265 209220123 ∈ lw_tbl := List.mem_of_getElem? (i := 1419) (by decide +kernel)
theorem ck_X10_267 : Cond.constantLong RX10 267 2690359 ∈ lw_tbl := List.mem_of_getElem? (i := 1420) (by decide +kernel)
theorem ck_X10_269 : Cond.constantLong RX10 269 70309 ∈ lw_tbl := List.mem_of_getElem? (i := 1421) (by decide +kernel)
theorem ck_X10_271 : Cond.constantLong RX10 271 99857059490 ∈ lw_tbl := List.mem_of_getElem? (i := 1422) (by decide +kernel)
theorem lk_X10_302 : pz_lk RX10 302 yX10_readOfSpouse := Or.inl (List.mem_of_getElem? (i := 1405) (by decide +kernel))
theorem py_X10_readOfSpouse : pz_y yX10_readOfSpouse cX10_readOfSpouse 4 (some .boolean) 2 := ⟨List.mem_of_getElem? (i := 1408) (by decide +kernel), List.mem_of_getElem? (i := 128) (by decide +kernel), ⟨by decide +kernel, by decide +kernel⟩, by decide +kernel⟩
theorem pv_X10_readOfSpouse : pz_yv yX10_readOfSpouse 9 := ⟨List.mem_of_getElem? (i := 1407) (by decide +kernel), List.mem_of_getElem? (i := 117) (by decide +kernel), Or.inl ⟨TX10, 22, rfl⟩⟩
theorem ck_X10_298 : Cond.constantLong RX10 298 1831504 ∈ lw_tbl := List.mem_of_getElem? (i := 1403) (by decide +kernel)
theorem lk_X10_309 : pz_lk RX10 309 yX10_readOne := Or.inl (List.mem_of_getElem? (i := 1411) (by decide +kernel))
theorem py_X10_readOne : pz_y yX10_readOne cX10_readOne 4 (some .boolean) 2 := ⟨List.mem_of_getElem? (i := 1414) (by decide +kernel), List.mem_of_getElem? (i := 128) (by decide +kernel), ⟨by decide +kernel, by decide +kernel⟩, by decide +kernel⟩
theorem pv_X10_readOne : pz_yv yX10_readOne 9 := ⟨List.mem_of_getElem? (i := 1413) (by decide +kernel), List.mem_of_getElem? (i := 118) (by decide +kernel), Or.inl ⟨TX10, 22, rfl⟩⟩
theorem ck_X10_305 : Cond.constantLong RX10 305 85447 ∈ lw_tbl := List.mem_of_getElem? (i := 1409) (by decide +kernel)
theorem ck_X10_273 : Cond.constantLong RX10 273 50801 ∈ lw_tbl := List.mem_of_getElem? (i := 1363) (by decide +kernel)
theorem ck_X10_278 : Cond.constantLong RX10 278 10209515 ∈ lw_tbl := List.mem_of_getElem? (i := 1380) (by decide +kernel)
theorem ck_X10_283 : Cond.constantLong RX10 283 16906 ∈ lw_tbl := List.mem_of_getElem? (i := 1386) (by decide +kernel)
theorem ck_X10_288 : Cond.constantLong RX10 288 316163 ∈ lw_tbl := List.mem_of_getElem? (i := 1391) (by decide +kernel)
theorem ck_X10_293 : Cond.constantLong RX10 293 6570631 ∈ lw_tbl := List.mem_of_getElem? (i := 1398) (by decide +kernel)
theorem ck_X10_300 : Cond.constantLong RX10 300 247664 ∈ lw_tbl := List.mem_of_getElem? (i := 1404) (by decide +kernel)
theorem ck_X10_307 : Cond.constantLong RX10 307 261338243 ∈ lw_tbl := List.mem_of_getElem? (i := 1410) (by decide +kernel)
theorem lk_X10_312 : pz_lk RX10 312 yX10_termOf := Or.inl (List.mem_of_getElem? (i := 1415) (by decide +kernel))
theorem py_X10_termOf : pz_y yX10_termOf cX10_termOf 2 (some .int) 1 := ⟨List.mem_of_getElem? (i := 1417) (by decide +kernel), List.mem_of_getElem? (i := 128) (by decide +kernel), ⟨by decide +kernel, by decide +kernel⟩, by decide +kernel⟩
theorem ps_X10_termOf : pz_ys yX10_termOf := List.mem_of_getElem? (i := 1416) (by decide +kernel)
theorem lk_X10_295 : pz_lk RX10 295 yX10_readLives := Or.inl (List.mem_of_getElem? (i := 1399) (by decide +kernel))
theorem py_X10_readLives : pz_y yX10_readLives cX10_readLives 7 (some .boolean) 1 := ⟨List.mem_of_getElem? (i := 1402) (by decide +kernel), List.mem_of_getElem? (i := 128) (by decide +kernel), ⟨by decide +kernel, by decide +kernel⟩, by decide +kernel⟩
theorem pv_X10_readLives : pz_yv yX10_readLives 9 := ⟨List.mem_of_getElem? (i := 1401) (by decide +kernel), List.mem_of_getElem? (i := 116) (by decide +kernel), Or.inl ⟨TX10, 22, rfl⟩⟩
theorem lk_X10_290 : pz_lk RX10 290 yX10_readPart := Or.inl (List.mem_of_getElem? (i := 1392) (by decide +kernel))
theorem py_X10_readPart : pz_y yX10_readPart cX10_readPart 5 (some .boolean) 1 := ⟨List.mem_of_getElem? (i := 1395) (by decide +kernel), List.mem_of_getElem? (i := 128) (by decide +kernel), ⟨by decide +kernel, by decide +kernel⟩, by decide +kernel⟩
theorem pv_X10_readPart : pz_yv yX10_readPart 9 := ⟨List.mem_of_getElem? (i := 1394) (by decide +kernel), List.mem_of_getElem? (i := 115) (by decide +kernel), Or.inl ⟨TX10, 22, rfl⟩⟩
theorem lk_X10_285 : pz_lk RX10 285 yX10_readWed := Or.inl (List.mem_of_getElem? (i := 1387) (by decide +kernel))
theorem py_X10_readWed : pz_y yX10_readWed cX10_readWed 5 (some .boolean) 1 := ⟨List.mem_of_getElem? (i := 1390) (by decide +kernel), List.mem_of_getElem? (i := 128) (by decide +kernel), ⟨by decide +kernel, by decide +kernel⟩, by decide +kernel⟩
theorem pv_X10_readWed : pz_yv yX10_readWed 9 := ⟨List.mem_of_getElem? (i := 1389) (by decide +kernel), List.mem_of_getElem? (i := 114) (by decide +kernel), Or.inl ⟨TX10, 22, rfl⟩⟩
theorem lk_X10_280 : pz_lk RX10 280 yX10_readServe := Or.inl (List.mem_of_getElem? (i := 1381) (by decide +kernel))
theorem py_X10_readServe : pz_y yX10_readServe cX10_readServe 6 (some .boolean) 1 := ⟨List.mem_of_getElem? (i := 1384) (by decide +kernel), List.mem_of_getElem? (i := 128) (by decide +kernel), ⟨by decide +kernel, by decide +kernel⟩, by decide +kernel⟩
theorem pv_X10_readServe : pz_yv yX10_readServe 9 := ⟨List.mem_of_getElem? (i := 1383) (by decide +kernel), List.mem_of_getElem? (i := 113) (by decide +kernel), Or.inl ⟨TX10, 22, rfl⟩⟩
theorem lk_X10_275 : pz_lk RX10 275 yX10_readBorn := Or.inl (List.mem_of_getElem? (i := 1364) (by decide +kernel))
theorem py_X10_readBorn : pz_y yX10_readBorn cX10_readBorn 1 (some .boolean) 0 := ⟨List.mem_of_getElem? (i := 1367) (by decide +kernel), List.mem_of_getElem? (i := 128) (by decide +kernel), ⟨by decide +kernel, by decide +kernel⟩, by decide +kernel⟩
theorem pv_X10_readBorn : pz_yv yX10_readBorn 9 := ⟨List.mem_of_getElem? (i := 1366) (by decide +kernel), List.mem_of_getElem? (i := 109) (by decide +kernel), Or.inl ⟨TX10, 22, rfl⟩⟩
theorem fa_X10_316 : pz_fa RX10 316 9 20 := ⟨RX10, TX10, 22, rfl, by decide, pz_wsX10, Or.inl (List.mem_of_getElem? (i := 1026) (by decide +kernel))⟩
theorem fa_X10_16 : pz_fa RX10 16 9 3 := ⟨RX10, TX10, 22, rfl, by decide, pz_wsX10, Or.inl (List.mem_of_getElem? (i := 1009) (by decide +kernel))⟩
theorem fa_X10_225 : pz_fa RX10 225 9 17 := ⟨RX10, TX10, 22, rfl, by decide, pz_wsX10, Or.inl (List.mem_of_getElem? (i := 1023) (by decide +kernel))⟩
theorem fp_X10_322 : pz_fp RX10 322 9 15 (.int) false := ⟨RX10, TX10, 22, tyX10, rfl, by decide, pz_wsX10, Or.inl (List.mem_of_getElem? (i := 1021) (by decide +kernel)), tyX10_ok, nmX10, rfl, by decide +kernel, rfl⟩
theorem lk_X10_319 : pz_lk RX10 319 yX10_readStatement := Or.inl (List.mem_of_getElem? (i := 1349) (by decide +kernel))
theorem py_X10_readStatement : pz_y yX10_readStatement cX10_readStatement 4 (some .boolean) 0 := ⟨List.mem_of_getElem? (i := 1352) (by decide +kernel), List.mem_of_getElem? (i := 128) (by decide +kernel), ⟨by decide +kernel, by decide +kernel⟩, by decide +kernel⟩
theorem pv_X10_readStatement : pz_yv yX10_readStatement 9 := ⟨List.mem_of_getElem? (i := 1351) (by decide +kernel), List.mem_of_getElem? (i := 106) (by decide +kernel), Or.inl ⟨TX10, 22, rfl⟩⟩
theorem fp_X10_316 : pz_fp RX10 316 9 20 (.int) false := ⟨RX10, TX10, 22, tyX10, rfl, by decide, pz_wsX10, Or.inl (List.mem_of_getElem? (i := 1026) (by decide +kernel)), tyX10_ok, nmX10, rfl, by decide +kernel, rfl⟩
theorem fa_X10_322 : pz_fa RX10 322 9 15 := ⟨RX10, TX10, 22, rfl, by decide, pz_wsX10, Or.inl (List.mem_of_getElem? (i := 1021) (by decide +kernel))⟩
