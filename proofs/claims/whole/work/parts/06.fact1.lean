theorem ol_X1_3 : Cond.methodLink RX1 3 Lib.objectInit ∈ lw_tbl := List.mem_of_getElem? (i := 393) (by decide +kernel)
theorem ob_inst : Cond.instanceMethod Lib.objectInit ∈ lw_tbl := List.mem_of_getElem? (i := 147) (by decide +kernel)
theorem ob_code : Cond.code Lib.objectInit ⟨#[0xb1]⟩ 1 none ∈ lw_tbl := List.mem_of_getElem? (i := 148) (by decide +kernel)
theorem ac_0 : Cond.arrayClass .int ∈ lw_tbl := List.mem_of_getElem? (i := 177) (by decide +kernel)
theorem pz_wsX1 : ∀ w ∈ u_ws RX1 TX1 2, w ∈ lw_tbl := by decide +kernel
theorem fp_X1_9 : pz_fp RX1 9 0 0 (.array .int) true := ⟨RX1, TX1, 2, tyX1, rfl, by decide, pz_wsX1, Or.inl (List.mem_of_getElem? (i := 394) (by decide +kernel)), tyX1_ok, nmX1, rfl, by decide +kernel, rfl⟩
theorem fp_X1_15 : pz_fp RX1 15 0 1 (.int) false := ⟨RX1, TX1, 2, tyX1, rfl, by decide, pz_wsX1, Or.inl (List.mem_of_getElem? (i := 396) (by decide +kernel)), tyX1_ok, nmX1, rfl, by decide +kernel, rfl⟩
theorem fa_X1_9 : pz_fa RX1 9 0 0 := ⟨RX1, TX1, 2, rfl, by decide, pz_wsX1, Or.inl (List.mem_of_getElem? (i := 394) (by decide +kernel))⟩
theorem fa_X1_15 : pz_fa RX1 15 0 1 := ⟨RX1, TX1, 2, rfl, by decide, pz_wsX1, Or.inl (List.mem_of_getElem? (i := 396) (by decide +kernel))⟩
theorem pz_wsX3 : ∀ w ∈ u_ws RX3 TX3 10, w ∈ lw_tbl := by decide +kernel
theorem fa_X3_44 : pz_fa RX3 44 2 1 := ⟨RX3, TX3, 10, rfl, by decide, pz_wsX3, Or.inl (List.mem_of_getElem? (i := 269) (by decide +kernel))⟩
theorem pz_wsX7 : ∀ w ∈ u_ws RX7 TX7 9, w ∈ lw_tbl := by decide +kernel
theorem fa_X3_140 : pz_fa RX3 140 6 6 := ⟨RX7, TX7, 9, rfl, by decide, pz_wsX7, Or.inr ⟨"PartedPension", List.mem_of_getElem? (i := 231) (by decide +kernel)⟩⟩
theorem mk_X3_154 : Cond.methodLink RX3 154 Lib.Math.max.name ∈ lw_tbl := List.mem_of_getElem? (i := 714) (by decide +kernel)
theorem ms_max : Cond.static Lib.Math.max.name ∈ lw_tbl := List.mem_of_getElem? (i := 715) (by decide +kernel)
theorem mi_math : Cond.initialized "java/lang/Math" ∈ lw_tbl := List.mem_of_getElem? (i := 140) (by decide +kernel)
theorem mc_max : Cond.code Lib.Math.max.name Lib.Math.max.code 2 (some .int) ∈ lw_tbl := List.mem_of_getElem? (i := 716) (by decide +kernel)
theorem lk_X1_33 : pz_lk RX1 33 yX1_add := Or.inl (List.mem_of_getElem? (i := 832) (by decide +kernel))
theorem py_X1_add : pz_y yX1_add cX1_add 6 none 3 := ⟨List.mem_of_getElem? (i := 835) (by decide +kernel), List.mem_of_getElem? (i := 127) (by decide +kernel), ⟨by decide +kernel, by decide +kernel⟩, by decide +kernel⟩
theorem pv_X1_add : pz_yv yX1_add 0 := ⟨List.mem_of_getElem? (i := 834) (by decide +kernel), List.mem_of_getElem? (i := 56) (by decide +kernel), Or.inl ⟨TX1, 2, rfl⟩⟩
theorem fa_X1_59 : pz_fa RX1 59 6 7 := ⟨RX7, TX7, 9, rfl, by decide, pz_wsX7, Or.inr ⟨"PartedPension", List.mem_of_getElem? (i := 234) (by decide +kernel)⟩⟩
theorem fa_X1_40 : pz_fa RX1 40 2 8 := ⟨RX3, TX3, 10, rfl, by decide, pz_wsX3, Or.inr ⟨"PartedPension", List.mem_of_getElem? (i := 294) (by decide +kernel)⟩⟩
theorem fa_X1_62 : pz_fa RX1 62 2 1 := ⟨RX3, TX3, 10, rfl, by decide, pz_wsX3, Or.inr ⟨"PartedPension", List.mem_of_getElem? (i := 271) (by decide +kernel)⟩⟩
theorem fa_X1_65 : pz_fa RX1 65 2 2 := ⟨RX3, TX3, 10, rfl, by decide, pz_wsX3, Or.inr ⟨"PartedPension", List.mem_of_getElem? (i := 274) (by decide +kernel)⟩⟩
theorem fa_X1_43 : pz_fa RX1 43 2 7 := ⟨RX3, TX3, 10, rfl, by decide, pz_wsX3, Or.inr ⟨"PartedPension", List.mem_of_getElem? (i := 290) (by decide +kernel)⟩⟩
theorem fa_X1_47 : pz_fa RX1 47 6 1 := ⟨RX7, TX7, 9, rfl, by decide, pz_wsX7, Or.inr ⟨"PartedPension", List.mem_of_getElem? (i := 211) (by decide +kernel)⟩⟩
theorem fa_X1_52 : pz_fa RX1 52 6 2 := ⟨RX7, TX7, 9, rfl, by decide, pz_wsX7, Or.inr ⟨"PartedPension", List.mem_of_getElem? (i := 215) (by decide +kernel)⟩⟩
theorem lk_X1_55 : pz_lk RX1 55 yX3_beginOf := Or.inr ⟨"PartedPension", List.mem_of_getElem? (i := 836) (by decide +kernel)⟩
theorem py_X3_beginOf : pz_y yX3_beginOf cX3_beginOf 2 (some .int) 1 := ⟨List.mem_of_getElem? (i := 783) (by decide +kernel), List.mem_of_getElem? (i := 121) (by decide +kernel), ⟨by decide +kernel, by decide +kernel⟩, by decide +kernel⟩
theorem pv_X3_beginOf : pz_yv yX3_beginOf 2 := ⟨List.mem_of_getElem? (i := 782) (by decide +kernel), List.mem_of_getElem? (i := 49) (by decide +kernel), Or.inl ⟨TX3, 10, rfl⟩⟩
theorem fa_X1_19 : pz_fa RX1 19 2 5 := ⟨RX3, TX3, 10, rfl, by decide, pz_wsX3, Or.inr ⟨"PartedPension", List.mem_of_getElem? (i := 283) (by decide +kernel)⟩⟩
theorem fa_X1_24 : pz_fa RX1 24 2 4 := ⟨RX3, TX3, 10, rfl, by decide, pz_wsX3, Or.inr ⟨"PartedPension", List.mem_of_getElem? (i := 281) (by decide +kernel)⟩⟩
theorem pz_wsX6 : ∀ w ∈ u_ws RX6 TX6 3, w ∈ lw_tbl := by decide +kernel
theorem fa_X1_28 : pz_fa RX1 28 5 0 := ⟨RX6, TX6, 3, rfl, by decide, pz_wsX6, Or.inr ⟨"PartedPension", List.mem_of_getElem? (i := 184) (by decide +kernel)⟩⟩
theorem fa_X1_37 : pz_fa RX1 37 5 1 := ⟨RX6, TX6, 3, rfl, by decide, pz_wsX6, Or.inr ⟨"PartedPension", List.mem_of_getElem? (i := 188) (by decide +kernel)⟩⟩
theorem ol_X2_3 : Cond.methodLink RX2 3 Lib.objectInit ∈ lw_tbl := List.mem_of_getElem? (i := 164) (by decide +kernel)
theorem pz_wsX2 : ∀ w ∈ u_ws RX2 TX2 3, w ∈ lw_tbl := by decide +kernel
theorem fp_X2_9 : pz_fp RX2 9 1 0 (.array .int) true := ⟨RX2, TX2, 3, tyX2, rfl, by decide, pz_wsX2, Or.inl (List.mem_of_getElem? (i := 165) (by decide +kernel)), tyX2_ok, nmX2, rfl, by decide +kernel, rfl⟩
theorem fp_X2_15 : pz_fp RX2 15 1 1 (.array .int) true := ⟨RX2, TX2, 3, tyX2, rfl, by decide, pz_wsX2, Or.inl (List.mem_of_getElem? (i := 166) (by decide +kernel)), tyX2_ok, nmX2, rfl, by decide +kernel, rfl⟩
theorem fp_X2_18 : pz_fp RX2 18 1 2 (.int) false := ⟨RX2, TX2, 3, tyX2, rfl, by decide, pz_wsX2, Or.inl (List.mem_of_getElem? (i := 167) (by decide +kernel)), tyX2_ok, nmX2, rfl, by decide +kernel, rfl⟩
theorem fa_X2_18 : pz_fa RX2 18 1 2 := ⟨RX2, TX2, 3, rfl, by decide, pz_wsX2, Or.inl (List.mem_of_getElem? (i := 167) (by decide +kernel))⟩
theorem fa_X2_9 : pz_fa RX2 9 1 0 := ⟨RX2, TX2, 3, rfl, by decide, pz_wsX2, Or.inl (List.mem_of_getElem? (i := 165) (by decide +kernel))⟩
theorem fa_X2_15 : pz_fa RX2 15 1 1 := ⟨RX2, TX2, 3, rfl, by decide, pz_wsX2, Or.inl (List.mem_of_getElem? (i := 166) (by decide +kernel))⟩
theorem lk_X2_23 : pz_lk RX2 23 yX2_makeRoom := Or.inl (List.mem_of_getElem? (i := 632) (by decide +kernel))
theorem py_X2_makeRoom : pz_y yX2_makeRoom cX2_makeRoom 3 none 1 := ⟨List.mem_of_getElem? (i := 635) (by decide +kernel), List.mem_of_getElem? (i := 122) (by decide +kernel), ⟨by decide +kernel, by decide +kernel⟩, by decide +kernel⟩
theorem pv_X2_makeRoom : pz_yv yX2_makeRoom 1 := ⟨List.mem_of_getElem? (i := 634) (by decide +kernel), List.mem_of_getElem? (i := 30) (by decide +kernel), Or.inl ⟨TX2, 3, rfl⟩⟩
theorem ck_X2_22 : Cond.constant RX2 22 100000 ∈ lw_tbl := List.mem_of_getElem? (i := 631) (by decide +kernel)
theorem fp_X3_53 : pz_fp RX3 53 2 5 (.int) false := ⟨RX3, TX3, 10, tyX3, rfl, by decide, pz_wsX3, Or.inl (List.mem_of_getElem? (i := 284) (by decide +kernel)), tyX3_ok, nmX3, rfl, by decide +kernel, rfl⟩
theorem fp_X3_56 : pz_fp RX3 56 2 6 (.int) false := ⟨RX3, TX3, 10, tyX3, rfl, by decide, pz_wsX3, Or.inl (List.mem_of_getElem? (i := 287) (by decide +kernel)), tyX3_ok, nmX3, rfl, by decide +kernel, rfl⟩
theorem fp_X3_59 : pz_fp RX3 59 2 8 (.int) false := ⟨RX3, TX3, 10, tyX3, rfl, by decide, pz_wsX3, Or.inl (List.mem_of_getElem? (i := 293) (by decide +kernel)), tyX3_ok, nmX3, rfl, by decide +kernel, rfl⟩
theorem fa_X3_30 : pz_fa RX3 30 2 9 := ⟨RX3, TX3, 10, rfl, by decide, pz_wsX3, Or.inl (List.mem_of_getElem? (i := 298) (by decide +kernel))⟩
theorem fp_X3_62 : pz_fp RX3 62 1 2 (.int) false := ⟨RX2, TX2, 3, tyX2, rfl, by decide, pz_wsX2, Or.inr ⟨"PartedPension", List.mem_of_getElem? (i := 168) (by decide +kernel)⟩, tyX2_ok, nmX2, rfl, by decide +kernel, rfl⟩
theorem fa_X3_9 : pz_fa RX3 9 2 3 := ⟨RX3, TX3, 10, rfl, by decide, pz_wsX3, Or.inl (List.mem_of_getElem? (i := 277) (by decide +kernel))⟩
theorem sl_X3_50 : Cond.fieldLinkNest RX3 50 "PartedPension" "TERMS_AT_FIRST" "[I" "PartedPension" ∈ lw_tbl := List.mem_of_getElem? (i := 264) (by decide +kernel)
theorem fp_X3_40 : pz_fp RX3 40 2 0 (.int) false := ⟨RX3, TX3, 10, tyX3, rfl, by decide, pz_wsX3, Or.inl (List.mem_of_getElem? (i := 266) (by decide +kernel)), tyX3_ok, nmX3, rfl, by decide +kernel, rfl⟩
theorem fp_X3_44 : pz_fp RX3 44 2 1 (.int) false := ⟨RX3, TX3, 10, tyX3, rfl, by decide, pz_wsX3, Or.inl (List.mem_of_getElem? (i := 269) (by decide +kernel)), tyX3_ok, nmX3, rfl, by decide +kernel, rfl⟩
theorem fp_X3_47 : pz_fp RX3 47 2 2 (.int) false := ⟨RX3, TX3, 10, tyX3, rfl, by decide, pz_wsX3, Or.inl (List.mem_of_getElem? (i := 273) (by decide +kernel)), tyX3_ok, nmX3, rfl, by decide +kernel, rfl⟩
theorem ol_X6_1 : Cond.methodLink RX6 1 Lib.objectInit ∈ lw_tbl := List.mem_of_getElem? (i := 182) (by decide +kernel)
theorem ol_X7_3 : Cond.methodLink RX7 3 Lib.objectInit ∈ lw_tbl := List.mem_of_getElem? (i := 205) (by decide +kernel)
theorem ol_X3_3 : Cond.methodLink RX3 3 Lib.objectInit ∈ lw_tbl := List.mem_of_getElem? (i := 154) (by decide +kernel)
theorem fp_X3_9 : pz_fp RX3 9 2 3 (.array .int) true := ⟨RX3, TX3, 10, tyX3, rfl, by decide, pz_wsX3, Or.inl (List.mem_of_getElem? (i := 277) (by decide +kernel)), tyX3_ok, nmX3, rfl, by decide +kernel, rfl⟩
theorem fp_X3_17 : pz_fp RX3 17 2 4 (.array (.object "PartedPension$Span")) true := ⟨RX3, TX3, 10, tyX3, rfl, by decide, pz_wsX3, Or.inl (List.mem_of_getElem? (i := 280) (by decide +kernel)), tyX3_ok, nmX3, rfl, by decide +kernel, rfl⟩
theorem fp_X3_23 : pz_fp RX3 23 2 7 (.array (.object "PartedPension$Spouse")) true := ⟨RX3, TX3, 10, tyX3, rfl, by decide, pz_wsX3, Or.inl (List.mem_of_getElem? (i := 289) (by decide +kernel)), tyX3_ok, nmX3, rfl, by decide +kernel, rfl⟩
theorem lk_X3_29 : pz_lk RX3 29 yX2_init := Or.inr ⟨"PartedPension", List.mem_of_getElem? (i := 161) (by decide +kernel)⟩
theorem py_X2_init : pz_y yX2_init cX2_init 1 none 0 := ⟨List.mem_of_getElem? (i := 163) (by decide +kernel), List.mem_of_getElem? (i := 122) (by decide +kernel), ⟨by decide +kernel, by decide +kernel⟩, by decide +kernel⟩
theorem pi_X2_init : pz_yi yX2_init := ⟨List.mem_of_getElem? (i := 162) (by decide +kernel), rfl⟩
theorem fp_X3_30 : pz_fp RX3 30 2 9 (.object "PartedPension$LifeTable") true := ⟨RX3, TX3, 10, tyX3, rfl, by decide, pz_wsX3, Or.inl (List.mem_of_getElem? (i := 298) (by decide +kernel)), tyX3_ok, nmX3, rfl, by decide +kernel, rfl⟩
theorem fa_X3_17 : pz_fa RX3 17 2 4 := ⟨RX3, TX3, 10, rfl, by decide, pz_wsX3, Or.inl (List.mem_of_getElem? (i := 280) (by decide +kernel))⟩
theorem lk_X3_34 : pz_lk RX3 34 yX6_init := Or.inr ⟨"PartedPension", List.mem_of_getElem? (i := 179) (by decide +kernel)⟩
theorem py_X6_init : pz_y yX6_init cX6_init 1 none 0 := ⟨List.mem_of_getElem? (i := 181) (by decide +kernel), List.mem_of_getElem? (i := 123) (by decide +kernel), ⟨by decide +kernel, by decide +kernel⟩, by decide +kernel⟩
theorem pi_X6_init : pz_yi yX6_init := ⟨List.mem_of_getElem? (i := 180) (by decide +kernel), rfl⟩
theorem fa_X3_23 : pz_fa RX3 23 2 7 := ⟨RX3, TX3, 10, rfl, by decide, pz_wsX3, Or.inl (List.mem_of_getElem? (i := 289) (by decide +kernel))⟩
theorem lk_X3_35 : pz_lk RX3 35 yX7_init := Or.inr ⟨"PartedPension", List.mem_of_getElem? (i := 202) (by decide +kernel)⟩
theorem py_X7_init : pz_y yX7_init cX7_init 1 none 0 := ⟨List.mem_of_getElem? (i := 204) (by decide +kernel), List.mem_of_getElem? (i := 124) (by decide +kernel), ⟨by decide +kernel, by decide +kernel⟩, by decide +kernel⟩
theorem pi_X7_init : pz_yi yX7_init := ⟨List.mem_of_getElem? (i := 203) (by decide +kernel), rfl⟩
theorem lk_X3_36 : pz_lk RX3 36 yX3_beginAnew := Or.inl (List.mem_of_getElem? (i := 260) (by decide +kernel))
theorem py_X3_beginAnew : pz_y yX3_beginAnew cX3_beginAnew 3 none 1 := ⟨List.mem_of_getElem? (i := 263) (by decide +kernel), List.mem_of_getElem? (i := 121) (by decide +kernel), ⟨by decide +kernel, by decide +kernel⟩, by decide +kernel⟩
theorem pv_X3_beginAnew : pz_yv yX3_beginAnew 2 := ⟨List.mem_of_getElem? (i := 262) (by decide +kernel), List.mem_of_getElem? (i := 0) (by decide +kernel), Or.inl ⟨TX3, 10, rfl⟩⟩
theorem fa_X6_7 : pz_fa RX6 7 5 0 := ⟨RX6, TX6, 3, rfl, by decide, pz_wsX6, Or.inl (List.mem_of_getElem? (i := 183) (by decide +kernel))⟩
theorem fp_X6_7 : pz_fp RX6 7 5 0 (.int) false := ⟨RX6, TX6, 3, tyX6, rfl, by decide, pz_wsX6, Or.inl (List.mem_of_getElem? (i := 183) (by decide +kernel)), tyX6_ok, nmX6, rfl, by decide +kernel, rfl⟩
theorem fa_X6_13 : pz_fa RX6 13 5 1 := ⟨RX6, TX6, 3, rfl, by decide, pz_wsX6, Or.inl (List.mem_of_getElem? (i := 187) (by decide +kernel))⟩
theorem fp_X6_13 : pz_fp RX6 13 5 1 (.int) false := ⟨RX6, TX6, 3, tyX6, rfl, by decide, pz_wsX6, Or.inl (List.mem_of_getElem? (i := 187) (by decide +kernel)), tyX6_ok, nmX6, rfl, by decide +kernel, rfl⟩
theorem fa_X6_16 : pz_fa RX6 16 5 2 := ⟨RX6, TX6, 3, rfl, by decide, pz_wsX6, Or.inl (List.mem_of_getElem? (i := 191) (by decide +kernel))⟩
theorem fp_X6_16 : pz_fp RX6 16 5 2 (.int) false := ⟨RX6, TX6, 3, tyX6, rfl, by decide, pz_wsX6, Or.inl (List.mem_of_getElem? (i := 191) (by decide +kernel)), tyX6_ok, nmX6, rfl, by decide +kernel, rfl⟩
theorem fa_X7_9 : pz_fa RX7 9 6 0 := ⟨RX7, TX7, 9, rfl, by decide, pz_wsX7, Or.inl (List.mem_of_getElem? (i := 206) (by decide +kernel))⟩
theorem fp_X7_9 : pz_fp RX7 9 6 0 (.int) false := ⟨RX7, TX7, 9, tyX7, rfl, by decide, pz_wsX7, Or.inl (List.mem_of_getElem? (i := 206) (by decide +kernel)), tyX7_ok, nmX7, rfl, by decide +kernel, rfl⟩
theorem fa_X7_15 : pz_fa RX7 15 6 1 := ⟨RX7, TX7, 9, rfl, by decide, pz_wsX7, Or.inl (List.mem_of_getElem? (i := 210) (by decide +kernel))⟩
theorem fp_X7_15 : pz_fp RX7 15 6 1 (.int) false := ⟨RX7, TX7, 9, tyX7, rfl, by decide, pz_wsX7, Or.inl (List.mem_of_getElem? (i := 210) (by decide +kernel)), tyX7_ok, nmX7, rfl, by decide +kernel, rfl⟩
theorem fa_X7_18 : pz_fa RX7 18 6 2 := ⟨RX7, TX7, 9, rfl, by decide, pz_wsX7, Or.inl (List.mem_of_getElem? (i := 214) (by decide +kernel))⟩
theorem fp_X7_18 : pz_fp RX7 18 6 2 (.int) false := ⟨RX7, TX7, 9, tyX7, rfl, by decide, pz_wsX7, Or.inl (List.mem_of_getElem? (i := 214) (by decide +kernel)), tyX7_ok, nmX7, rfl, by decide +kernel, rfl⟩
theorem fa_X7_21 : pz_fa RX7 21 6 3 := ⟨RX7, TX7, 9, rfl, by decide, pz_wsX7, Or.inl (List.mem_of_getElem? (i := 218) (by decide +kernel))⟩
theorem fp_X7_21 : pz_fp RX7 21 6 3 (.int) false := ⟨RX7, TX7, 9, tyX7, rfl, by decide, pz_wsX7, Or.inl (List.mem_of_getElem? (i := 218) (by decide +kernel)), tyX7_ok, nmX7, rfl, by decide +kernel, rfl⟩
theorem fa_X7_24 : pz_fa RX7 24 6 4 := ⟨RX7, TX7, 9, rfl, by decide, pz_wsX7, Or.inl (List.mem_of_getElem? (i := 222) (by decide +kernel))⟩
theorem fp_X7_24 : pz_fp RX7 24 6 4 (.int) false := ⟨RX7, TX7, 9, tyX7, rfl, by decide, pz_wsX7, Or.inl (List.mem_of_getElem? (i := 222) (by decide +kernel)), tyX7_ok, nmX7, rfl, by decide +kernel, rfl⟩
theorem fa_X7_27 : pz_fa RX7 27 6 5 := ⟨RX7, TX7, 9, rfl, by decide, pz_wsX7, Or.inl (List.mem_of_getElem? (i := 226) (by decide +kernel))⟩
theorem fp_X7_27 : pz_fp RX7 27 6 5 (.int) false := ⟨RX7, TX7, 9, tyX7, rfl, by decide, pz_wsX7, Or.inl (List.mem_of_getElem? (i := 226) (by decide +kernel)), tyX7_ok, nmX7, rfl, by decide +kernel, rfl⟩
theorem fa_X7_30 : pz_fa RX7 30 6 6 := ⟨RX7, TX7, 9, rfl, by decide, pz_wsX7, Or.inl (List.mem_of_getElem? (i := 230) (by decide +kernel))⟩
theorem fp_X7_30 : pz_fp RX7 30 6 6 (.int) false := ⟨RX7, TX7, 9, tyX7, rfl, by decide, pz_wsX7, Or.inl (List.mem_of_getElem? (i := 230) (by decide +kernel)), tyX7_ok, nmX7, rfl, by decide +kernel, rfl⟩
theorem fa_X7_33 : pz_fa RX7 33 6 7 := ⟨RX7, TX7, 9, rfl, by decide, pz_wsX7, Or.inl (List.mem_of_getElem? (i := 233) (by decide +kernel))⟩
theorem fp_X7_33 : pz_fp RX7 33 6 7 (.int) false := ⟨RX7, TX7, 9, tyX7, rfl, by decide, pz_wsX7, Or.inl (List.mem_of_getElem? (i := 233) (by decide +kernel)), tyX7_ok, nmX7, rfl, by decide +kernel, rfl⟩
theorem fa_X7_36 : pz_fa RX7 36 6 8 := ⟨RX7, TX7, 9, rfl, by decide, pz_wsX7, Or.inl (List.mem_of_getElem? (i := 238) (by decide +kernel))⟩
theorem fp_X7_36 : pz_fp RX7 36 6 8 (.int) false := ⟨RX7, TX7, 9, tyX7, rfl, by decide, pz_wsX7, Or.inl (List.mem_of_getElem? (i := 238) (by decide +kernel)), tyX7_ok, nmX7, rfl, by decide +kernel, rfl⟩
theorem fa_X3_59 : pz_fa RX3 59 2 8 := ⟨RX3, TX3, 10, rfl, by decide, pz_wsX3, Or.inl (List.mem_of_getElem? (i := 293) (by decide +kernel))⟩
theorem lk_X3_72 : pz_lk RX3 72 yX2_copyFrom := Or.inr ⟨"PartedPension", List.mem_of_getElem? (i := 456) (by decide +kernel)⟩
theorem py_X2_copyFrom : pz_y yX2_copyFrom cX2_copyFrom 3 none 1 := ⟨List.mem_of_getElem? (i := 459) (by decide +kernel), List.mem_of_getElem? (i := 122) (by decide +kernel), ⟨by decide +kernel, by decide +kernel⟩, by decide +kernel⟩
theorem pv_X2_copyFrom : pz_yv yX2_copyFrom 1 := ⟨List.mem_of_getElem? (i := 458) (by decide +kernel), List.mem_of_getElem? (i := 5) (by decide +kernel), Or.inl ⟨TX2, 3, rfl⟩⟩
theorem lk_X3_69 : pz_lk RX3 69 yX7_copyFrom := Or.inr ⟨"PartedPension", List.mem_of_getElem? (i := 452) (by decide +kernel)⟩
theorem py_X7_copyFrom : pz_y yX7_copyFrom cX7_copyFrom 2 none 1 := ⟨List.mem_of_getElem? (i := 455) (by decide +kernel), List.mem_of_getElem? (i := 124) (by decide +kernel), ⟨by decide +kernel, by decide +kernel⟩, by decide +kernel⟩
theorem pv_X7_copyFrom : pz_yv yX7_copyFrom 6 := ⟨List.mem_of_getElem? (i := 454) (by decide +kernel), List.mem_of_getElem? (i := 4) (by decide +kernel), Or.inl ⟨TX7, 9, rfl⟩⟩
theorem fa_X3_53 : pz_fa RX3 53 2 5 := ⟨RX3, TX3, 10, rfl, by decide, pz_wsX3, Or.inl (List.mem_of_getElem? (i := 284) (by decide +kernel))⟩
theorem lk_X3_65 : pz_lk RX3 65 yX6_copyFrom := Or.inr ⟨"PartedPension", List.mem_of_getElem? (i := 448) (by decide +kernel)⟩
theorem py_X6_copyFrom : pz_y yX6_copyFrom cX6_copyFrom 2 none 1 := ⟨List.mem_of_getElem? (i := 451) (by decide +kernel), List.mem_of_getElem? (i := 123) (by decide +kernel), ⟨by decide +kernel, by decide +kernel⟩, by decide +kernel⟩
theorem pv_X6_copyFrom : pz_yv yX6_copyFrom 5 := ⟨List.mem_of_getElem? (i := 450) (by decide +kernel), List.mem_of_getElem? (i := 3) (by decide +kernel), Or.inl ⟨TX6, 3, rfl⟩⟩
theorem fa_X3_56 : pz_fa RX3 56 2 6 := ⟨RX3, TX3, 10, rfl, by decide, pz_wsX3, Or.inl (List.mem_of_getElem? (i := 287) (by decide +kernel))⟩
theorem fa_X3_40 : pz_fa RX3 40 2 0 := ⟨RX3, TX3, 10, rfl, by decide, pz_wsX3, Or.inl (List.mem_of_getElem? (i := 266) (by decide +kernel))⟩
theorem fa_X3_47 : pz_fa RX3 47 2 2 := ⟨RX3, TX3, 10, rfl, by decide, pz_wsX3, Or.inl (List.mem_of_getElem? (i := 273) (by decide +kernel))⟩
theorem fa_X3_82 : pz_fa RX3 82 5 1 := ⟨RX6, TX6, 3, rfl, by decide, pz_wsX6, Or.inr ⟨"PartedPension", List.mem_of_getElem? (i := 189) (by decide +kernel)⟩⟩
theorem fa_X3_79 : pz_fa RX3 79 5 0 := ⟨RX6, TX6, 3, rfl, by decide, pz_wsX6, Or.inr ⟨"PartedPension", List.mem_of_getElem? (i := 185) (by decide +kernel)⟩⟩
theorem fp_X3_148 : pz_fp RX3 148 6 8 (.int) false := ⟨RX7, TX7, 9, tyX7, rfl, by decide, pz_wsX7, Or.inr ⟨"PartedPension", List.mem_of_getElem? (i := 240) (by decide +kernel)⟩, tyX7_ok, nmX7, rfl, by decide +kernel, rfl⟩
theorem fa_X3_99 : pz_fa RX3 99 6 2 := ⟨RX7, TX7, 9, rfl, by decide, pz_wsX7, Or.inr ⟨"PartedPension", List.mem_of_getElem? (i := 216) (by decide +kernel)⟩⟩
theorem fa_X3_102 : pz_fa RX3 102 6 1 := ⟨RX7, TX7, 9, rfl, by decide, pz_wsX7, Or.inr ⟨"PartedPension", List.mem_of_getElem? (i := 212) (by decide +kernel)⟩⟩
theorem lk_X3_75 : pz_lk RX3 75 yX3_serviceWithin := Or.inl (List.mem_of_getElem? (i := 603) (by decide +kernel))
theorem py_X3_serviceWithin : pz_y yX3_serviceWithin cX3_serviceWithin 7 (some .int) 2 := ⟨List.mem_of_getElem? (i := 606) (by decide +kernel), List.mem_of_getElem? (i := 121) (by decide +kernel), ⟨by decide +kernel, by decide +kernel⟩, by decide +kernel⟩
theorem pv_X3_serviceWithin : pz_yv yX3_serviceWithin 2 := ⟨List.mem_of_getElem? (i := 605) (by decide +kernel), List.mem_of_getElem? (i := 23) (by decide +kernel), Or.inl ⟨TX3, 10, rfl⟩⟩
theorem fp_X3_79 : pz_fp RX3 79 5 0 (.int) false := ⟨RX6, TX6, 3, tyX6, rfl, by decide, pz_wsX6, Or.inr ⟨"PartedPension", List.mem_of_getElem? (i := 185) (by decide +kernel)⟩, tyX6_ok, nmX6, rfl, by decide +kernel, rfl⟩
theorem fp_X3_82 : pz_fp RX3 82 5 1 (.int) false := ⟨RX6, TX6, 3, tyX6, rfl, by decide, pz_wsX6, Or.inr ⟨"PartedPension", List.mem_of_getElem? (i := 189) (by decide +kernel)⟩, tyX6_ok, nmX6, rfl, by decide +kernel, rfl⟩
theorem fp_X3_85 : pz_fp RX3 85 5 2 (.int) false := ⟨RX6, TX6, 3, tyX6, rfl, by decide, pz_wsX6, Or.inr ⟨"PartedPension", List.mem_of_getElem? (i := 192) (by decide +kernel)⟩, tyX6_ok, nmX6, rfl, by decide +kernel, rfl⟩
theorem lk_X3_88 : pz_lk RX3 88 yX3_recount := Or.inl (List.mem_of_getElem? (i := 607) (by decide +kernel))
theorem py_X3_recount : pz_y yX3_recount cX3_recount 3 none 0 := ⟨List.mem_of_getElem? (i := 610) (by decide +kernel), List.mem_of_getElem? (i := 121) (by decide +kernel), ⟨by decide +kernel, by decide +kernel⟩, by decide +kernel⟩
theorem pv_X3_recount : pz_yv yX3_recount 2 := ⟨List.mem_of_getElem? (i := 609) (by decide +kernel), List.mem_of_getElem? (i := 24) (by decide +kernel), Or.inl ⟨TX3, 10, rfl⟩⟩
theorem lk_X3_95 : pz_lk RX3 95 yX7_begin := Or.inr ⟨"PartedPension", List.mem_of_getElem? (i := 619) (by decide +kernel)⟩
theorem py_X7_begin : pz_y yX7_begin cX7_begin 3 none 2 := ⟨List.mem_of_getElem? (i := 622) (by decide +kernel), List.mem_of_getElem? (i := 124) (by decide +kernel), ⟨by decide +kernel, by decide +kernel⟩, by decide +kernel⟩
theorem pv_X7_begin : pz_yv yX7_begin 6 := ⟨List.mem_of_getElem? (i := 621) (by decide +kernel), List.mem_of_getElem? (i := 27) (by decide +kernel), Or.inl ⟨TX7, 9, rfl⟩⟩
theorem lk_X3_91 : pz_lk RX3 91 yX7_isPartedBy := Or.inr ⟨"PartedPension", List.mem_of_getElem? (i := 615) (by decide +kernel)⟩
theorem py_X7_isPartedBy : pz_y yX7_isPartedBy cX7_isPartedBy 2 (some .boolean) 1 := ⟨List.mem_of_getElem? (i := 618) (by decide +kernel), List.mem_of_getElem? (i := 124) (by decide +kernel), ⟨by decide +kernel, by decide +kernel⟩, by decide +kernel⟩
theorem pv_X7_isPartedBy : pz_yv yX7_isPartedBy 6 := ⟨List.mem_of_getElem? (i := 617) (by decide +kernel), List.mem_of_getElem? (i := 26) (by decide +kernel), Or.inl ⟨TX7, 9, rfl⟩⟩
theorem fp_X3_99 : pz_fp RX3 99 6 2 (.int) false := ⟨RX7, TX7, 9, tyX7, rfl, by decide, pz_wsX7, Or.inr ⟨"PartedPension", List.mem_of_getElem? (i := 216) (by decide +kernel)⟩, tyX7_ok, nmX7, rfl, by decide +kernel, rfl⟩
theorem fp_X3_105 : pz_fp RX3 105 6 3 (.int) false := ⟨RX7, TX7, 9, tyX7, rfl, by decide, pz_wsX7, Or.inr ⟨"PartedPension", List.mem_of_getElem? (i := 219) (by decide +kernel)⟩, tyX7_ok, nmX7, rfl, by decide +kernel, rfl⟩
theorem fp_X3_108 : pz_fp RX3 108 6 4 (.int) false := ⟨RX7, TX7, 9, tyX7, rfl, by decide, pz_wsX7, Or.inr ⟨"PartedPension", List.mem_of_getElem? (i := 224) (by decide +kernel)⟩, tyX7_ok, nmX7, rfl, by decide +kernel, rfl⟩
theorem fp_X3_111 : pz_fp RX3 111 6 5 (.int) false := ⟨RX7, TX7, 9, tyX7, rfl, by decide, pz_wsX7, Or.inr ⟨"PartedPension", List.mem_of_getElem? (i := 227) (by decide +kernel)⟩, tyX7_ok, nmX7, rfl, by decide +kernel, rfl⟩
theorem sl_X9_271 : Cond.fieldLink RX9 271 "PartedPension" "SLOT_MOST" "[I" ∈ lw_tbl := List.mem_of_getElem? (i := 582) (by decide +kernel)
theorem sl_X9_274 : Cond.fieldLink RX9 274 "PartedPension" "SLOT_LEAST" "[I" ∈ lw_tbl := List.mem_of_getElem? (i := 584) (by decide +kernel)
theorem lk_X3_125 : pz_lk RX3 125 yX9_isWithin := Or.inr ⟨"PartedPension", List.mem_of_getElem? (i := 647) (by decide +kernel)⟩
theorem py_X9_isWithin : pz_y yX9_isWithin cX9_isWithin 2 (some .boolean) 2 := ⟨List.mem_of_getElem? (i := 581) (by decide +kernel), List.mem_of_getElem? (i := 120) (by decide +kernel), ⟨by decide +kernel, by decide +kernel⟩, by decide +kernel⟩
theorem ps_X9_isWithin : pz_ys yX9_isWithin := List.mem_of_getElem? (i := 580) (by decide +kernel)
theorem lk_X3_129 : pz_lk RX3 129 yX9_isMonth := Or.inr ⟨"PartedPension", List.mem_of_getElem? (i := 648) (by decide +kernel)⟩
theorem py_X9_isMonth : pz_y yX9_isMonth cX9_isMonth 1 (some .boolean) 1 := ⟨List.mem_of_getElem? (i := 650) (by decide +kernel), List.mem_of_getElem? (i := 120) (by decide +kernel), ⟨by decide +kernel, by decide +kernel⟩, by decide +kernel⟩
theorem ps_X9_isMonth : pz_ys yX9_isMonth := List.mem_of_getElem? (i := 649) (by decide +kernel)
theorem fa_X3_139 : pz_fa RX3 139 6 0 := ⟨RX7, TX7, 9, rfl, by decide, pz_wsX7, Or.inr ⟨"PartedPension", List.mem_of_getElem? (i := 207) (by decide +kernel)⟩⟩
theorem lk_X3_122 : pz_lk RX3 122 yX9_isTerm := Or.inr ⟨"PartedPension", List.mem_of_getElem? (i := 644) (by decide +kernel)⟩
theorem py_X9_isTerm : pz_y yX9_isTerm cX9_isTerm 1 (some .boolean) 1 := ⟨List.mem_of_getElem? (i := 646) (by decide +kernel), List.mem_of_getElem? (i := 120) (by decide +kernel), ⟨by decide +kernel, by decide +kernel⟩, by decide +kernel⟩
theorem ps_X9_isTerm : pz_ys yX9_isTerm := List.mem_of_getElem? (i := 645) (by decide +kernel)
theorem lk_X3_136 : pz_lk RX3 136 yX3_hasSpouse := Or.inl (List.mem_of_getElem? (i := 655) (by decide +kernel))
theorem py_X3_hasSpouse : pz_y yX3_hasSpouse cX3_hasSpouse 2 (some .boolean) 1 := ⟨List.mem_of_getElem? (i := 589) (by decide +kernel), List.mem_of_getElem? (i := 121) (by decide +kernel), ⟨by decide +kernel, by decide +kernel⟩, by decide +kernel⟩
theorem pv_X3_hasSpouse : pz_yv yX3_hasSpouse 2 := ⟨List.mem_of_getElem? (i := 588) (by decide +kernel), List.mem_of_getElem? (i := 19) (by decide +kernel), Or.inl ⟨TX3, 10, rfl⟩⟩
theorem lk_X3_132 : pz_lk RX3 132 yX3_lastTo := Or.inl (List.mem_of_getElem? (i := 651) (by decide +kernel))
theorem py_X3_lastTo : pz_y yX3_lastTo cX3_lastTo 1 (some .int) 0 := ⟨List.mem_of_getElem? (i := 654) (by decide +kernel), List.mem_of_getElem? (i := 121) (by decide +kernel), ⟨by decide +kernel, by decide +kernel⟩, by decide +kernel⟩
theorem pv_X3_lastTo : pz_yv yX3_lastTo 2 := ⟨List.mem_of_getElem? (i := 653) (by decide +kernel), List.mem_of_getElem? (i := 33) (by decide +kernel), Or.inl ⟨TX3, 10, rfl⟩⟩
theorem fp_X3_140 : pz_fp RX3 140 6 6 (.int) false := ⟨RX7, TX7, 9, tyX7, rfl, by decide, pz_wsX7, Or.inr ⟨"PartedPension", List.mem_of_getElem? (i := 231) (by decide +kernel)⟩, tyX7_ok, nmX7, rfl, by decide +kernel, rfl⟩
theorem fp_X3_143 : pz_fp RX3 143 6 7 (.int) false := ⟨RX7, TX7, 9, tyX7, rfl, by decide, pz_wsX7, Or.inr ⟨"PartedPension", List.mem_of_getElem? (i := 236) (by decide +kernel)⟩, tyX7_ok, nmX7, rfl, by decide +kernel, rfl⟩
theorem lk_X3_144 : pz_lk RX3 144 yX3_changeSpouse := Or.inl (List.mem_of_getElem? (i := 660) (by decide +kernel))
theorem py_X3_changeSpouse : pz_y yX3_changeSpouse cX3_changeSpouse 3 none 3 := ⟨List.mem_of_getElem? (i := 662) (by decide +kernel), List.mem_of_getElem? (i := 121) (by decide +kernel), ⟨by decide +kernel, by decide +kernel⟩, by decide +kernel⟩
theorem ps_X3_changeSpouse : pz_ys yX3_changeSpouse := List.mem_of_getElem? (i := 661) (by decide +kernel)
theorem lk_X3_114 : pz_lk RX3 114 yX3_canChange := Or.inl (List.mem_of_getElem? (i := 640) (by decide +kernel))
theorem py_X3_canChange : pz_y yX3_canChange cX3_canChange 6 (some .boolean) 3 := ⟨List.mem_of_getElem? (i := 643) (by decide +kernel), List.mem_of_getElem? (i := 121) (by decide +kernel), ⟨by decide +kernel, by decide +kernel⟩, by decide +kernel⟩
theorem pv_X3_canChange : pz_yv yX3_canChange 2 := ⟨List.mem_of_getElem? (i := 642) (by decide +kernel), List.mem_of_getElem? (i := 32) (by decide +kernel), Or.inl ⟨TX3, 10, rfl⟩⟩
theorem lk_X3_118 : pz_lk RX3 118 yX3_change := Or.inl (List.mem_of_getElem? (i := 656) (by decide +kernel))
theorem py_X3_change : pz_y yX3_change cX3_change 4 none 3 := ⟨List.mem_of_getElem? (i := 659) (by decide +kernel), List.mem_of_getElem? (i := 121) (by decide +kernel), ⟨by decide +kernel, by decide +kernel⟩, by decide +kernel⟩
theorem pv_X3_change : pz_yv yX3_change 2 := ⟨List.mem_of_getElem? (i := 658) (by decide +kernel), List.mem_of_getElem? (i := 34) (by decide +kernel), Or.inl ⟨TX3, 10, rfl⟩⟩
theorem fa_X3_105 : pz_fa RX3 105 6 3 := ⟨RX7, TX7, 9, rfl, by decide, pz_wsX7, Or.inr ⟨"PartedPension", List.mem_of_getElem? (i := 219) (by decide +kernel)⟩⟩
theorem fa_X3_108 : pz_fa RX3 108 6 4 := ⟨RX7, TX7, 9, rfl, by decide, pz_wsX7, Or.inr ⟨"PartedPension", List.mem_of_getElem? (i := 224) (by decide +kernel)⟩⟩
theorem fa_X3_111 : pz_fa RX3 111 6 5 := ⟨RX7, TX7, 9, rfl, by decide, pz_wsX7, Or.inr ⟨"PartedPension", List.mem_of_getElem? (i := 227) (by decide +kernel)⟩⟩
theorem fa_X3_143 : pz_fa RX3 143 6 7 := ⟨RX7, TX7, 9, rfl, by decide, pz_wsX7, Or.inr ⟨"PartedPension", List.mem_of_getElem? (i := 236) (by decide +kernel)⟩⟩
theorem fa_X3_85 : pz_fa RX3 85 5 2 := ⟨RX6, TX6, 3, rfl, by decide, pz_wsX6, Or.inr ⟨"PartedPension", List.mem_of_getElem? (i := 192) (by decide +kernel)⟩⟩
theorem lk_X3_149 : pz_lk RX3 149 yX3_finalPay := Or.inl (List.mem_of_getElem? (i := 708) (by decide +kernel))
theorem py_X3_finalPay : pz_y yX3_finalPay cX3_finalPay 7 (some .int) 0 := ⟨List.mem_of_getElem? (i := 703) (by decide +kernel), List.mem_of_getElem? (i := 121) (by decide +kernel), ⟨by decide +kernel, by decide +kernel⟩, by decide +kernel⟩
theorem pv_X3_finalPay : pz_yv yX3_finalPay 2 := ⟨List.mem_of_getElem? (i := 702) (by decide +kernel), List.mem_of_getElem? (i := 37) (by decide +kernel), Or.inl ⟨TX3, 10, rfl⟩⟩
theorem ck_X3_152 : Cond.constantLong RX3 152 120000 ∈ lw_tbl := List.mem_of_getElem? (i := 709) (by decide +kernel)
theorem lk_X3_159 : pz_lk RX3 159 yX3_basePay := Or.inl (List.mem_of_getElem? (i := 717) (by decide +kernel))
theorem py_X3_basePay : pz_y yX3_basePay cX3_basePay 1 (some .int) 0 := ⟨List.mem_of_getElem? (i := 707) (by decide +kernel), List.mem_of_getElem? (i := 121) (by decide +kernel), ⟨by decide +kernel, by decide +kernel⟩, by decide +kernel⟩
theorem pv_X3_basePay : pz_yv yX3_basePay 2 := ⟨List.mem_of_getElem? (i := 706) (by decide +kernel), List.mem_of_getElem? (i := 38) (by decide +kernel), Or.inl ⟨TX3, 10, rfl⟩⟩
theorem ck_X3_162 : Cond.constantLong RX3 162 1000 ∈ lw_tbl := List.mem_of_getElem? (i := 718) (by decide +kernel)
theorem fa_X3_148 : pz_fa RX3 148 6 8 := ⟨RX7, TX7, 9, rfl, by decide, pz_wsX7, Or.inr ⟨"PartedPension", List.mem_of_getElem? (i := 240) (by decide +kernel)⟩⟩
theorem ol_X4_3 : Cond.methodLink RX4 3 Lib.objectInit ∈ lw_tbl := List.mem_of_getElem? (i := 329) (by decide +kernel)
theorem ac_2 : Cond.arrayClass .byte ∈ lw_tbl := List.mem_of_getElem? (i := 357) (by decide +kernel)
theorem pz_wsX4 : ∀ w ∈ u_ws RX4 TX4 8, w ∈ lw_tbl := by decide +kernel
theorem fp_X4_9 : pz_fp RX4 9 3 0 (.array .byte) true := ⟨RX4, TX4, 8, tyX4, rfl, by decide, pz_wsX4, Or.inl (List.mem_of_getElem? (i := 330) (by decide +kernel)), tyX4_ok, nmX4, rfl, by decide +kernel, rfl⟩
theorem fp_X4_15 : pz_fp RX4 15 3 1 (.int) false := ⟨RX4, TX4, 8, tyX4, rfl, by decide, pz_wsX4, Or.inl (List.mem_of_getElem? (i := 331) (by decide +kernel)), tyX4_ok, nmX4, rfl, by decide +kernel, rfl⟩
theorem fp_X4_19 : pz_fp RX4 19 3 6 (.array .int) true := ⟨RX4, TX4, 8, tyX4, rfl, by decide, pz_wsX4, Or.inl (List.mem_of_getElem? (i := 337) (by decide +kernel)), tyX4_ok, nmX4, rfl, by decide +kernel, rfl⟩
theorem fa_X4_15 : pz_fa RX4 15 3 1 := ⟨RX4, TX4, 8, rfl, by decide, pz_wsX4, Or.inl (List.mem_of_getElem? (i := 331) (by decide +kernel))⟩
theorem fa_X4_9 : pz_fa RX4 9 3 0 := ⟨RX4, TX4, 8, rfl, by decide, pz_wsX4, Or.inl (List.mem_of_getElem? (i := 330) (by decide +kernel))⟩
theorem fp_X4_26 : pz_fp RX4 26 3 7 (.int) false := ⟨RX4, TX4, 8, tyX4, rfl, by decide, pz_wsX4, Or.inl (List.mem_of_getElem? (i := 338) (by decide +kernel)), tyX4_ok, nmX4, rfl, by decide +kernel, rfl⟩
theorem fa_X4_23 : pz_fa RX4 23 3 2 := ⟨RX4, TX4, 8, rfl, by decide, pz_wsX4, Or.inl (List.mem_of_getElem? (i := 333) (by decide +kernel))⟩
theorem fp_X4_23 : pz_fp RX4 23 3 2 (.int) false := ⟨RX4, TX4, 8, tyX4, rfl, by decide, pz_wsX4, Or.inl (List.mem_of_getElem? (i := 333) (by decide +kernel)), tyX4_ok, nmX4, rfl, by decide +kernel, rfl⟩
theorem fp_X4_32 : pz_fp RX4 32 3 3 (.int) false := ⟨RX4, TX4, 8, tyX4, rfl, by decide, pz_wsX4, Or.inl (List.mem_of_getElem? (i := 334) (by decide +kernel)), tyX4_ok, nmX4, rfl, by decide +kernel, rfl⟩
theorem fa_X4_39 : pz_fa RX4 39 3 4 := ⟨RX4, TX4, 8, rfl, by decide, pz_wsX4, Or.inl (List.mem_of_getElem? (i := 335) (by decide +kernel))⟩
theorem lk_X4_109 : pz_lk RX4 109 yX4_byteAt := Or.inl (List.mem_of_getElem? (i := 468) (by decide +kernel))
theorem py_X4_byteAt : pz_y yX4_byteAt cX4_byteAt 2 (some .int) 1 := ⟨List.mem_of_getElem? (i := 471) (by decide +kernel), List.mem_of_getElem? (i := 125) (by decide +kernel), ⟨by decide +kernel, by decide +kernel⟩, by decide +kernel⟩
theorem pv_X4_byteAt : pz_yv yX4_byteAt 3 := ⟨List.mem_of_getElem? (i := 470) (by decide +kernel), List.mem_of_getElem? (i := 8) (by decide +kernel), Or.inl ⟨TX4, 8, rfl⟩⟩
theorem lk_X4_122 : pz_lk RX4 122 yX4_isDigit := Or.inl (List.mem_of_getElem? (i := 479) (by decide +kernel))
theorem py_X4_isDigit : pz_y yX4_isDigit cX4_isDigit 1 (some .boolean) 1 := ⟨List.mem_of_getElem? (i := 481) (by decide +kernel), List.mem_of_getElem? (i := 125) (by decide +kernel), ⟨by decide +kernel, by decide +kernel⟩, by decide +kernel⟩
theorem ps_X4_isDigit : pz_ys yX4_isDigit := List.mem_of_getElem? (i := 480) (by decide +kernel)
theorem fa_X4_75 : pz_fa RX4 75 3 5 := ⟨RX4, TX4, 8, rfl, by decide, pz_wsX4, Or.inl (List.mem_of_getElem? (i := 336) (by decide +kernel))⟩
theorem fp_X4_75 : pz_fp RX4 75 3 5 (.int) false := ⟨RX4, TX4, 8, tyX4, rfl, by decide, pz_wsX4, Or.inl (List.mem_of_getElem? (i := 336) (by decide +kernel)), tyX4_ok, nmX4, rfl, by decide +kernel, rfl⟩
theorem lk_X4_116 : pz_lk RX4 116 yX4_isLetter := Or.inl (List.mem_of_getElem? (i := 472) (by decide +kernel))
theorem py_X4_isLetter : pz_y yX4_isLetter cX4_isLetter 1 (some .boolean) 1 := ⟨List.mem_of_getElem? (i := 474) (by decide +kernel), List.mem_of_getElem? (i := 125) (by decide +kernel), ⟨by decide +kernel, by decide +kernel⟩, by decide +kernel⟩
theorem ps_X4_isLetter : pz_ys yX4_isLetter := List.mem_of_getElem? (i := 473) (by decide +kernel)
theorem fp_X4_39 : pz_fp RX4 39 3 4 (.int) false := ⟨RX4, TX4, 8, tyX4, rfl, by decide, pz_wsX4, Or.inl (List.mem_of_getElem? (i := 335) (by decide +kernel)), tyX4_ok, nmX4, rfl, by decide +kernel, rfl⟩
theorem lk_X4_125 : pz_lk RX4 125 yX4_readNumber := Or.inl (List.mem_of_getElem? (i := 482) (by decide +kernel))
theorem py_X4_readNumber : pz_y yX4_readNumber cX4_readNumber 1 none 0 := ⟨List.mem_of_getElem? (i := 485) (by decide +kernel), List.mem_of_getElem? (i := 125) (by decide +kernel), ⟨by decide +kernel, by decide +kernel⟩, by decide +kernel⟩
theorem pv_X4_readNumber : pz_yv yX4_readNumber 3 := ⟨List.mem_of_getElem? (i := 484) (by decide +kernel), List.mem_of_getElem? (i := 10) (by decide +kernel), Or.inl ⟨TX4, 8, rfl⟩⟩
theorem lk_X4_119 : pz_lk RX4 119 yX4_readWord := Or.inl (List.mem_of_getElem? (i := 475) (by decide +kernel))
theorem py_X4_readWord : pz_y yX4_readWord cX4_readWord 1 none 0 := ⟨List.mem_of_getElem? (i := 478) (by decide +kernel), List.mem_of_getElem? (i := 125) (by decide +kernel), ⟨by decide +kernel, by decide +kernel⟩, by decide +kernel⟩
theorem pv_X4_readWord : pz_yv yX4_readWord 3 := ⟨List.mem_of_getElem? (i := 477) (by decide +kernel), List.mem_of_getElem? (i := 9) (by decide +kernel), Or.inl ⟨TX4, 8, rfl⟩⟩
theorem fa_X4_26 : pz_fa RX4 26 3 7 := ⟨RX4, TX4, 8, rfl, by decide, pz_wsX4, Or.inl (List.mem_of_getElem? (i := 338) (by decide +kernel))⟩
theorem lk_X4_29 : pz_lk RX4 29 yX4_readToken := Or.inl (List.mem_of_getElem? (i := 464) (by decide +kernel))
theorem py_X4_readToken : pz_y yX4_readToken cX4_readToken 1 none 0 := ⟨List.mem_of_getElem? (i := 467) (by decide +kernel), List.mem_of_getElem? (i := 125) (by decide +kernel), ⟨by decide +kernel, by decide +kernel⟩, by decide +kernel⟩
theorem pv_X4_readToken : pz_yv yX4_readToken 3 := ⟨List.mem_of_getElem? (i := 466) (by decide +kernel), List.mem_of_getElem? (i := 7) (by decide +kernel), Or.inl ⟨TX4, 8, rfl⟩⟩
theorem fa_X4_32 : pz_fa RX4 32 3 3 := ⟨RX4, TX4, 8, rfl, by decide, pz_wsX4, Or.inl (List.mem_of_getElem? (i := 334) (by decide +kernel))⟩
theorem lk_X4_46 : pz_lk RX4 46 yX4_blame := Or.inl (List.mem_of_getElem? (i := 548) (by decide +kernel))
theorem py_X4_blame : pz_y yX4_blame cX4_blame 3 none 2 := ⟨List.mem_of_getElem? (i := 551) (by decide +kernel), List.mem_of_getElem? (i := 125) (by decide +kernel), ⟨by decide +kernel, by decide +kernel⟩, by decide +kernel⟩
theorem pv_X4_blame : pz_yv yX4_blame 3 := ⟨List.mem_of_getElem? (i := 550) (by decide +kernel), List.mem_of_getElem? (i := 14) (by decide +kernel), Or.inl ⟨TX4, 8, rfl⟩⟩
theorem sl_J0_38 : Cond.fieldLink RJ0 38 "java/lang/String" "COMPACT_STRINGS" "Z" ∈ lw_tbl := List.mem_of_getElem? (i := 508) (by decide +kernel)
theorem sl_J0_15 : Cond.fieldLink RJ0 15 "java/lang/String" "coder" "B" ∈ lw_tbl := List.mem_of_getElem? (i := 1443) (by decide +kernel)
theorem sl_J0_1053 : Cond.fieldLink RJ0 1053 "jdk/internal/util/Preconditions" "SIOOBE_FORMATTER" "Ljava/util/function/BiFunction;" ∈ lw_tbl := List.mem_of_getElem? (i := 524) (by decide +kernel)
theorem lk_J0_1059 : pz_lk RJ0 1059 yJ3_checkIndex_8e157 := Or.inl (List.mem_of_getElem? (i := 526) (by decide +kernel))
theorem py_J3_checkIndex_8e157 : pz_y yJ3_checkIndex_8e157 cJ3_checkIndex_8e157 3 (some .int) 3 := ⟨List.mem_of_getElem? (i := 528) (by decide +kernel), List.mem_of_getElem? (i := 133) (by decide +kernel), ⟨by decide +kernel, by decide +kernel⟩, by decide +kernel⟩
theorem ps_J3_checkIndex_8e157 : pz_ys yJ3_checkIndex_8e157 := List.mem_of_getElem? (i := 527) (by decide +kernel)
theorem lk_J1_9 : pz_lk RJ1 9 yJ0_checkIndex_df160 := Or.inl (List.mem_of_getElem? (i := 521) (by decide +kernel))
theorem py_J0_checkIndex_df160 : pz_y yJ0_checkIndex_df160 cJ0_checkIndex_df160 2 none 2 := ⟨List.mem_of_getElem? (i := 523) (by decide +kernel), List.mem_of_getElem? (i := 131) (by decide +kernel), ⟨by decide +kernel, by decide +kernel⟩, by decide +kernel⟩
theorem ps_J0_checkIndex_df160 : pz_ys yJ0_checkIndex_df160 := List.mem_of_getElem? (i := 522) (by decide +kernel)
theorem lk_J0_492 : pz_lk RJ0 492 yJ0_isLatin1_aae02 := Or.inl (List.mem_of_getElem? (i := 514) (by decide +kernel))
theorem py_J0_isLatin1_aae02 : pz_y yJ0_isLatin1_aae02 cJ0_isLatin1_aae02 1 (some .boolean) 0 := ⟨List.mem_of_getElem? (i := 517) (by decide +kernel), List.mem_of_getElem? (i := 131) (by decide +kernel), ⟨by decide +kernel, by decide +kernel⟩, by decide +kernel⟩
theorem pv_J0_isLatin1_aae02 : pz_yv yJ0_isLatin1_aae02 101 := ⟨List.mem_of_getElem? (i := 515) (by decide +kernel), List.mem_of_getElem? (i := 516) (by decide +kernel), Or.inr ⟨by decide, by decide +kernel⟩⟩
theorem sl_J0_9 : Cond.fieldLink RJ0 9 "java/lang/String" "value" "[B" ∈ lw_tbl := List.mem_of_getElem? (i := 1442) (by decide +kernel)
theorem lk_J0_495 : pz_lk RJ0 495 yJ1_charAt_3b067 := Or.inl (List.mem_of_getElem? (i := 518) (by decide +kernel))
theorem py_J1_charAt_3b067 : pz_y yJ1_charAt_3b067 cJ1_charAt_3b067 2 (some .char) 2 := ⟨List.mem_of_getElem? (i := 520) (by decide +kernel), List.mem_of_getElem? (i := 132) (by decide +kernel), ⟨by decide +kernel, by decide +kernel⟩, by decide +kernel⟩
theorem ps_J1_charAt_3b067 : pz_ys yJ1_charAt_3b067 := List.mem_of_getElem? (i := 519) (by decide +kernel)
theorem lk_J0_335 : pz_lk RJ0 335 yJ0_coder_7d493 := Or.inl (List.mem_of_getElem? (i := 504) (by decide +kernel))
theorem py_J0_coder_7d493 : pz_y yJ0_coder_7d493 cJ0_coder_7d493 1 (some .byte) 0 := ⟨List.mem_of_getElem? (i := 507) (by decide +kernel), List.mem_of_getElem? (i := 131) (by decide +kernel), ⟨by decide +kernel, by decide +kernel⟩, by decide +kernel⟩
theorem pv_J0_coder_7d493 : pz_yv yJ0_coder_7d493 101 := ⟨List.mem_of_getElem? (i := 505) (by decide +kernel), List.mem_of_getElem? (i := 506) (by decide +kernel), Or.inr ⟨by decide, by decide +kernel⟩⟩
theorem lk_X4_104 : pz_lk RX4 104 yJ0_length_8abf5 := Or.inl (List.mem_of_getElem? (i := 500) (by decide +kernel))
theorem py_J0_length_8abf5 : pz_y yJ0_length_8abf5 cJ0_length_8abf5 1 (some .int) 0 := ⟨List.mem_of_getElem? (i := 503) (by decide +kernel), List.mem_of_getElem? (i := 131) (by decide +kernel), ⟨by decide +kernel, by decide +kernel⟩, by decide +kernel⟩
theorem pv_J0_length_8abf5 : pz_yv yJ0_length_8abf5 101 := ⟨List.mem_of_getElem? (i := 501) (by decide +kernel), List.mem_of_getElem? (i := 502) (by decide +kernel), Or.inr ⟨by decide, by decide +kernel⟩⟩
theorem lk_X4_112 : pz_lk RX4 112 yJ0_charAt_5068e := Or.inl (List.mem_of_getElem? (i := 510) (by decide +kernel))
theorem py_J0_charAt_5068e : pz_y yJ0_charAt_5068e cJ0_charAt_5068e 2 (some .char) 1 := ⟨List.mem_of_getElem? (i := 513) (by decide +kernel), List.mem_of_getElem? (i := 131) (by decide +kernel), ⟨by decide +kernel, by decide +kernel⟩, by decide +kernel⟩
theorem pv_J0_charAt_5068e : pz_yv yJ0_charAt_5068e 101 := ⟨List.mem_of_getElem? (i := 511) (by decide +kernel), List.mem_of_getElem? (i := 512) (by decide +kernel), Or.inr ⟨by decide, by decide +kernel⟩⟩
theorem lk_X4_90 : pz_lk RX4 90 yX4_isWord := Or.inl (List.mem_of_getElem? (i := 496) (by decide +kernel))
theorem py_X4_isWord : pz_y yX4_isWord cX4_isWord 3 (some .boolean) 1 := ⟨List.mem_of_getElem? (i := 499) (by decide +kernel), List.mem_of_getElem? (i := 125) (by decide +kernel), ⟨by decide +kernel, by decide +kernel⟩, by decide +kernel⟩
theorem pv_X4_isWord : pz_yv yX4_isWord 3 := ⟨List.mem_of_getElem? (i := 498) (by decide +kernel), List.mem_of_getElem? (i := 13) (by decide +kernel), Or.inl ⟨TX4, 8, rfl⟩⟩
theorem fa_X4_19 : pz_fa RX4 19 3 6 := ⟨RX4, TX4, 8, rfl, by decide, pz_wsX4, Or.inl (List.mem_of_getElem? (i := 337) (by decide +kernel))⟩
theorem lk_X4_78 : pz_lk RX4 78 yX9_isWithin := Or.inr ⟨"PartedPension", List.mem_of_getElem? (i := 579) (by decide +kernel)⟩
theorem lk_X4_82 : pz_lk RX4 82 yX3_hasSpouse := Or.inr ⟨"PartedPension", List.mem_of_getElem? (i := 586) (by decide +kernel)⟩
theorem lk_X4_71 : pz_lk RX4 71 yX4_readHow := Or.inl (List.mem_of_getElem? (i := 573) (by decide +kernel))
theorem py_X4_readHow : pz_y yX4_readHow cX4_readHow 2 none 1 := ⟨List.mem_of_getElem? (i := 576) (by decide +kernel), List.mem_of_getElem? (i := 125) (by decide +kernel), ⟨by decide +kernel, by decide +kernel⟩, by decide +kernel⟩
theorem pv_X4_readHow : pz_yv yX4_readHow 3 := ⟨List.mem_of_getElem? (i := 575) (by decide +kernel), List.mem_of_getElem? (i := 18) (by decide +kernel), Or.inl ⟨TX4, 8, rfl⟩⟩
