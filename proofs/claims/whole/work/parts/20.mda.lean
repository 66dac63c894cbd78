theorem fl_RX12_98_11 : gs_FL RX12 98 "GrainShiftModel" 11 0 (RX12, TX12, 52) := ⟨rfl, by decide, gs_t 1124 (by decide +kernel) (by decide +kernel), Or.inl rfl⟩
theorem mf_X12_thrown : gs_MF yX12_thrown cX12_thrown 1 (some .int) 0 := ⟨gs_t 1285 (by decide +kernel) (by decide +kernel), gs_t 13 (by decide +kernel) (by decide +kernel), by decide, by decide, by decide +kernel, by decide, by decide⟩
theorem mf_X12_isIn : gs_MF yX12_isIn cX12_isIn 3 (some .boolean) 3 := ⟨gs_t 1307 (by decide +kernel) (by decide +kernel), gs_t 13 (by decide +kernel) (by decide +kernel), by decide, by decide, by decide +kernel, by decide, by decide⟩
theorem mf_X12_has : gs_MF yX12_has cX12_has 2 (some .boolean) 2 := ⟨gs_t 1452 (by decide +kernel) (by decide +kernel), gs_t 13 (by decide +kernel) (by decide +kernel), by decide, by decide, by decide +kernel, by decide, by decide⟩
theorem sl_RX12_101 : Cond.methodLink RX12 101 ⟨"java/lang/String", "length", "()I"⟩ ∈ gs_tbl := gs_t 1327 (by decide +kernel) (by decide +kernel)
theorem sc_RX12_105 : Cond.methodLink RX12 105 ⟨"java/lang/String", "charAt", "(I)C"⟩ ∈ gs_tbl := gs_t 1337 (by decide +kernel) (by decide +kernel)
theorem mf_X12_isAmong : gs_MF yX12_isAmong cX12_isAmong 3 (some .boolean) 2 := ⟨gs_t 1326 (by decide +kernel) (by decide +kernel), gs_t 13 (by decide +kernel) (by decide +kernel), by decide, by decide, by decide +kernel, by decide, by decide⟩
theorem mf_X12_bytesIn : gs_MF yX12_bytesIn cX12_bytesIn 3 (some .int) 1 := ⟨gs_t 1292 (by decide +kernel) (by decide +kernel), gs_t 13 (by decide +kernel) (by decide +kernel), by decide, by decide, by decide +kernel, by decide, by decide⟩
theorem fl_RX12_9_11 : gs_FL RX12 9 "GrainShiftModel" 11 1 (RX12, TX12, 52) := ⟨rfl, by decide, gs_t 1125 (by decide +kernel) (by decide +kernel), Or.inl rfl⟩
theorem fl_RX12_109_11 : gs_FL RX12 109 "GrainShiftModel" 11 6 (RX12, TX12, 52) := ⟨rfl, by decide, gs_t 1130 (by decide +kernel) (by decide +kernel), Or.inl rfl⟩
theorem mf_X12_put : gs_MF yX12_put cX12_put 3 none 1 := ⟨gs_t 1296 (by decide +kernel) (by decide +kernel), gs_t 13 (by decide +kernel) (by decide +kernel), by decide, by decide, by decide +kernel, by decide, by decide⟩
theorem ml_RX12_111 : Cond.methodLink RX12 111 yX12_bytesIn ∈ gs_tbl := gs_t 1290 (by decide +kernel) (by decide +kernel)
theorem ss_X12_bytesIn : Cond.static yX12_bytesIn ∈ gs_tbl := gs_t 1291 (by decide +kernel) (by decide +kernel)
theorem se_11_RX12_X12_put : Cond.selects RX12 yX12_put yX12_put ∈ gs_tbl := gs_s 40 (by decide +kernel) (by decide +kernel)
theorem ml_RX12_115 : Cond.methodLink RX12 115 yX12_put ∈ gs_tbl := gs_t 1293 (by decide +kernel) (by decide +kernel)
theorem im_X12_put : Cond.instanceMethod yX12_put ∈ gs_tbl := gs_t 1295 (by decide +kernel) (by decide +kernel)
theorem mf_X12_feed : gs_MF yX12_feed cX12_feed 6 (some .int) 5 := ⟨gs_t 1289 (by decide +kernel) (by decide +kernel), gs_t 13 (by decide +kernel) (by decide +kernel), by decide, by decide, by decide +kernel, by decide, by decide⟩
theorem mf_X12_end : gs_MF yX12_end cX12_end 2 (some .boolean) 1 := ⟨gs_t 1300 (by decide +kernel) (by decide +kernel), gs_t 13 (by decide +kernel) (by decide +kernel), by decide, by decide, by decide +kernel, by decide, by decide⟩
theorem fl_RX12_119_11 : gs_FL RX12 119 "GrainShiftModel" 11 10 (RX12, TX12, 52) := ⟨rfl, by decide, gs_t 1134 (by decide +kernel) (by decide +kernel), Or.inl rfl⟩
theorem fl_RX12_122_11 : gs_FL RX12 122 "GrainShiftModel" 11 9 (RX12, TX12, 52) := ⟨rfl, by decide, gs_t 1133 (by decide +kernel) (by decide +kernel), Or.inl rfl⟩
theorem fl_RX12_23_11 : gs_FL RX12 23 "GrainShiftModel" 11 5 (RX12, TX12, 52) := ⟨rfl, by decide, gs_t 1129 (by decide +kernel) (by decide +kernel), Or.inl rfl⟩
theorem fl_RX12_125_11 : gs_FL RX12 125 "GrainShiftModel" 11 8 (RX12, TX12, 52) := ⟨rfl, by decide, gs_t 1132 (by decide +kernel) (by decide +kernel), Or.inl rfl⟩
theorem mf_X12_look : gs_MF yX12_look cX12_look 1 (some .int) 0 := ⟨gs_t 1323 (by decide +kernel) (by decide +kernel), gs_t 13 (by decide +kernel) (by decide +kernel), by decide, by decide, by decide +kernel, by decide, by decide⟩
theorem fl_RX12_128_11 : gs_FL RX12 128 "GrainShiftModel" 11 11 (RX12, TX12, 52) := ⟨rfl, by decide, gs_t 1135 (by decide +kernel) (by decide +kernel), Or.inl rfl⟩
theorem mf_X12_fails : gs_MF yX12_fails cX12_fails 1 (some .boolean) 0 := ⟨gs_t 1378 (by decide +kernel) (by decide +kernel), gs_t 13 (by decide +kernel) (by decide +kernel), by decide, by decide, by decide +kernel, by decide, by decide⟩
theorem fl_RX12_131_11 : gs_FL RX12 131 "GrainShiftModel" 11 12 (RX12, TX12, 52) := ⟨rfl, by decide, gs_t 1136 (by decide +kernel) (by decide +kernel), Or.inl rfl⟩
theorem se_11_RX12_X12_fails : Cond.selects RX12 yX12_fails yX12_fails ∈ gs_tbl := gs_s 45 (by decide +kernel) (by decide +kernel)
theorem ml_RX12_134 : Cond.methodLink RX12 134 yX12_fails ∈ gs_tbl := gs_t 1375 (by decide +kernel) (by decide +kernel)
theorem im_X12_fails : Cond.instanceMethod yX12_fails ∈ gs_tbl := gs_t 1377 (by decide +kernel) (by decide +kernel)
theorem mf_X12_goesIn : gs_MF yX12_goesIn cX12_goesIn 1 (some .boolean) 0 := ⟨gs_t 1410 (by decide +kernel) (by decide +kernel), gs_t 13 (by decide +kernel) (by decide +kernel), by decide, by decide, by decide +kernel, by decide, by decide⟩
theorem se_11_RX12_X12_look : Cond.selects RX12 yX12_look yX12_look ∈ gs_tbl := gs_s 44 (by decide +kernel) (by decide +kernel)
theorem ml_RX12_138 : Cond.methodLink RX12 138 yX12_look ∈ gs_tbl := gs_t 1320 (by decide +kernel) (by decide +kernel)
theorem im_X12_look : Cond.instanceMethod yX12_look ∈ gs_tbl := gs_t 1322 (by decide +kernel) (by decide +kernel)
theorem mf_X12_takes : gs_MF yX12_takes cX12_takes 2 (some .boolean) 1 := ⟨gs_t 1382 (by decide +kernel) (by decide +kernel), gs_t 13 (by decide +kernel) (by decide +kernel), by decide, by decide, by decide +kernel, by decide, by decide⟩
theorem mf_X12_isDigit : gs_MF yX12_isDigit cX12_isDigit 1 (some .boolean) 0 := ⟨gs_t 1414 (by decide +kernel) (by decide +kernel), gs_t 13 (by decide +kernel) (by decide +kernel), by decide, by decide, by decide +kernel, by decide, by decide⟩
theorem kl_RX12_141 : Cond.constantLong RX12 141 (-1000000) ∈ gs_tbl := gs_t 1418 (by decide +kernel) (by decide +kernel)
theorem kl_RX12_143 : Cond.constantLong RX12 143 (1000000) ∈ gs_tbl := gs_t 1419 (by decide +kernel) (by decide +kernel)
theorem mm_RX12_145 : Cond.methodLink RX12 145 Lib.MathLoose.min_long.x ∈ gs_tbl := gs_t 1420 (by decide +kernel) (by decide +kernel)
theorem ms_lmin : Cond.static Lib.MathLoose.min_long.x ∈ gs_tbl := gs_t 1421 (by decide +kernel) (by decide +kernel)
theorem mc_lmin : Cond.code Lib.MathLoose.min_long.x Lib.MathLoose.min_long.code 4 (some .long) ∈ gs_tbl := gs_t 1422 (by decide +kernel) (by decide +kernel)
theorem mm_RX12_151 : Cond.methodLink RX12 151 Lib.MathLoose.max_long.x ∈ gs_tbl := gs_t 1423 (by decide +kernel) (by decide +kernel)
theorem ms_lmax : Cond.static Lib.MathLoose.max_long.x ∈ gs_tbl := gs_t 1424 (by decide +kernel) (by decide +kernel)
theorem mc_lmax : Cond.code Lib.MathLoose.max_long.x Lib.MathLoose.max_long.code 4 (some .long) ∈ gs_tbl := gs_t 1425 (by decide +kernel) (by decide +kernel)
theorem mf_X12_within : gs_MF yX12_within cX12_within 2 (some .int) 1 := ⟨gs_t 1417 (by decide +kernel) (by decide +kernel), gs_t 13 (by decide +kernel) (by decide +kernel), by decide, by decide, by decide +kernel, by decide, by decide⟩
theorem mf_X12_isSign : gs_MF yX12_isSign cX12_isSign 1 (some .boolean) 1 := ⟨gs_t 1428 (by decide +kernel) (by decide +kernel), gs_t 13 (by decide +kernel) (by decide +kernel), by decide, by decide, by decide +kernel, by decide, by decide⟩
theorem mf_X12_opens : gs_MF yX12_opens cX12_opens 4 none 3 := ⟨gs_t 1315 (by decide +kernel) (by decide +kernel), gs_t 13 (by decide +kernel) (by decide +kernel), by decide, by decide, by decide +kernel, by decide, by decide⟩
theorem mf_X12_here : gs_MF yX12_here cX12_here 1 (some .int) 0 := ⟨gs_t 1466 (by decide +kernel) (by decide +kernel), gs_t 13 (by decide +kernel) (by decide +kernel), by decide, by decide, by decide +kernel, by decide, by decide⟩
theorem se_11_RX12_X12_isDigit : Cond.selects RX12 yX12_isDigit yX12_isDigit ∈ gs_tbl := gs_s 54 (by decide +kernel) (by decide +kernel)
theorem ml_RX12_168 : Cond.methodLink RX12 168 yX12_isDigit ∈ gs_tbl := gs_t 1411 (by decide +kernel) (by decide +kernel)
theorem im_X12_isDigit : Cond.instanceMethod yX12_isDigit ∈ gs_tbl := gs_t 1413 (by decide +kernel) (by decide +kernel)
theorem se_11_RX12_X12_here : Cond.selects RX12 yX12_here yX12_here ∈ gs_tbl := gs_s 59 (by decide +kernel) (by decide +kernel)
theorem ml_RX12_214 : Cond.methodLink RX12 214 yX12_here ∈ gs_tbl := gs_t 1463 (by decide +kernel) (by decide +kernel)
theorem im_X12_here : Cond.instanceMethod yX12_here ∈ gs_tbl := gs_t 1465 (by decide +kernel) (by decide +kernel)
theorem ml_RX12_217 : Cond.methodLink RX12 217 yX12_isIn ∈ gs_tbl := gs_t 1305 (by decide +kernel) (by decide +kernel)
theorem ss_X12_isIn : Cond.static yX12_isIn ∈ gs_tbl := gs_t 1306 (by decide +kernel) (by decide +kernel)
theorem mf_X12_number : gs_MF yX12_number cX12_number 6 (some .int) 2 := ⟨gs_t 1462 (by decide +kernel) (by decide +kernel), gs_t 13 (by decide +kernel) (by decide +kernel), by decide, by decide, by decide +kernel, by decide, by decide⟩
theorem mf_X12_placeOf : gs_MF yX12_placeOf cX12_placeOf 3 (some .int) 2 := ⟨gs_t 1449 (by decide +kernel) (by decide +kernel), gs_t 13 (by decide +kernel) (by decide +kernel), by decide, by decide, by decide +kernel, by decide, by decide⟩
theorem mf_X12_leastOf : gs_MF yX12_leastOf cX12_leastOf 1 (some .int) 1 := ⟨gs_t 1455 (by decide +kernel) (by decide +kernel), gs_t 13 (by decide +kernel) (by decide +kernel), by decide, by decide, by decide +kernel, by decide, by decide⟩
theorem mf_X12_mostOf : gs_MF yX12_mostOf cX12_mostOf 1 (some .int) 1 := ⟨gs_t 1458 (by decide +kernel) (by decide +kernel), gs_t 13 (by decide +kernel) (by decide +kernel), by decide, by decide, by decide +kernel, by decide, by decide⟩
theorem mf_X12_usual : gs_MF yX12_usual cX12_usual 1 (some .int) 1 := ⟨gs_t 1446 (by decide +kernel) (by decide +kernel), gs_t 13 (by decide +kernel) (by decide +kernel), by decide, by decide, by decide +kernel, by decide, by decide⟩
theorem fl_RX12_60_11 : gs_FL RX12 60 "GrainShiftModel" 11 23 (RX12, TX12, 52) := ⟨rfl, by decide, gs_t 1147 (by decide +kernel) (by decide +kernel), Or.inl rfl⟩
theorem ml_RX12_221 : Cond.methodLink RX12 221 yX12_usual ∈ gs_tbl := gs_t 1444 (by decide +kernel) (by decide +kernel)
theorem ss_X12_usual : Cond.static yX12_usual ∈ gs_tbl := gs_t 1445 (by decide +kernel) (by decide +kernel)
theorem ml_RX12_224 : Cond.methodLink RX12 224 yX12_placeOf ∈ gs_tbl := gs_t 1447 (by decide +kernel) (by decide +kernel)
theorem ss_X12_placeOf : Cond.static yX12_placeOf ∈ gs_tbl := gs_t 1448 (by decide +kernel) (by decide +kernel)
theorem ml_RX12_228 : Cond.methodLink RX12 228 yX12_has ∈ gs_tbl := gs_t 1450 (by decide +kernel) (by decide +kernel)
theorem ss_X12_has : Cond.static yX12_has ∈ gs_tbl := gs_t 1451 (by decide +kernel) (by decide +kernel)
theorem ml_RX12_232 : Cond.methodLink RX12 232 yX12_leastOf ∈ gs_tbl := gs_t 1453 (by decide +kernel) (by decide +kernel)
theorem ss_X12_leastOf : Cond.static yX12_leastOf ∈ gs_tbl := gs_t 1454 (by decide +kernel) (by decide +kernel)
theorem ml_RX12_235 : Cond.methodLink RX12 235 yX12_mostOf ∈ gs_tbl := gs_t 1456 (by decide +kernel) (by decide +kernel)
theorem ss_X12_mostOf : Cond.static yX12_mostOf ∈ gs_tbl := gs_t 1457 (by decide +kernel) (by decide +kernel)
theorem se_11_RX12_X12_number : Cond.selects RX12 yX12_number yX12_number ∈ gs_tbl := gs_s 58 (by decide +kernel) (by decide +kernel)
theorem ml_RX12_238 : Cond.methodLink RX12 238 yX12_number ∈ gs_tbl := gs_t 1459 (by decide +kernel) (by decide +kernel)
theorem im_X12_number : Cond.instanceMethod yX12_number ∈ gs_tbl := gs_t 1461 (by decide +kernel) (by decide +kernel)
theorem mf_X12_readItems : gs_MF yX12_readItems cX12_readItems 10 none 3 := ⟨gs_t 1443 (by decide +kernel) (by decide +kernel), gs_t 13 (by decide +kernel) (by decide +kernel), by decide, by decide, by decide +kernel, by decide, by decide⟩
theorem se_11_RX12_X12_readItems : Cond.selects RX12 yX12_readItems yX12_readItems ∈ gs_tbl := gs_s 57 (by decide +kernel) (by decide +kernel)
theorem ml_RX12_242 : Cond.methodLink RX12 242 yX12_readItems ∈ gs_tbl := gs_t 1440 (by decide +kernel) (by decide +kernel)
theorem im_X12_readItems : Cond.instanceMethod yX12_readItems ∈ gs_tbl := gs_t 1442 (by decide +kernel) (by decide +kernel)
theorem mf_X12_readRows : gs_MF yX12_readRows cX12_readRows 6 (some .int) 3 := ⟨gs_t 1470 (by decide +kernel) (by decide +kernel), gs_t 13 (by decide +kernel) (by decide +kernel), by decide, by decide, by decide +kernel, by decide, by decide⟩
theorem se_11_RX12_X12_opens : Cond.selects RX12 yX12_opens yX12_opens ∈ gs_tbl := gs_s 42 (by decide +kernel) (by decide +kernel)
theorem ml_RX12_207 : Cond.methodLink RX12 207 yX12_opens ∈ gs_tbl := gs_t 1312 (by decide +kernel) (by decide +kernel)
theorem im_X12_opens : Cond.instanceMethod yX12_opens ∈ gs_tbl := gs_t 1314 (by decide +kernel) (by decide +kernel)
theorem fl_RX12_49_11 : gs_FL RX12 49 "GrainShiftModel" 11 22 (RX12, TX12, 52) := ⟨rfl, by decide, gs_t 1146 (by decide +kernel) (by decide +kernel), Or.inl rfl⟩
theorem fl_RX12_43_11 : gs_FL RX12 43 "GrainShiftModel" 11 20 (RX12, TX12, 52) := ⟨rfl, by decide, gs_t 1144 (by decide +kernel) (by decide +kernel), Or.inl rfl⟩
theorem se_11_RX12_X12_readRows : Cond.selects RX12 yX12_readRows yX12_readRows ∈ gs_tbl := gs_s 60 (by decide +kernel) (by decide +kernel)
theorem ml_RX12_246 : Cond.methodLink RX12 246 yX12_readRows ∈ gs_tbl := gs_t 1467 (by decide +kernel) (by decide +kernel)
theorem im_X12_readRows : Cond.instanceMethod yX12_readRows ∈ gs_tbl := gs_t 1469 (by decide +kernel) (by decide +kernel)
theorem fl_RX12_46_11 : gs_FL RX12 46 "GrainShiftModel" 11 21 (RX12, TX12, 52) := ⟨rfl, by decide, gs_t 1145 (by decide +kernel) (by decide +kernel), Or.inl rfl⟩
theorem fl_RX12_40_11 : gs_FL RX12 40 "GrainShiftModel" 11 19 (RX12, TX12, 52) := ⟨rfl, by decide, gs_t 1143 (by decide +kernel) (by decide +kernel), Or.inl rfl⟩
theorem fl_RX12_37_11 : gs_FL RX12 37 "GrainShiftModel" 11 18 (RX12, TX12, 52) := ⟨rfl, by decide, gs_t 1142 (by decide +kernel) (by decide +kernel), Or.inl rfl⟩
theorem mf_X12_read : gs_MF yX12_read cX12_read 3 none 2 := ⟨gs_t 1439 (by decide +kernel) (by decide +kernel), gs_t 13 (by decide +kernel) (by decide +kernel), by decide, by decide, by decide +kernel, by decide, by decide⟩
theorem mf_X12_mostTexts : gs_MF yX12_mostTexts cX12_mostTexts 1 (some .int) 1 := ⟨gs_t 1435 (by decide +kernel) (by decide +kernel), gs_t 13 (by decide +kernel) (by decide +kernel), by decide, by decide, by decide +kernel, by decide, by decide⟩
theorem fl_RX12_263_11 : gs_FL RX12 263 "GrainShiftModel" 11 24 (RX12, TX12, 52) := ⟨rfl, by decide, gs_t 1148 (by decide +kernel) (by decide +kernel), Or.inl rfl⟩
theorem mf_X12_isStuff : gs_MF yX12_isStuff cX12_isStuff 2 (some .boolean) 1 := ⟨gs_t 1487 (by decide +kernel) (by decide +kernel), gs_t 13 (by decide +kernel) (by decide +kernel), by decide, by decide, by decide +kernel, by decide, by decide⟩
theorem fl_RX12_266_11 : gs_FL RX12 266 "GrainShiftModel" 11 25 (RX12, TX12, 52) := ⟨rfl, by decide, gs_t 1149 (by decide +kernel) (by decide +kernel), Or.inl rfl⟩
theorem mf_X12_isShip : gs_MF yX12_isShip cX12_isShip 2 (some .boolean) 1 := ⟨gs_t 1499 (by decide +kernel) (by decide +kernel), gs_t 13 (by decide +kernel) (by decide +kernel), by decide, by decide, by decide +kernel, by decide, by decide⟩
theorem fl_RX12_269_11 : gs_FL RX12 269 "GrainShiftModel" 11 26 (RX12, TX12, 52) := ⟨rfl, by decide, gs_t 1150 (by decide +kernel) (by decide +kernel), Or.inl rfl⟩
theorem mf_X12_isPlan : gs_MF yX12_isPlan cX12_isPlan 2 (some .boolean) 1 := ⟨gs_t 1511 (by decide +kernel) (by decide +kernel), gs_t 13 (by decide +kernel) (by decide +kernel), by decide, by decide, by decide +kernel, by decide, by decide⟩
theorem mf_X12_partOf : gs_MF yX12_partOf cX12_partOf 3 (some .int) 2 := ⟨gs_t 1491 (by decide +kernel) (by decide +kernel), gs_t 13 (by decide +kernel) (by decide +kernel), by decide, by decide, by decide +kernel, by decide, by decide⟩
theorem mf_X12_holdOf : gs_MF yX12_holdOf cX12_holdOf 4 (some .int) 3 := ⟨gs_t 1503 (by decide +kernel) (by decide +kernel), gs_t 13 (by decide +kernel) (by decide +kernel), by decide, by decide, by decide +kernel, by decide, by decide⟩
theorem mf_X12_layingOf : gs_MF yX12_layingOf cX12_layingOf 4 (some .int) 3 := ⟨gs_t 1515 (by decide +kernel) (by decide +kernel), gs_t 13 (by decide +kernel) (by decide +kernel), by decide, by decide, by decide +kernel, by decide, by decide⟩
theorem se_11_RX12_X12_isStuff : Cond.selects RX12 yX12_isStuff yX12_isStuff ∈ gs_tbl := gs_s 62 (by decide +kernel) (by decide +kernel)
theorem ml_RX12_277 : Cond.methodLink RX12 277 yX12_isStuff ∈ gs_tbl := gs_t 1484 (by decide +kernel) (by decide +kernel)
theorem im_X12_isStuff : Cond.instanceMethod yX12_isStuff ∈ gs_tbl := gs_t 1486 (by decide +kernel) (by decide +kernel)
theorem se_11_RX12_X12_partOf : Cond.selects RX12 yX12_partOf yX12_partOf ∈ gs_tbl := gs_s 63 (by decide +kernel) (by decide +kernel)
theorem ml_RX12_280 : Cond.methodLink RX12 280 yX12_partOf ∈ gs_tbl := gs_t 1488 (by decide +kernel) (by decide +kernel)
theorem im_X12_partOf : Cond.instanceMethod yX12_partOf ∈ gs_tbl := gs_t 1490 (by decide +kernel) (by decide +kernel)
theorem mf_X12_stuff : gs_MF yX12_stuff cX12_stuff 3 (some .int) 2 := ⟨gs_t 1483 (by decide +kernel) (by decide +kernel), gs_t 13 (by decide +kernel) (by decide +kernel), by decide, by decide, by decide +kernel, by decide, by decide⟩
theorem se_11_RX12_X12_isShip : Cond.selects RX12 yX12_isShip yX12_isShip ∈ gs_tbl := gs_s 64 (by decide +kernel) (by decide +kernel)
theorem ml_RX12_283 : Cond.methodLink RX12 283 yX12_isShip ∈ gs_tbl := gs_t 1496 (by decide +kernel) (by decide +kernel)
theorem im_X12_isShip : Cond.instanceMethod yX12_isShip ∈ gs_tbl := gs_t 1498 (by decide +kernel) (by decide +kernel)
theorem se_11_RX12_X12_holdOf : Cond.selects RX12 yX12_holdOf yX12_holdOf ∈ gs_tbl := gs_s 65 (by decide +kernel) (by decide +kernel)
theorem ml_RX12_286 : Cond.methodLink RX12 286 yX12_holdOf ∈ gs_tbl := gs_t 1500 (by decide +kernel) (by decide +kernel)
theorem im_X12_holdOf : Cond.instanceMethod yX12_holdOf ∈ gs_tbl := gs_t 1502 (by decide +kernel) (by decide +kernel)
theorem mf_X12_ship : gs_MF yX12_ship cX12_ship 4 (some .int) 3 := ⟨gs_t 1495 (by decide +kernel) (by decide +kernel), gs_t 13 (by decide +kernel) (by decide +kernel), by decide, by decide, by decide +kernel, by decide, by decide⟩
theorem se_11_RX12_X12_isPlan : Cond.selects RX12 yX12_isPlan yX12_isPlan ∈ gs_tbl := gs_s 66 (by decide +kernel) (by decide +kernel)
theorem ml_RX12_290 : Cond.methodLink RX12 290 yX12_isPlan ∈ gs_tbl := gs_t 1508 (by decide +kernel) (by decide +kernel)
theorem im_X12_isPlan : Cond.instanceMethod yX12_isPlan ∈ gs_tbl := gs_t 1510 (by decide +kernel) (by decide +kernel)
theorem se_11_RX12_X12_layingOf : Cond.selects RX12 yX12_layingOf yX12_layingOf ∈ gs_tbl := gs_s 67 (by decide +kernel) (by decide +kernel)
theorem ml_RX12_293 : Cond.methodLink RX12 293 yX12_layingOf ∈ gs_tbl := gs_t 1512 (by decide +kernel) (by decide +kernel)
theorem im_X12_layingOf : Cond.instanceMethod yX12_layingOf ∈ gs_tbl := gs_t 1514 (by decide +kernel) (by decide +kernel)
theorem mf_X12_plan : gs_MF yX12_plan cX12_plan 4 (some .int) 3 := ⟨gs_t 1507 (by decide +kernel) (by decide +kernel), gs_t 13 (by decide +kernel) (by decide +kernel), by decide, by decide, by decide +kernel, by decide, by decide⟩
theorem fl_RX12_64_11 : gs_FL RX12 64 "GrainShiftModel" 11 27 (RX12, TX12, 52) := ⟨rfl, by decide, gs_t 1151 (by decide +kernel) (by decide +kernel), Or.inl rfl⟩
theorem fl_RX12_296_11 : gs_FL RX12 296 "GrainShiftModel" 11 28 (RX12, TX12, 52) := ⟨rfl, by decide, gs_t 1152 (by decide +kernel) (by decide +kernel), Or.inl rfl⟩
theorem fl_RX12_68_11 : gs_FL RX12 68 "GrainShiftModel" 11 29 (RX12, TX12, 52) := ⟨rfl, by decide, gs_t 1153 (by decide +kernel) (by decide +kernel), Or.inl rfl⟩
theorem mf_X12_set : gs_MF yX12_set cX12_set 3 (some .boolean) 2 := ⟨gs_t 1519 (by decide +kernel) (by decide +kernel), gs_t 13 (by decide +kernel) (by decide +kernel), by decide, by decide, by decide +kernel, by decide, by decide⟩
theorem mf_X12_copy : gs_MF yX12_copy cX12_copy 3 none 2 := ⟨gs_t 1653 (by decide +kernel) (by decide +kernel), gs_t 13 (by decide +kernel) (by decide +kernel), by decide, by decide, by decide +kernel, by decide, by decide⟩
theorem fl_RX12_71_11 : gs_FL RX12 71 "GrainShiftModel" 11 30 (RX12, TX12, 52) := ⟨rfl, by decide, gs_t 1154 (by decide +kernel) (by decide +kernel), Or.inl rfl⟩
theorem mf_X12_now : gs_MF yX12_now cX12_now 2 (some .int) 1 := ⟨gs_t 1535 (by decide +kernel) (by decide +kernel), gs_t 13 (by decide +kernel) (by decide +kernel), by decide, by decide, by decide +kernel, by decide, by decide⟩
theorem mf_X12_of : gs_MF yX12_of cX12_of 3 (some .int) 2 := ⟨gs_t 1543 (by decide +kernel) (by decide +kernel), gs_t 13 (by decide +kernel) (by decide +kernel), by decide, by decide, by decide +kernel, by decide, by decide⟩
theorem mf_X12_placeIn : gs_MF yX12_placeIn cX12_placeIn 3 (some .int) 2 := ⟨gs_t 1555 (by decide +kernel) (by decide +kernel), gs_t 13 (by decide +kernel) (by decide +kernel), by decide, by decide, by decide +kernel, by decide, by decide⟩
theorem se_11_RX12_X12_placeIn : Cond.selects RX12 yX12_placeIn yX12_placeIn ∈ gs_tbl := gs_s 75 (by decide +kernel) (by decide +kernel)
theorem ml_RX12_299 : Cond.methodLink RX12 299 yX12_placeIn ∈ gs_tbl := gs_t 1552 (by decide +kernel) (by decide +kernel)
theorem im_X12_placeIn : Cond.instanceMethod yX12_placeIn ∈ gs_tbl := gs_t 1554 (by decide +kernel) (by decide +kernel)
theorem mf_X12_units : gs_MF yX12_units cX12_units 3 (some .int) 2 := ⟨gs_t 1551 (by decide +kernel) (by decide +kernel), gs_t 13 (by decide +kernel) (by decide +kernel), by decide, by decide, by decide +kernel, by decide, by decide⟩
theorem se_11_RX12_X12_of : Cond.selects RX12 yX12_of yX12_of ∈ gs_tbl := gs_s 72 (by decide +kernel) (by decide +kernel)
theorem ml_RX12_302 : Cond.methodLink RX12 302 yX12_of ∈ gs_tbl := gs_t 1540 (by decide +kernel) (by decide +kernel)
theorem im_X12_of : Cond.instanceMethod yX12_of ∈ gs_tbl := gs_t 1542 (by decide +kernel) (by decide +kernel)
theorem mf_X12_tallBy : gs_MF yX12_tallBy cX12_tallBy 3 (some .int) 2 := ⟨gs_t 1569 (by decide +kernel) (by decide +kernel), gs_t 13 (by decide +kernel) (by decide +kernel), by decide, by decide, by decide +kernel, by decide, by decide⟩
theorem se_11_RX12_X12_units : Cond.selects RX12 yX12_units yX12_units ∈ gs_tbl := gs_s 74 (by decide +kernel) (by decide +kernel)
theorem ml_RX12_305 : Cond.methodLink RX12 305 yX12_units ∈ gs_tbl := gs_t 1548 (by decide +kernel) (by decide +kernel)
theorem im_X12_units : Cond.instanceMethod yX12_units ∈ gs_tbl := gs_t 1550 (by decide +kernel) (by decide +kernel)
theorem se_11_RX12_X12_tallBy : Cond.selects RX12 yX12_tallBy yX12_tallBy ∈ gs_tbl := gs_s 78 (by decide +kernel) (by decide +kernel)
theorem ml_RX12_308 : Cond.methodLink RX12 308 yX12_tallBy ∈ gs_tbl := gs_t 1566 (by decide +kernel) (by decide +kernel)
theorem im_X12_tallBy : Cond.instanceMethod yX12_tallBy ∈ gs_tbl := gs_t 1568 (by decide +kernel) (by decide +kernel)
theorem mf_X12_tall : gs_MF yX12_tall cX12_tall 3 (some .int) 2 := ⟨gs_t 1565 (by decide +kernel) (by decide +kernel), gs_t 13 (by decide +kernel) (by decide +kernel), by decide, by decide, by decide +kernel, by decide, by decide⟩
theorem mf_X12_isSoup : gs_MF yX12_isSoup cX12_isSoup 2 (some .boolean) 1 := ⟨gs_t 1577 (by decide +kernel) (by decide +kernel), gs_t 13 (by decide +kernel) (by decide +kernel), by decide, by decide, by decide +kernel, by decide, by decide⟩
theorem se_11_RX12_X12_isSoup : Cond.selects RX12 yX12_isSoup yX12_isSoup ∈ gs_tbl := gs_s 80 (by decide +kernel) (by decide +kernel)
theorem ml_RX12_311 : Cond.methodLink RX12 311 yX12_isSoup ∈ gs_tbl := gs_t 1574 (by decide +kernel) (by decide +kernel)
theorem im_X12_isSoup : Cond.instanceMethod yX12_isSoup ∈ gs_tbl := gs_t 1576 (by decide +kernel) (by decide +kernel)
theorem mf_X12_fast : gs_MF yX12_fast cX12_fast 2 (some .int) 1 := ⟨gs_t 1573 (by decide +kernel) (by decide +kernel), gs_t 13 (by decide +kernel) (by decide +kernel), by decide, by decide, by decide +kernel, by decide, by decide⟩
theorem d_X12_thrown_0 : gd cX12_thrown 0 (.aload_n 0) 1 1 := ⟨by decide +kernel, rfl⟩
theorem d_X12_thrown_1 : gd cX12_thrown 1 (.getfield 98) 3 4 := ⟨by decide +kernel, rfl⟩
theorem d_X12_thrown_4 : gd cX12_thrown 4 .ireturn 1 5 := ⟨by decide +kernel, rfl⟩
def D_X12_thrown  (μ : gs_M) : Option (Int32 × gs_M) :=
  some (gI μ 78 0, μ)
section S_X12_thrown
variable {p : Program} {l : Launch} {e : Env} {R : Room} {s : State} {m : MethodId} {args : Array Value} {below : List Frame} {meth : Method} {c : Code} {ad : Nat → Nat} {g : va_G} {tyc : Nat → ClassId}
set_option maxRecDepth 20000 in
theorem C_X12_thrown   {μ : gs_M} {r : Int32} {μ2 : gs_M}  (hD : D_X12_thrown  μ = some (r, μ2)) : CALL yX12_thrown cX12_thrown 1 (some .int) 0 [.ref 78] μ (some (.int r)) μ2 := by
  unfold D_X12_thrown at hD
  refine gs_enter mf_X12_thrown (Nat.le_of_ble_eq_true rfl) (ls := [.ref 78]) rfl (fun p l e R s m args below meth c ad g tyc hK => ?_)
  have hK : KC p R s m args meth c ad g tyc RX12 cX12_thrown 1 (some .int) 0 := hK
  refine r_aload_n hK d_X12_thrown_0 rfl rfl ?_
  refine r_getI hK d_X12_thrown_1 fl_RX12_98_11 rfl kd_78 ?_
  cases hD
  exact r_iret hK d_X12_thrown_4
end S_X12_thrown
theorem d_X12_isIn_0 : gd cX12_isIn 0 (.iload_n 0) 1 1 := ⟨by decide +kernel, rfl⟩
theorem d_X12_isIn_1 : gd cX12_isIn 1 (.iload_n 1) 1 2 := ⟨by decide +kernel, rfl⟩
theorem d_X12_isIn_2 : gd cX12_isIn 2 (.if_icmp .lt 12) 3 5 := ⟨by decide +kernel, rfl⟩
theorem d_X12_isIn_5 : gd cX12_isIn 5 (.iload_n 0) 1 6 := ⟨by decide +kernel, rfl⟩
theorem d_X12_isIn_6 : gd cX12_isIn 6 (.iload_n 2) 1 7 := ⟨by decide +kernel, rfl⟩
theorem d_X12_isIn_7 : gd cX12_isIn 7 (.if_icmp .gt 7) 3 10 := ⟨by decide +kernel, rfl⟩
theorem d_X12_isIn_10 : gd cX12_isIn 10 (.iconst 1) 1 11 := ⟨by decide +kernel, rfl⟩
theorem d_X12_isIn_11 : gd cX12_isIn 11 (.goto 4) 3 14 := ⟨by decide +kernel, rfl⟩
theorem d_X12_isIn_14 : gd cX12_isIn 14 (.iconst 0) 1 15 := ⟨by decide +kernel, rfl⟩
theorem d_X12_isIn_15 : gd cX12_isIn 15 .ireturn 1 16 := ⟨by decide +kernel, rfl⟩
def B_X12_isIn_14   (μ : gs_M) : Option (Int32 × gs_M) :=
  some ((0 : Int32), μ)
def D_X12_isIn (x0 : Int32) (x1 : Int32) (x2 : Int32) (μ : gs_M) : Option (Int32 × gs_M) :=
  if x0 < x1 then (B_X12_isIn_14 μ) else (if x2 < x0 then (B_X12_isIn_14 μ) else (some ((1 : Int32), μ)))
section S_X12_isIn
variable {p : Program} {l : Launch} {e : Env} {R : Room} {s : State} {m : MethodId} {args : Array Value} {below : List Frame} {meth : Method} {c : Code} {ad : Nat → Nat} {g : va_G} {tyc : Nat → ClassId}
set_option maxRecDepth 20000 in
theorem T_X12_isIn_14  (hK : KC p R s m args meth c ad g tyc RX12 cX12_isIn 3 (some .boolean) 0) {r : Int32} {μ2 : gs_M}    {μ : gs_M}  (hD : B_X12_isIn_14   μ = some (r, μ2)) : WJ p l e R s m args below meth c 0 0 (MQ below (gs_Q ad g tyc (some (.int r)) μ2) args s 0 0 (gs_A ad)) ad g tyc 3 14 [gs_J, gs_J, gs_J] [] μ := by
  unfold B_X12_isIn_14 at hD
  refine r_iconst hK d_X12_isIn_14 ci_0 ?_
  cases hD
  exact r_zret hK (Or.inl rfl) d_X12_isIn_15
set_option maxRecDepth 20000 in
theorem C_X12_isIn  {x0 : Int32} {x1 : Int32} {x2 : Int32} {μ : gs_M} {r : Int32} {μ2 : gs_M}  (hD : D_X12_isIn x0 x1 x2 μ = some (r, μ2)) : CALL yX12_isIn cX12_isIn 3 (some .boolean) 0 [.int x0, .int x1, .int x2] μ (some (.int r)) μ2 := by
  unfold D_X12_isIn at hD
  refine gs_enter mf_X12_isIn (Nat.le_of_ble_eq_true rfl) (ls := [.int x0, .int x1, .int x2]) rfl (fun p l e R s m args below meth c ad g tyc hK => ?_)
  have hK : KC p R s m args meth c ad g tyc RX12 cX12_isIn 3 (some .boolean) 0 := hK
  refine r_iload_n hK d_X12_isIn_0 rfl rfl ?_
  refine r_iload_n hK d_X12_isIn_1 rfl rfl ?_
  refine r_icmp_lt (tgt := 14) hK d_X12_isIn_2 (by decide) (fun h1 => ?_) (fun h1 => ?_)
  · have hD := if_t hD h1
    refine r_junk [false, false, false] (ls2 := [gs_J, gs_J, gs_J]) rfl ?_
    exact T_X12_isIn_14 hK   hD
  · have hD := if_f hD h1
    refine r_iload_n hK d_X12_isIn_5 rfl rfl ?_
    refine r_iload_n hK d_X12_isIn_6 rfl rfl ?_
    refine r_icmp_gt (tgt := 14) hK d_X12_isIn_7 (by decide) (fun h2 => ?_) (fun h2 => ?_)
    · have hD := if_t hD h2
      refine r_junk [false, false, false] (ls2 := [gs_J, gs_J, gs_J]) rfl ?_
      exact T_X12_isIn_14 hK   hD
    · have hD := if_f hD h2
      refine r_iconst hK d_X12_isIn_10 ci_1 ?_
      refine r_goto (tgt := 15) hK d_X12_isIn_11 (by decide) ?_
      cases hD
      exact r_zret hK (Or.inr rfl) d_X12_isIn_15
end S_X12_isIn
theorem d_X12_has_0 : gd cX12_has 0 (.iload_n 0) 1 1 := ⟨by decide +kernel, rfl⟩
theorem d_X12_has_1 : gd cX12_has 1 (.iload_n 1) 1 2 := ⟨by decide +kernel, rfl⟩
theorem d_X12_has_2 : gd cX12_has 2 .ishr 1 3 := ⟨by decide +kernel, rfl⟩
theorem d_X12_has_3 : gd cX12_has 3 (.iconst 1) 1 4 := ⟨by decide +kernel, rfl⟩
theorem d_X12_has_4 : gd cX12_has 4 .iand 1 5 := ⟨by decide +kernel, rfl⟩
theorem d_X12_has_5 : gd cX12_has 5 (.iconst 1) 1 6 := ⟨by decide +kernel, rfl⟩
theorem d_X12_has_6 : gd cX12_has 6 (.if_icmp .ne 7) 3 9 := ⟨by decide +kernel, rfl⟩
theorem d_X12_has_9 : gd cX12_has 9 (.iconst 1) 1 10 := ⟨by decide +kernel, rfl⟩
theorem d_X12_has_10 : gd cX12_has 10 (.goto 4) 3 13 := ⟨by decide +kernel, rfl⟩
theorem d_X12_has_13 : gd cX12_has 13 (.iconst 0) 1 14 := ⟨by decide +kernel, rfl⟩
theorem d_X12_has_14 : gd cX12_has 14 .ireturn 1 15 := ⟨by decide +kernel, rfl⟩
def D_X12_has (x0 : Int32) (x1 : Int32) (μ : gs_M) : Option (Int32 × gs_M) :=
  if ((x0 >>> (x1 &&& 31)) &&& (1 : Int32)) = (1 : Int32) then (some ((1 : Int32), μ)) else (some ((0 : Int32), μ))
section S_X12_has
variable {p : Program} {l : Launch} {e : Env} {R : Room} {s : State} {m : MethodId} {args : Array Value} {below : List Frame} {meth : Method} {c : Code} {ad : Nat → Nat} {g : va_G} {tyc : Nat → ClassId}
set_option maxRecDepth 20000 in
theorem C_X12_has  {x0 : Int32} {x1 : Int32} {μ : gs_M} {r : Int32} {μ2 : gs_M}  (hD : D_X12_has x0 x1 μ = some (r, μ2)) : CALL yX12_has cX12_has 2 (some .boolean) 0 [.int x0, .int x1] μ (some (.int r)) μ2 := by
  unfold D_X12_has at hD
  refine gs_enter mf_X12_has (Nat.le_of_ble_eq_true rfl) (ls := [.int x0, .int x1]) rfl (fun p l e R s m args below meth c ad g tyc hK => ?_)
  have hK : KC p R s m args meth c ad g tyc RX12 cX12_has 2 (some .boolean) 0 := hK
  refine r_iload_n hK d_X12_has_0 rfl rfl ?_
  refine r_iload_n hK d_X12_has_1 rfl rfl ?_
  refine r_ishr hK d_X12_has_2 ?_
  refine r_iconst hK d_X12_has_3 ci_1 ?_
  refine r_iand hK d_X12_has_4 ?_
  refine r_iconst hK d_X12_has_5 ci_1 ?_
  refine r_icmp_ne (tgt := 13) hK d_X12_has_6 (by decide) (fun h1 => ?_) (fun h1 => ?_)
  · have hD := if_f hD h1
    refine r_iconst hK d_X12_has_13 ci_0 ?_
    cases hD
    exact r_zret hK (Or.inl rfl) d_X12_has_14
  · have hD := if_t hD h1
    refine r_iconst hK d_X12_has_9 ci_1 ?_
    refine r_goto (tgt := 14) hK d_X12_has_10 (by decide) ?_
    cases hD
    exact r_zret hK (Or.inr rfl) d_X12_has_14
end S_X12_has
theorem d_X12_isAmong_0 : gd cX12_isAmong 0 (.iconst 0) 1 1 := ⟨by decide +kernel, rfl⟩
theorem d_X12_isAmong_1 : gd cX12_isAmong 1 (.istore_n 2) 1 2 := ⟨by decide +kernel, rfl⟩
theorem d_X12_isAmong_2 : gd cX12_isAmong 2 (.iload_n 2) 1 3 := ⟨by decide +kernel, rfl⟩
theorem d_X12_isAmong_3 : gd cX12_isAmong 3 (.aload_n 0) 1 4 := ⟨by decide +kernel, rfl⟩
theorem d_X12_isAmong_4 : gd cX12_isAmong 4 (.invokevirtual 101) 3 7 := ⟨by decide +kernel, rfl⟩
theorem d_X12_isAmong_7 : gd cX12_isAmong 7 (.if_icmp .ge 20) 3 10 := ⟨by decide +kernel, rfl⟩
theorem d_X12_isAmong_10 : gd cX12_isAmong 10 (.aload_n 0) 1 11 := ⟨by decide +kernel, rfl⟩
theorem d_X12_isAmong_11 : gd cX12_isAmong 11 (.iload_n 2) 1 12 := ⟨by decide +kernel, rfl⟩
theorem d_X12_isAmong_12 : gd cX12_isAmong 12 (.invokevirtual 105) 3 15 := ⟨by decide +kernel, rfl⟩
theorem d_X12_isAmong_15 : gd cX12_isAmong 15 (.iload_n 1) 1 16 := ⟨by decide +kernel, rfl⟩
theorem d_X12_isAmong_16 : gd cX12_isAmong 16 (.if_icmp .ne 5) 3 19 := ⟨by decide +kernel, rfl⟩
theorem d_X12_isAmong_19 : gd cX12_isAmong 19 (.iconst 1) 1 20 := ⟨by decide +kernel, rfl⟩
theorem d_X12_isAmong_20 : gd cX12_isAmong 20 .ireturn 1 21 := ⟨by decide +kernel, rfl⟩
theorem d_X12_isAmong_21 : gd cX12_isAmong 21 (.iinc 2 1) 3 24 := ⟨by decide +kernel, rfl⟩
theorem d_X12_isAmong_24 : gd cX12_isAmong 24 (.goto (-22)) 3 27 := ⟨by decide +kernel, rfl⟩
theorem d_X12_isAmong_27 : gd cX12_isAmong 27 (.iconst 0) 1 28 := ⟨by decide +kernel, rfl⟩
theorem d_X12_isAmong_28 : gd cX12_isAmong 28 .ireturn 1 29 := ⟨by decide +kernel, rfl⟩
def Bo_X12_isAmong_2 (q2 : Nat → Int32 → Int32 → gs_M → Option (Int32 × gs_M)) (a0 : Nat) (x1 : Int32) (x2 : Int32) (μ : gs_M) : Option (Int32 × gs_M) :=
  if (nI (gs_sl.getD (a0 - 105) 0)) ≤ x2 then (some ((0 : Int32), μ)) else (ck (inb x2 (gs_sl.getD (a0 - 105) 0)) (if (cS (a0 - 105) (Int32.toNatClampNeg x2)) = x1 then (some ((1 : Int32), μ)) else (q2 a0 x1 (x2 + (1 : Int32)) μ)))
def L_X12_isAmong_2  : Nat → Nat → Int32 → Int32 → gs_M → Option (Int32 × gs_M)
  | 0 => fun _ _ _ _ => none
  | n + 1 => fun a0 x1 x2 μ => Bo_X12_isAmong_2  (L_X12_isAmong_2  n) a0 x1 x2 μ
def D_X12_isAmong (a0 : Nat) (x1 : Int32) (μ : gs_M) : Option (Int32 × gs_M) :=
  L_X12_isAmong_2 4096 a0 x1 (0 : Int32) μ
section S_X12_isAmong
variable {p : Program} {l : Launch} {e : Env} {R : Room} {s : State} {m : MethodId} {args : Array Value} {below : List Frame} {meth : Method} {c : Code} {ad : Nat → Nat} {g : va_G} {tyc : Nat → ClassId}
set_option maxRecDepth 20000 in
theorem To_X12_isAmong_2  (hK : KC p R s m args meth c ad g tyc RX12 cX12_isAmong 3 (some .boolean) 4) {r : Int32} {μ2 : gs_M} {q2 : Nat → Int32 → Int32 → gs_M → Option (Int32 × gs_M)} (hq2 : ∀ (a0 : Nat) (x1 : Int32) (x2 : Int32) (μ : gs_M), 105 ≤ a0 ∧ a0 < 110 → q2 a0 x1 x2 μ = some (r, μ2) → WJ p l e R s m args below meth c 0 0 (MQ below (gs_Q ad g tyc (some (.int r)) μ2) args s 0 0 (gs_A ad)) ad g tyc 3 2 [.ref a0, .int x1, .int x2] [] μ) {a0 : Nat} {x1 : Int32} {x2 : Int32} {μ : gs_M} (hk0 : 105 ≤ a0 ∧ a0 < 110) (hD : Bo_X12_isAmong_2 q2 a0 x1 x2 μ = some (r, μ2)) : WJ p l e R s m args below meth c 0 0 (MQ below (gs_Q ad g tyc (some (.int r)) μ2) args s 0 0 (gs_A ad)) ad g tyc 3 2 [.ref a0, .int x1, .int x2] [] μ := by
  unfold Bo_X12_isAmong_2 at hD
  refine r_iload_n hK d_X12_isAmong_2 rfl rfl ?_
  refine r_aload_n hK d_X12_isAmong_3 rfl rfl ?_
  refine r_slen hK d_X12_isAmong_4 sl_RX12_101 hk0 (Nat.le_of_ble_eq_true rfl) (by decide) ⟨Nat.zero_le _, Nat.zero_le _⟩ ?_
  refine r_icmp_ge (tgt := 27) hK d_X12_isAmong_7 (by decide) (fun h1 => ?_) (fun h1 => ?_)
  · have hD := if_t hD h1
    refine r_iconst hK d_X12_isAmong_27 ci_0 ?_
    cases hD
    exact r_zret hK (Or.inl rfl) d_X12_isAmong_28
  · have hD := if_f hD h1
    refine r_aload_n hK d_X12_isAmong_10 rfl rfl ?_
    refine r_iload_n hK d_X12_isAmong_11 rfl rfl ?_
    obtain ⟨h2, hD⟩ := ck_e hD
    refine r_scat hK d_X12_isAmong_12 sc_RX12_105 hk0 (inb_in h2) (Nat.le_of_ble_eq_true rfl) (by decide) ⟨Nat.zero_le _, Nat.zero_le _⟩ ?_
    refine r_iload_n hK d_X12_isAmong_15 rfl rfl ?_
    refine r_icmp_ne (tgt := 21) hK d_X12_isAmong_16 (by decide) (fun h3 => ?_) (fun h3 => ?_)
    · have hD := if_f hD h3
      refine r_iinc hK d_X12_isAmong_21 rfl (v := x2 + (1 : Int32)) (by rw [ci_1]) (by decide) (ls2 := [.ref a0, .int x1, .int (x2 + (1 : Int32))]) rfl ?_
      refine r_goto (tgt := 2) hK d_X12_isAmong_24 (by decide) ?_
      exact hq2 _ _ _ _ hk0 hD
    · have hD := if_t hD h3
      refine r_iconst hK d_X12_isAmong_19 ci_1 ?_
      cases hD
      exact r_zret hK (Or.inr rfl) d_X12_isAmong_20
set_option maxRecDepth 20000 in
theorem TL_X12_isAmong_2  (hK : KC p R s m args meth c ad g tyc RX12 cX12_isAmong 3 (some .boolean) 4) {r : Int32} {μ2 : gs_M}   : ∀ (n : Nat) (a0 : Nat) (x1 : Int32) (x2 : Int32) (μ : gs_M), 105 ≤ a0 ∧ a0 < 110 → L_X12_isAmong_2  n a0 x1 x2 μ = some (r, μ2) → WJ p l e R s m args below meth c 0 0 (MQ below (gs_Q ad g tyc (some (.int r)) μ2) args s 0 0 (gs_A ad)) ad g tyc 3 2 [.ref a0, .int x1, .int x2] [] μ := by
  intro n
  induction n with
  | zero => intro a0 x1 x2 μ hk0 hD; cases hD
  | succ n ih => intro a0 x1 x2 μ hk0 hD; exact To_X12_isAmong_2 hK  ih hk0 hD
set_option maxRecDepth 20000 in
theorem C_X12_isAmong  {a0 : Nat} {x1 : Int32} {μ : gs_M} {r : Int32} {μ2 : gs_M} (hk0 : 105 ≤ a0 ∧ a0 < 110) (hD : D_X12_isAmong a0 x1 μ = some (r, μ2)) : CALL yX12_isAmong cX12_isAmong 3 (some .boolean) 4 [.ref a0, .int x1] μ (some (.int r)) μ2 := by
  unfold D_X12_isAmong at hD
  refine gs_enter mf_X12_isAmong (Nat.le_of_ble_eq_true rfl) (ls := [.ref a0, .int x1, gs_J]) rfl (fun p l e R s m args below meth c ad g tyc hK => ?_)
  have hK : KC p R s m args meth c ad g tyc RX12 cX12_isAmong 3 (some .boolean) 4 := hK
  refine r_iconst hK d_X12_isAmong_0 ci_0 ?_
  refine r_istore_n hK d_X12_isAmong_1 rfl (by decide) (ls2 := [.ref a0, .int x1, .int (0 : Int32)]) rfl ?_
  exact TL_X12_isAmong_2 hK  _ _ _ _ _ hk0 hD
end S_X12_isAmong
theorem d_X12_bytesIn_0 : gd cX12_bytesIn 0 (.iconst 0) 1 1 := ⟨by decide +kernel, rfl⟩
theorem d_X12_bytesIn_1 : gd cX12_bytesIn 1 (.istore_n 1) 1 2 := ⟨by decide +kernel, rfl⟩
theorem d_X12_bytesIn_2 : gd cX12_bytesIn 2 (.bipush 24) 2 4 := ⟨by decide +kernel, rfl⟩
theorem d_X12_bytesIn_4 : gd cX12_bytesIn 4 (.istore_n 2) 1 5 := ⟨by decide +kernel, rfl⟩
theorem d_X12_bytesIn_5 : gd cX12_bytesIn 5 (.iload_n 2) 1 6 := ⟨by decide +kernel, rfl⟩
theorem d_X12_bytesIn_6 : gd cX12_bytesIn 6 (.ifCond .lt 27) 3 9 := ⟨by decide +kernel, rfl⟩
theorem d_X12_bytesIn_9 : gd cX12_bytesIn 9 (.iload_n 1) 1 10 := ⟨by decide +kernel, rfl⟩
theorem d_X12_bytesIn_10 : gd cX12_bytesIn 10 (.iload_n 0) 1 11 := ⟨by decide +kernel, rfl⟩
theorem d_X12_bytesIn_11 : gd cX12_bytesIn 11 (.iload_n 2) 1 12 := ⟨by decide +kernel, rfl⟩
theorem d_X12_bytesIn_12 : gd cX12_bytesIn 12 .ishr 1 13 := ⟨by decide +kernel, rfl⟩
theorem d_X12_bytesIn_13 : gd cX12_bytesIn 13 (.sipush 255) 3 16 := ⟨by decide +kernel, rfl⟩
theorem d_X12_bytesIn_16 : gd cX12_bytesIn 16 .iand 1 17 := ⟨by decide +kernel, rfl⟩
theorem d_X12_bytesIn_17 : gd cX12_bytesIn 17 (.ifCond .eq 7) 3 20 := ⟨by decide +kernel, rfl⟩
theorem d_X12_bytesIn_20 : gd cX12_bytesIn 20 (.iconst 1) 1 21 := ⟨by decide +kernel, rfl⟩
theorem d_X12_bytesIn_21 : gd cX12_bytesIn 21 (.goto 4) 3 24 := ⟨by decide +kernel, rfl⟩
theorem d_X12_bytesIn_24 : gd cX12_bytesIn 24 (.iconst 0) 1 25 := ⟨by decide +kernel, rfl⟩
theorem d_X12_bytesIn_25 : gd cX12_bytesIn 25 .iadd 1 26 := ⟨by decide +kernel, rfl⟩
theorem d_X12_bytesIn_26 : gd cX12_bytesIn 26 (.istore_n 1) 1 27 := ⟨by decide +kernel, rfl⟩
theorem d_X12_bytesIn_27 : gd cX12_bytesIn 27 (.iinc 2 (-8)) 3 30 := ⟨by decide +kernel, rfl⟩
theorem d_X12_bytesIn_30 : gd cX12_bytesIn 30 (.goto (-25)) 3 33 := ⟨by decide +kernel, rfl⟩
theorem d_X12_bytesIn_33 : gd cX12_bytesIn 33 (.iload_n 1) 1 34 := ⟨by decide +kernel, rfl⟩
theorem d_X12_bytesIn_34 : gd cX12_bytesIn 34 .ireturn 1 35 := ⟨by decide +kernel, rfl⟩
def Bo_X12_bytesIn_5 (q5 : Int32 → Int32 → Int32 → gs_M → Option (Int32 × gs_M)) (x0 : Int32) (x1 : Int32) (x2 : Int32) (μ : gs_M) : Option (Int32 × gs_M) :=
  if x2 < 0 then (some (x1, μ)) else (if ((x0 >>> (x2 &&& 31)) &&& (255 : Int32)) = 0 then (lt1 (x1 + (0 : Int32)) (fun v3 => q5 x0 v3 (x2 + (-8 : Int32)) μ)) else (lt1 (x1 + (1 : Int32)) (fun v4 => q5 x0 v4 (x2 + (-8 : Int32)) μ)))
def L_X12_bytesIn_5  : Nat → Int32 → Int32 → Int32 → gs_M → Option (Int32 × gs_M)
  | 0 => fun _ _ _ _ => none
  | n + 1 => fun x0 x1 x2 μ => Bo_X12_bytesIn_5  (L_X12_bytesIn_5  n) x0 x1 x2 μ
def D_X12_bytesIn (x0 : Int32) (μ : gs_M) : Option (Int32 × gs_M) :=
  L_X12_bytesIn_5 4096 x0 (0 : Int32) (24 : Int32) μ
section S_X12_bytesIn
variable {p : Program} {l : Launch} {e : Env} {R : Room} {s : State} {m : MethodId} {args : Array Value} {below : List Frame} {meth : Method} {c : Code} {ad : Nat → Nat} {g : va_G} {tyc : Nat → ClassId}
set_option maxRecDepth 20000 in
theorem To_X12_bytesIn_5  (hK : KC p R s m args meth c ad g tyc RX12 cX12_bytesIn 3 (some .int) 0) {r : Int32} {μ2 : gs_M} {q5 : Int32 → Int32 → Int32 → gs_M → Option (Int32 × gs_M)} (hq5 : ∀ (x0 : Int32) (x1 : Int32) (x2 : Int32) (μ : gs_M), q5 x0 x1 x2 μ = some (r, μ2) → WJ p l e R s m args below meth c 0 0 (MQ below (gs_Q ad g tyc (some (.int r)) μ2) args s 0 0 (gs_A ad)) ad g tyc 3 5 [.int x0, .int x1, .int x2] [] μ) {x0 : Int32} {x1 : Int32} {x2 : Int32} {μ : gs_M}  (hD : Bo_X12_bytesIn_5 q5 x0 x1 x2 μ = some (r, μ2)) : WJ p l e R s m args below meth c 0 0 (MQ below (gs_Q ad g tyc (some (.int r)) μ2) args s 0 0 (gs_A ad)) ad g tyc 3 5 [.int x0, .int x1, .int x2] [] μ := by
  unfold Bo_X12_bytesIn_5 at hD
  refine r_iload_n hK d_X12_bytesIn_5 rfl rfl ?_
  refine r_if_lt (tgt := 33) hK d_X12_bytesIn_6 (by decide) (fun h1 => ?_) (fun h1 => ?_)
  · have hD := if_t hD h1
    refine r_iload_n hK d_X12_bytesIn_33 rfl rfl ?_
    cases hD
    exact r_iret hK d_X12_bytesIn_34
  · have hD := if_f hD h1
    refine r_iload_n hK d_X12_bytesIn_9 rfl rfl ?_
    refine r_iload_n hK d_X12_bytesIn_10 rfl rfl ?_
    refine r_iload_n hK d_X12_bytesIn_11 rfl rfl ?_
    refine r_ishr hK d_X12_bytesIn_12 ?_
    refine r_sipush hK d_X12_bytesIn_13 cs_255 ?_
    refine r_iand hK d_X12_bytesIn_16 ?_
    refine r_if_eq (tgt := 24) hK d_X12_bytesIn_17 (by decide) (fun h2 => ?_) (fun h2 => ?_)
    · have hD := if_t hD h2
      refine r_iconst hK d_X12_bytesIn_24 ci_0 ?_
      refine r_iadd hK d_X12_bytesIn_25 ?_
      refine r_lti hD (fun v3 hD => ?_)
      refine r_istore_n hK d_X12_bytesIn_26 rfl (by decide) (ls2 := [.int x0, .int v3, .int x2]) rfl ?_
      refine r_iinc hK d_X12_bytesIn_27 rfl (v := x2 + (-8 : Int32)) (by rw [ci_m8]) (by decide) (ls2 := [.int x0, .int v3, .int (x2 + (-8 : Int32))]) rfl ?_
      refine r_goto (tgt := 5) hK d_X12_bytesIn_30 (by decide) ?_
      exact hq5 _ _ _ _  hD
    · have hD := if_f hD h2
      refine r_iconst hK d_X12_bytesIn_20 ci_1 ?_
      refine r_goto (tgt := 25) hK d_X12_bytesIn_21 (by decide) ?_
      refine r_iadd hK d_X12_bytesIn_25 ?_
      refine r_lti hD (fun v4 hD => ?_)
      refine r_istore_n hK d_X12_bytesIn_26 rfl (by decide) (ls2 := [.int x0, .int v4, .int x2]) rfl ?_
      refine r_iinc hK d_X12_bytesIn_27 rfl (v := x2 + (-8 : Int32)) (by rw [ci_m8]) (by decide) (ls2 := [.int x0, .int v4, .int (x2 + (-8 : Int32))]) rfl ?_
      refine r_goto (tgt := 5) hK d_X12_bytesIn_30 (by decide) ?_
      exact hq5 _ _ _ _  hD
set_option maxRecDepth 20000 in
theorem TL_X12_bytesIn_5  (hK : KC p R s m args meth c ad g tyc RX12 cX12_bytesIn 3 (some .int) 0) {r : Int32} {μ2 : gs_M}   : ∀ (n : Nat) (x0 : Int32) (x1 : Int32) (x2 : Int32) (μ : gs_M), L_X12_bytesIn_5  n x0 x1 x2 μ = some (r, μ2) → WJ p l e R s m args below meth c 0 0 (MQ below (gs_Q ad g tyc (some (.int r)) μ2) args s 0 0 (gs_A ad)) ad g tyc 3 5 [.int x0, .int x1, .int x2] [] μ := by
  intro n
  induction n with
  | zero => intro x0 x1 x2 μ  hD; cases hD
  | succ n ih => intro x0 x1 x2 μ  hD; exact To_X12_bytesIn_5 hK  ih  hD
set_option maxRecDepth 20000 in
theorem C_X12_bytesIn  {x0 : Int32} {μ : gs_M} {r : Int32} {μ2 : gs_M}  (hD : D_X12_bytesIn x0 μ = some (r, μ2)) : CALL yX12_bytesIn cX12_bytesIn 3 (some .int) 0 [.int x0] μ (some (.int r)) μ2 := by
  unfold D_X12_bytesIn at hD
  refine gs_enter mf_X12_bytesIn (Nat.le_of_ble_eq_true rfl) (ls := [.int x0, gs_J, gs_J]) rfl (fun p l e R s m args below meth c ad g tyc hK => ?_)
  have hK : KC p R s m args meth c ad g tyc RX12 cX12_bytesIn 3 (some .int) 0 := hK
  refine r_iconst hK d_X12_bytesIn_0 ci_0 ?_
  refine r_istore_n hK d_X12_bytesIn_1 rfl (by decide) (ls2 := [.int x0, .int (0 : Int32), gs_J]) rfl ?_
  refine r_bipush hK d_X12_bytesIn_2 cb_24 ?_
  refine r_istore_n hK d_X12_bytesIn_4 rfl (by decide) (ls2 := [.int x0, .int (0 : Int32), .int (24 : Int32)]) rfl ?_
  exact TL_X12_bytesIn_5 hK  _ _ _ _ _  hD
end S_X12_bytesIn
theorem d_X12_put_0 : gd cX12_put 0 (.bipush 24) 2 2 := ⟨by decide +kernel, rfl⟩
theorem d_X12_put_2 : gd cX12_put 2 (.istore_n 2) 1 3 := ⟨by decide +kernel, rfl⟩
theorem d_X12_put_3 : gd cX12_put 3 (.iload_n 2) 1 4 := ⟨by decide +kernel, rfl⟩
theorem d_X12_put_4 : gd cX12_put 4 (.ifCond .lt 45) 3 7 := ⟨by decide +kernel, rfl⟩
theorem d_X12_put_7 : gd cX12_put 7 (.iload_n 1) 1 8 := ⟨by decide +kernel, rfl⟩
theorem d_X12_put_8 : gd cX12_put 8 (.iload_n 2) 1 9 := ⟨by decide +kernel, rfl⟩
theorem d_X12_put_9 : gd cX12_put 9 .ishr 1 10 := ⟨by decide +kernel, rfl⟩
theorem d_X12_put_10 : gd cX12_put 10 (.sipush 255) 3 13 := ⟨by decide +kernel, rfl⟩
theorem d_X12_put_13 : gd cX12_put 13 .iand 1 14 := ⟨by decide +kernel, rfl⟩
theorem d_X12_put_14 : gd cX12_put 14 (.ifCond .ne 6) 3 17 := ⟨by decide +kernel, rfl⟩
theorem d_X12_put_17 : gd cX12_put 17 (.goto 26) 3 20 := ⟨by decide +kernel, rfl⟩
theorem d_X12_put_20 : gd cX12_put 20 (.aload_n 0) 1 21 := ⟨by decide +kernel, rfl⟩
theorem d_X12_put_21 : gd cX12_put 21 (.getfield 9) 3 24 := ⟨by decide +kernel, rfl⟩
theorem d_X12_put_24 : gd cX12_put 24 (.aload_n 0) 1 25 := ⟨by decide +kernel, rfl⟩
theorem d_X12_put_25 : gd cX12_put 25 (.getfield 109) 3 28 := ⟨by decide +kernel, rfl⟩
theorem d_X12_put_28 : gd cX12_put 28 (.iload_n 1) 1 29 := ⟨by decide +kernel, rfl⟩
theorem d_X12_put_29 : gd cX12_put 29 (.iload_n 2) 1 30 := ⟨by decide +kernel, rfl⟩
theorem d_X12_put_30 : gd cX12_put 30 .ishr 1 31 := ⟨by decide +kernel, rfl⟩
theorem d_X12_put_31 : gd cX12_put 31 .i2b 1 32 := ⟨by decide +kernel, rfl⟩
theorem d_X12_put_32 : gd cX12_put 32 .bastore 1 33 := ⟨by decide +kernel, rfl⟩
theorem d_X12_put_33 : gd cX12_put 33 (.aload_n 0) 1 34 := ⟨by decide +kernel, rfl⟩
theorem d_X12_put_34 : gd cX12_put 34 .dup 1 35 := ⟨by decide +kernel, rfl⟩
theorem d_X12_put_35 : gd cX12_put 35 (.getfield 109) 3 38 := ⟨by decide +kernel, rfl⟩
theorem d_X12_put_38 : gd cX12_put 38 (.iconst 1) 1 39 := ⟨by decide +kernel, rfl⟩
theorem d_X12_put_39 : gd cX12_put 39 .iadd 1 40 := ⟨by decide +kernel, rfl⟩
theorem d_X12_put_40 : gd cX12_put 40 (.putfield 109) 3 43 := ⟨by decide +kernel, rfl⟩
theorem d_X12_put_43 : gd cX12_put 43 (.iinc 2 (-8)) 3 46 := ⟨by decide +kernel, rfl⟩
theorem d_X12_put_46 : gd cX12_put 46 (.goto (-43)) 3 49 := ⟨by decide +kernel, rfl⟩
theorem d_X12_put_49 : gd cX12_put 49 .return_ 1 50 := ⟨by decide +kernel, rfl⟩
def Bo_X12_put_3 (q3 : Int32 → Int32 → gs_M → Option (gs_M)) (x1 : Int32) (x2 : Int32) (μ : gs_M) : Option (gs_M) :=
  if x2 < 0 then (some μ) else (if ((x1 >>> (x2 &&& 31)) &&& (255 : Int32)) = 0 then (q3 x1 (x2 + (-8 : Int32)) μ) else (ck (inb (gI μ 78 6) 160) (lt1 (sI μ 79 (Int32.toNatClampNeg (gI μ 78 6)) (vp_nar .byte (Int8.toInt32 (Int32.toInt8 (x1 >>> (x2 &&& 31)))))) (fun u4 => lt1 (sI u4 78 6 ((gI u4 78 6) + (1 : Int32))) (fun u5 => q3 x1 (x2 + (-8 : Int32)) u5)))))
def L_X12_put_3  : Nat → Int32 → Int32 → gs_M → Option (gs_M)
  | 0 => fun _ _ _ => none
  | n + 1 => fun x1 x2 μ => Bo_X12_put_3  (L_X12_put_3  n) x1 x2 μ
def D_X12_put (x1 : Int32) (μ : gs_M) : Option (gs_M) :=
  L_X12_put_3 4096 x1 (24 : Int32) μ
section S_X12_put
variable {p : Program} {l : Launch} {e : Env} {R : Room} {s : State} {m : MethodId} {args : Array Value} {below : List Frame} {meth : Method} {c : Code} {ad : Nat → Nat} {g : va_G} {tyc : Nat → ClassId}
set_option maxRecDepth 20000 in
theorem To_X12_put_3  (hK : KC p R s m args meth c ad g tyc RX12 cX12_put 3 none 0) {μ2 : gs_M} {q3 : Int32 → Int32 → gs_M → Option (gs_M)} (hq3 : ∀ (x1 : Int32) (x2 : Int32) (μ : gs_M), q3 x1 x2 μ = some μ2 → WJ p l e R s m args below meth c 0 0 (MQ below (gs_Q ad g tyc none μ2) args s 0 0 (gs_A ad)) ad g tyc 3 3 [.ref 78, .int x1, .int x2] [] μ) {x1 : Int32} {x2 : Int32} {μ : gs_M}  (hD : Bo_X12_put_3 q3 x1 x2 μ = some μ2) : WJ p l e R s m args below meth c 0 0 (MQ below (gs_Q ad g tyc none μ2) args s 0 0 (gs_A ad)) ad g tyc 3 3 [.ref 78, .int x1, .int x2] [] μ := by
  unfold Bo_X12_put_3 at hD
  refine r_iload_n hK d_X12_put_3 rfl rfl ?_
  refine r_if_lt (tgt := 49) hK d_X12_put_4 (by decide) (fun h1 => ?_) (fun h1 => ?_)
  · have hD := if_t hD h1
    cases hD
    exact r_vret hK d_X12_put_49
  · have hD := if_f hD h1
    refine r_iload_n hK d_X12_put_7 rfl rfl ?_
    refine r_iload_n hK d_X12_put_8 rfl rfl ?_
    refine r_ishr hK d_X12_put_9 ?_
    refine r_sipush hK d_X12_put_10 cs_255 ?_
    refine r_iand hK d_X12_put_13 ?_
    refine r_if_ne (tgt := 20) hK d_X12_put_14 (by decide) (fun h2 => ?_) (fun h2 => ?_)
    · have hD := if_f hD h2
      refine r_aload_n hK d_X12_put_20 rfl rfl ?_
      refine r_getR hK d_X12_put_21 fl_RX12_9_11 rfl kd_78 ?_
      refine r_ref (b := 79) R0_78_1 ?_
      refine r_aload_n hK d_X12_put_24 rfl rfl ?_
      refine r_getI hK d_X12_put_25 fl_RX12_109_11 rfl kd_78 ?_
      refine r_iload_n hK d_X12_put_28 rfl rfl ?_
      refine r_iload_n hK d_X12_put_29 rfl rfl ?_
      refine r_ishr hK d_X12_put_30 ?_
      refine r_i2b hK d_X12_put_31 ?_
      obtain ⟨h3, hD⟩ := ck_e hD
      refine r_bast hK d_X12_put_32 kd_79 ln_79 (inb_in h3) ?_
      refine r_ltm hD (fun u4 hD => ?_)
      refine r_aload_n hK d_X12_put_33 rfl rfl ?_
      refine r_dup hK d_X12_put_34 rfl ?_
      refine r_getI hK d_X12_put_35 fl_RX12_109_11 rfl kd_78 ?_
      refine r_iconst hK d_X12_put_38 ci_1 ?_
      refine r_iadd hK d_X12_put_39 ?_
      refine r_putI hK d_X12_put_40 fl_RX12_109_11 rfl rfl kd_78 ?_
      refine r_ltm hD (fun u5 hD => ?_)
      refine r_iinc hK d_X12_put_43 rfl (v := x2 + (-8 : Int32)) (by rw [ci_m8]) (by decide) (ls2 := [.ref 78, .int x1, .int (x2 + (-8 : Int32))]) rfl ?_
      refine r_goto (tgt := 3) hK d_X12_put_46 (by decide) ?_
      exact hq3 _ _ _  hD
    · have hD := if_t hD h2
      refine r_goto (tgt := 43) hK d_X12_put_17 (by decide) ?_
      refine r_iinc hK d_X12_put_43 rfl (v := x2 + (-8 : Int32)) (by rw [ci_m8]) (by decide) (ls2 := [.ref 78, .int x1, .int (x2 + (-8 : Int32))]) rfl ?_
      refine r_goto (tgt := 3) hK d_X12_put_46 (by decide) ?_
      exact hq3 _ _ _  hD
set_option maxRecDepth 20000 in
theorem TL_X12_put_3  (hK : KC p R s m args meth c ad g tyc RX12 cX12_put 3 none 0) {μ2 : gs_M}   : ∀ (n : Nat) (x1 : Int32) (x2 : Int32) (μ : gs_M), L_X12_put_3  n x1 x2 μ = some μ2 → WJ p l e R s m args below meth c 0 0 (MQ below (gs_Q ad g tyc none μ2) args s 0 0 (gs_A ad)) ad g tyc 3 3 [.ref 78, .int x1, .int x2] [] μ := by
  intro n
  induction n with
  | zero => intro x1 x2 μ  hD; cases hD
  | succ n ih => intro x1 x2 μ  hD; exact To_X12_put_3 hK  ih  hD
set_option maxRecDepth 20000 in
theorem C_X12_put  {x1 : Int32} {μ : gs_M} {μ2 : gs_M}  (hD : D_X12_put x1 μ = some μ2) : CALL yX12_put cX12_put 3 none 0 [.ref 78, .int x1] μ none μ2 := by
  unfold D_X12_put at hD
  refine gs_enter mf_X12_put (Nat.le_of_ble_eq_true rfl) (ls := [.ref 78, .int x1, gs_J]) rfl (fun p l e R s m args below meth c ad g tyc hK => ?_)
  have hK : KC p R s m args meth c ad g tyc RX12 cX12_put 3 none 0 := hK
  refine r_bipush hK d_X12_put_0 cb_24 ?_
  refine r_istore_n hK d_X12_put_2 rfl (by decide) (ls2 := [.ref 78, .int x1, .int (24 : Int32)]) rfl ?_
  exact TL_X12_put_3 hK  _ _ _ _  hD
end S_X12_put
theorem d_X12_feed_0 : gd cX12_feed 0 (.aload_n 0) 1 1 := ⟨by decide +kernel, rfl⟩
theorem d_X12_feed_1 : gd cX12_feed 1 (.iconst 0) 1 2 := ⟨by decide +kernel, rfl⟩
theorem d_X12_feed_2 : gd cX12_feed 2 (.putfield 98) 3 5 := ⟨by decide +kernel, rfl⟩
theorem d_X12_feed_5 : gd cX12_feed 5 (.aload_n 0) 1 6 := ⟨by decide +kernel, rfl⟩
theorem d_X12_feed_6 : gd cX12_feed 6 (.getfield 109) 3 9 := ⟨by decide +kernel, rfl⟩
theorem d_X12_feed_9 : gd cX12_feed 9 (.iload_n 1) 1 10 := ⟨by decide +kernel, rfl⟩
theorem d_X12_feed_10 : gd cX12_feed 10 (.invokestatic 111) 3 13 := ⟨by decide +kernel, rfl⟩
theorem d_X12_feed_13 : gd cX12_feed 13 .iadd 1 14 := ⟨by decide +kernel, rfl⟩
theorem d_X12_feed_14 : gd cX12_feed 14 (.iload_n 2) 1 15 := ⟨by decide +kernel, rfl⟩
theorem d_X12_feed_15 : gd cX12_feed 15 (.invokestatic 111) 3 18 := ⟨by decide +kernel, rfl⟩
theorem d_X12_feed_18 : gd cX12_feed 18 .iadd 1 19 := ⟨by decide +kernel, rfl⟩
theorem d_X12_feed_19 : gd cX12_feed 19 (.iload_n 3) 1 20 := ⟨by decide +kernel, rfl⟩
theorem d_X12_feed_20 : gd cX12_feed 20 (.invokestatic 111) 3 23 := ⟨by decide +kernel, rfl⟩
theorem d_X12_feed_23 : gd cX12_feed 23 .iadd 1 24 := ⟨by decide +kernel, rfl⟩
theorem d_X12_feed_24 : gd cX12_feed 24 (.iload 4) 2 26 := ⟨by decide +kernel, rfl⟩
theorem d_X12_feed_26 : gd cX12_feed 26 (.invokestatic 111) 3 29 := ⟨by decide +kernel, rfl⟩
theorem d_X12_feed_29 : gd cX12_feed 29 .iadd 1 30 := ⟨by decide +kernel, rfl⟩
theorem d_X12_feed_30 : gd cX12_feed 30 (.iload 5) 2 32 := ⟨by decide +kernel, rfl⟩
theorem d_X12_feed_32 : gd cX12_feed 32 (.invokestatic 111) 3 35 := ⟨by decide +kernel, rfl⟩
theorem d_X12_feed_35 : gd cX12_feed 35 .iadd 1 36 := ⟨by decide +kernel, rfl⟩
theorem d_X12_feed_36 : gd cX12_feed 36 (.sipush 160) 3 39 := ⟨by decide +kernel, rfl⟩
theorem d_X12_feed_39 : gd cX12_feed 39 (.if_icmp .le 5) 3 42 := ⟨by decide +kernel, rfl⟩
theorem d_X12_feed_42 : gd cX12_feed 42 (.iconst (-1)) 1 43 := ⟨by decide +kernel, rfl⟩
theorem d_X12_feed_43 : gd cX12_feed 43 .ireturn 1 44 := ⟨by decide +kernel, rfl⟩
theorem d_X12_feed_44 : gd cX12_feed 44 (.aload_n 0) 1 45 := ⟨by decide +kernel, rfl⟩
theorem d_X12_feed_45 : gd cX12_feed 45 (.iload_n 1) 1 46 := ⟨by decide +kernel, rfl⟩
theorem d_X12_feed_46 : gd cX12_feed 46 (.invokevirtual 115) 3 49 := ⟨by decide +kernel, rfl⟩
theorem d_X12_feed_49 : gd cX12_feed 49 (.aload_n 0) 1 50 := ⟨by decide +kernel, rfl⟩
theorem d_X12_feed_50 : gd cX12_feed 50 (.iload_n 2) 1 51 := ⟨by decide +kernel, rfl⟩
theorem d_X12_feed_51 : gd cX12_feed 51 (.invokevirtual 115) 3 54 := ⟨by decide +kernel, rfl⟩
theorem d_X12_feed_54 : gd cX12_feed 54 (.aload_n 0) 1 55 := ⟨by decide +kernel, rfl⟩
theorem d_X12_feed_55 : gd cX12_feed 55 (.iload_n 3) 1 56 := ⟨by decide +kernel, rfl⟩
theorem d_X12_feed_56 : gd cX12_feed 56 (.invokevirtual 115) 3 59 := ⟨by decide +kernel, rfl⟩
theorem d_X12_feed_59 : gd cX12_feed 59 (.aload_n 0) 1 60 := ⟨by decide +kernel, rfl⟩
theorem d_X12_feed_60 : gd cX12_feed 60 (.iload 4) 2 62 := ⟨by decide +kernel, rfl⟩
theorem d_X12_feed_62 : gd cX12_feed 62 (.invokevirtual 115) 3 65 := ⟨by decide +kernel, rfl⟩
theorem d_X12_feed_65 : gd cX12_feed 65 (.aload_n 0) 1 66 := ⟨by decide +kernel, rfl⟩
theorem d_X12_feed_66 : gd cX12_feed 66 (.iload 5) 2 68 := ⟨by decide +kernel, rfl⟩
theorem d_X12_feed_68 : gd cX12_feed 68 (.invokevirtual 115) 3 71 := ⟨by decide +kernel, rfl⟩
theorem d_X12_feed_71 : gd cX12_feed 71 (.aload_n 0) 1 72 := ⟨by decide +kernel, rfl⟩
theorem d_X12_feed_72 : gd cX12_feed 72 (.getfield 109) 3 75 := ⟨by decide +kernel, rfl⟩
theorem d_X12_feed_75 : gd cX12_feed 75 .ireturn 1 76 := ⟨by decide +kernel, rfl⟩
def D_X12_feed (x1 : Int32) (x2 : Int32) (x3 : Int32) (x4 : Int32) (x5 : Int32) (μ : gs_M) : Option (Int32 × gs_M) :=
  lt1 (sI μ 78 0 (0 : Int32)) (fun u1 => bd (D_X12_bytesIn x1 u1) (fun v4 u3 => bd (D_X12_bytesIn x2 u3) (fun v7 u6 => bd (D_X12_bytesIn x3 u6) (fun v10 u9 => bd (D_X12_bytesIn x4 u9) (fun v13 u12 => bd (D_X12_bytesIn x5 u12) (fun v16 u15 => if ((((((gI u1 78 6) + v4) + v7) + v10) + v13) + v16) ≤ (160 : Int32) then (bd0 (D_X12_put x1 u15) (fun u19 => bd0 (D_X12_put x2 u19) (fun u21 => bd0 (D_X12_put x3 u21) (fun u23 => bd0 (D_X12_put x4 u23) (fun u25 => bd0 (D_X12_put x5 u25) (fun u27 => some (gI u27 78 6, u27))))))) else (some ((-1 : Int32), u15))))))))
section S_X12_feed
variable {p : Program} {l : Launch} {e : Env} {R : Room} {s : State} {m : MethodId} {args : Array Value} {below : List Frame} {meth : Method} {c : Code} {ad : Nat → Nat} {g : va_G} {tyc : Nat → ClassId}
set_option maxRecDepth 20000 in
theorem C_X12_feed  {x1 : Int32} {x2 : Int32} {x3 : Int32} {x4 : Int32} {x5 : Int32} {μ : gs_M} {r : Int32} {μ2 : gs_M}  (hD : D_X12_feed x1 x2 x3 x4 x5 μ = some (r, μ2)) : CALL yX12_feed cX12_feed 6 (some .int) 1 [.ref 78, .int x1, .int x2, .int x3, .int x4, .int x5] μ (some (.int r)) μ2 := by
  unfold D_X12_feed at hD
  refine gs_enter mf_X12_feed (Nat.le_of_ble_eq_true rfl) (ls := [.ref 78, .int x1, .int x2, .int x3, .int x4, .int x5]) rfl (fun p l e R s m args below meth c ad g tyc hK => ?_)
  have hK : KC p R s m args meth c ad g tyc RX12 cX12_feed 6 (some .int) 1 := hK
  refine r_aload_n hK d_X12_feed_0 rfl rfl ?_
  refine r_iconst hK d_X12_feed_1 ci_0 ?_
  refine r_putI hK d_X12_feed_2 fl_RX12_98_11 rfl rfl kd_78 ?_
  refine r_ltm hD (fun u1 hD => ?_)
  refine r_aload_n hK d_X12_feed_5 rfl rfl ?_
  refine r_getI hK d_X12_feed_6 fl_RX12_109_11 rfl kd_78 ?_
  refine r_iload_n hK d_X12_feed_9 rfl rfl ?_
  obtain ⟨v4, u3, e2, hD⟩ := bd_e hD
  refine r_callS (As := [.int x1]) (st := [.int (gI u1 78 6)]) (stk2 := [.int v4, .int (gI u1 78 6)]) hK (C_X12_bytesIn  e2) d_X12_feed_10 mf_X12_bytesIn ml_RX12_111 ss_X12_bytesIn rfl (Nat.le_of_ble_eq_true rfl) (by decide) ⟨Nat.zero_le _, Nat.zero_le _⟩ rfl rfl ?_
  refine r_iadd hK d_X12_feed_13 ?_
  refine r_iload_n hK d_X12_feed_14 rfl rfl ?_
  obtain ⟨v7, u6, e5, hD⟩ := bd_e hD
  refine r_callS (As := [.int x2]) (st := [.int ((gI u1 78 6) + v4)]) (stk2 := [.int v7, .int ((gI u1 78 6) + v4)]) hK (C_X12_bytesIn  e5) d_X12_feed_15 mf_X12_bytesIn ml_RX12_111 ss_X12_bytesIn rfl (Nat.le_of_ble_eq_true rfl) (by decide) ⟨Nat.zero_le _, Nat.zero_le _⟩ rfl rfl ?_
  refine r_iadd hK d_X12_feed_18 ?_
  refine r_iload_n hK d_X12_feed_19 rfl rfl ?_
  obtain ⟨v10, u9, e8, hD⟩ := bd_e hD
  refine r_callS (As := [.int x3]) (st := [.int (((gI u1 78 6) + v4) + v7)]) (stk2 := [.int v10, .int (((gI u1 78 6) + v4) + v7)]) hK (C_X12_bytesIn  e8) d_X12_feed_20 mf_X12_bytesIn ml_RX12_111 ss_X12_bytesIn rfl (Nat.le_of_ble_eq_true rfl) (by decide) ⟨Nat.zero_le _, Nat.zero_le _⟩ rfl rfl ?_
  refine r_iadd hK d_X12_feed_23 ?_
  refine r_iload hK d_X12_feed_24 rfl ?_
  obtain ⟨v13, u12, e11, hD⟩ := bd_e hD
  refine r_callS (As := [.int x4]) (st := [.int ((((gI u1 78 6) + v4) + v7) + v10)]) (stk2 := [.int v13, .int ((((gI u1 78 6) + v4) + v7) + v10)]) hK (C_X12_bytesIn  e11) d_X12_feed_26 mf_X12_bytesIn ml_RX12_111 ss_X12_bytesIn rfl (Nat.le_of_ble_eq_true rfl) (by decide) ⟨Nat.zero_le _, Nat.zero_le _⟩ rfl rfl ?_
  refine r_iadd hK d_X12_feed_29 ?_
  refine r_iload hK d_X12_feed_30 rfl ?_
  obtain ⟨v16, u15, e14, hD⟩ := bd_e hD
  refine r_callS (As := [.int x5]) (st := [.int (((((gI u1 78 6) + v4) + v7) + v10) + v13)]) (stk2 := [.int v16, .int (((((gI u1 78 6) + v4) + v7) + v10) + v13)]) hK (C_X12_bytesIn  e14) d_X12_feed_32 mf_X12_bytesIn ml_RX12_111 ss_X12_bytesIn rfl (Nat.le_of_ble_eq_true rfl) (by decide) ⟨Nat.zero_le _, Nat.zero_le _⟩ rfl rfl ?_
  refine r_iadd hK d_X12_feed_35 ?_
  refine r_sipush hK d_X12_feed_36 cs_160 ?_
  refine r_icmp_le (tgt := 44) hK d_X12_feed_39 (by decide) (fun h17 => ?_) (fun h17 => ?_)
  · have hD := if_t hD h17
    refine r_aload_n hK d_X12_feed_44 rfl rfl ?_
    refine r_iload_n hK d_X12_feed_45 rfl rfl ?_
    obtain ⟨u19, e18, hD⟩ := bd0_e hD
    refine r_callV (As := [.int x1]) (st := []) (stk2 := []) hK (C_X12_put  e18) d_X12_feed_46 mf_X12_put ml_RX12_115 im_X12_put rfl se_11_RX12_X12_put kd_78 rfl (Nat.le_of_ble_eq_true rfl) (by decide) ⟨Nat.zero_le _, Nat.zero_le _⟩ rfl rfl ?_
    refine r_aload_n hK d_X12_feed_49 rfl rfl ?_
    refine r_iload_n hK d_X12_feed_50 rfl rfl ?_
    obtain ⟨u21, e20, hD⟩ := bd0_e hD
    refine r_callV (As := [.int x2]) (st := []) (stk2 := []) hK (C_X12_put  e20) d_X12_feed_51 mf_X12_put ml_RX12_115 im_X12_put rfl se_11_RX12_X12_put kd_78 rfl (Nat.le_of_ble_eq_true rfl) (by decide) ⟨Nat.zero_le _, Nat.zero_le _⟩ rfl rfl ?_
    refine r_aload_n hK d_X12_feed_54 rfl rfl ?_
    refine r_iload_n hK d_X12_feed_55 rfl rfl ?_
    obtain ⟨u23, e22, hD⟩ := bd0_e hD
    refine r_callV (As := [.int x3]) (st := []) (stk2 := []) hK (C_X12_put  e22) d_X12_feed_56 mf_X12_put ml_RX12_115 im_X12_put rfl se_11_RX12_X12_put kd_78 rfl (Nat.le_of_ble_eq_true rfl) (by decide) ⟨Nat.zero_le _, Nat.zero_le _⟩ rfl rfl ?_
    refine r_aload_n hK d_X12_feed_59 rfl rfl ?_
    refine r_iload hK d_X12_feed_60 rfl ?_
    obtain ⟨u25, e24, hD⟩ := bd0_e hD
    refine r_callV (As := [.int x4]) (st := []) (stk2 := []) hK (C_X12_put  e24) d_X12_feed_62 mf_X12_put ml_RX12_115 im_X12_put rfl se_11_RX12_X12_put kd_78 rfl (Nat.le_of_ble_eq_true rfl) (by decide) ⟨Nat.zero_le _, Nat.zero_le _⟩ rfl rfl ?_
    refine r_aload_n hK d_X12_feed_65 rfl rfl ?_
    refine r_iload hK d_X12_feed_66 rfl ?_
    obtain ⟨u27, e26, hD⟩ := bd0_e hD
    refine r_callV (As := [.int x5]) (st := []) (stk2 := []) hK (C_X12_put  e26) d_X12_feed_68 mf_X12_put ml_RX12_115 im_X12_put rfl se_11_RX12_X12_put kd_78 rfl (Nat.le_of_ble_eq_true rfl) (by decide) ⟨Nat.zero_le _, Nat.zero_le _⟩ rfl rfl ?_
    refine r_aload_n hK d_X12_feed_71 rfl rfl ?_
    refine r_getI hK d_X12_feed_72 fl_RX12_109_11 rfl kd_78 ?_
    cases hD
    exact r_iret hK d_X12_feed_75
  · have hD := if_f hD h17
    refine r_iconst hK d_X12_feed_42 ci_m1 ?_
    cases hD
    exact r_iret hK d_X12_feed_43
end S_X12_feed
theorem d_X12_end_0 : gd cX12_end 0 (.aload_n 0) 1 1 := ⟨by decide +kernel, rfl⟩
theorem d_X12_end_1 : gd cX12_end 1 (.iconst 0) 1 2 := ⟨by decide +kernel, rfl⟩
theorem d_X12_end_2 : gd cX12_end 2 (.putfield 98) 3 5 := ⟨by decide +kernel, rfl⟩
theorem d_X12_end_5 : gd cX12_end 5 (.iload_n 1) 1 6 := ⟨by decide +kernel, rfl⟩
theorem d_X12_end_6 : gd cX12_end 6 (.ifCond .lt 11) 3 9 := ⟨by decide +kernel, rfl⟩
theorem d_X12_end_9 : gd cX12_end 9 (.iload_n 1) 1 10 := ⟨by decide +kernel, rfl⟩
theorem d_X12_end_10 : gd cX12_end 10 (.aload_n 0) 1 11 := ⟨by decide +kernel, rfl⟩
theorem d_X12_end_11 : gd cX12_end 11 (.getfield 109) 3 14 := ⟨by decide +kernel, rfl⟩
theorem d_X12_end_14 : gd cX12_end 14 (.if_icmp .le 5) 3 17 := ⟨by decide +kernel, rfl⟩
theorem d_X12_end_17 : gd cX12_end 17 (.iconst 0) 1 18 := ⟨by decide +kernel, rfl⟩
theorem d_X12_end_18 : gd cX12_end 18 .ireturn 1 19 := ⟨by decide +kernel, rfl⟩
theorem d_X12_end_19 : gd cX12_end 19 (.aload_n 0) 1 20 := ⟨by decide +kernel, rfl⟩
theorem d_X12_end_20 : gd cX12_end 20 (.iload_n 1) 1 21 := ⟨by decide +kernel, rfl⟩
theorem d_X12_end_21 : gd cX12_end 21 (.putfield 109) 3 24 := ⟨by decide +kernel, rfl⟩
theorem d_X12_end_24 : gd cX12_end 24 (.iconst 1) 1 25 := ⟨by decide +kernel, rfl⟩
theorem d_X12_end_25 : gd cX12_end 25 .ireturn 1 26 := ⟨by decide +kernel, rfl⟩
def D_X12_end (x1 : Int32) (μ : gs_M) : Option (Int32 × gs_M) :=
  lt1 (sI μ 78 0 (0 : Int32)) (fun u1 => if x1 < 0 then (some ((0 : Int32), u1)) else (if x1 ≤ (gI u1 78 6) then (lt1 (sI u1 78 6 x1) (fun u4 => some ((1 : Int32), u4))) else (some ((0 : Int32), u1))))
section S_X12_end
variable {p : Program} {l : Launch} {e : Env} {R : Room} {s : State} {m : MethodId} {args : Array Value} {below : List Frame} {meth : Method} {c : Code} {ad : Nat → Nat} {g : va_G} {tyc : Nat → ClassId}
set_option maxRecDepth 20000 in
theorem C_X12_end  {x1 : Int32} {μ : gs_M} {r : Int32} {μ2 : gs_M}  (hD : D_X12_end x1 μ = some (r, μ2)) : CALL yX12_end cX12_end 2 (some .boolean) 0 [.ref 78, .int x1] μ (some (.int r)) μ2 := by
  unfold D_X12_end at hD
  refine gs_enter mf_X12_end (Nat.le_of_ble_eq_true rfl) (ls := [.ref 78, .int x1]) rfl (fun p l e R s m args below meth c ad g tyc hK => ?_)
  have hK : KC p R s m args meth c ad g tyc RX12 cX12_end 2 (some .boolean) 0 := hK
  refine r_aload_n hK d_X12_end_0 rfl rfl ?_
  refine r_iconst hK d_X12_end_1 ci_0 ?_
  refine r_putI hK d_X12_end_2 fl_RX12_98_11 rfl rfl kd_78 ?_
  refine r_ltm hD (fun u1 hD => ?_)
  refine r_iload_n hK d_X12_end_5 rfl rfl ?_
  refine r_if_lt (tgt := 17) hK d_X12_end_6 (by decide) (fun h2 => ?_) (fun h2 => ?_)
  · have hD := if_t hD h2
    refine r_iconst hK d_X12_end_17 ci_0 ?_
    cases hD
    exact r_zret hK (Or.inl rfl) d_X12_end_18
  · have hD := if_f hD h2
    refine r_iload_n hK d_X12_end_9 rfl rfl ?_
    refine r_aload_n hK d_X12_end_10 rfl rfl ?_
    refine r_getI hK d_X12_end_11 fl_RX12_109_11 rfl kd_78 ?_
    refine r_icmp_le (tgt := 19) hK d_X12_end_14 (by decide) (fun h3 => ?_) (fun h3 => ?_)
    · have hD := if_t hD h3
      refine r_aload_n hK d_X12_end_19 rfl rfl ?_
      refine r_iload_n hK d_X12_end_20 rfl rfl ?_
      refine r_putI hK d_X12_end_21 fl_RX12_109_11 rfl rfl kd_78 ?_
      refine r_ltm hD (fun u4 hD => ?_)
      refine r_iconst hK d_X12_end_24 ci_1 ?_
      cases hD
      exact r_zret hK (Or.inr rfl) d_X12_end_25
    · have hD := if_f hD h3
      refine r_iconst hK d_X12_end_17 ci_0 ?_
      cases hD
      exact r_zret hK (Or.inl rfl) d_X12_end_18
end S_X12_end
theorem d_X12_look_0 : gd cX12_look 0 (.aload_n 0) 1 1 := ⟨by decide +kernel, rfl⟩
theorem d_X12_look_1 : gd cX12_look 1 (.getfield 119) 3 4 := ⟨by decide +kernel, rfl⟩
theorem d_X12_look_4 : gd cX12_look 4 (.aload_n 0) 1 5 := ⟨by decide +kernel, rfl⟩
theorem d_X12_look_5 : gd cX12_look 5 (.getfield 122) 3 8 := ⟨by decide +kernel, rfl⟩
theorem d_X12_look_8 : gd cX12_look 8 (.if_icmp .ge 35) 3 11 := ⟨by decide +kernel, rfl⟩
theorem d_X12_look_11 : gd cX12_look 11 (.aload_n 0) 1 12 := ⟨by decide +kernel, rfl⟩
theorem d_X12_look_12 : gd cX12_look 12 (.getfield 23) 3 15 := ⟨by decide +kernel, rfl⟩
theorem d_X12_look_15 : gd cX12_look 15 (.aload_n 0) 1 16 := ⟨by decide +kernel, rfl⟩
theorem d_X12_look_16 : gd cX12_look 16 (.getfield 125) 3 19 := ⟨by decide +kernel, rfl⟩
theorem d_X12_look_19 : gd cX12_look 19 (.aload_n 0) 1 20 := ⟨by decide +kernel, rfl⟩
theorem d_X12_look_20 : gd cX12_look 20 (.getfield 119) 3 23 := ⟨by decide +kernel, rfl⟩
theorem d_X12_look_23 : gd cX12_look 23 .iadd 1 24 := ⟨by decide +kernel, rfl⟩
theorem d_X12_look_24 : gd cX12_look 24 .baload 1 25 := ⟨by decide +kernel, rfl⟩
theorem d_X12_look_25 : gd cX12_look 25 (.bipush 32) 2 27 := ⟨by decide +kernel, rfl⟩
theorem d_X12_look_27 : gd cX12_look 27 (.if_icmp .ne 16) 3 30 := ⟨by decide +kernel, rfl⟩
theorem d_X12_look_30 : gd cX12_look 30 (.aload_n 0) 1 31 := ⟨by decide +kernel, rfl⟩
theorem d_X12_look_31 : gd cX12_look 31 .dup 1 32 := ⟨by decide +kernel, rfl⟩
theorem d_X12_look_32 : gd cX12_look 32 (.getfield 119) 3 35 := ⟨by decide +kernel, rfl⟩
theorem d_X12_look_35 : gd cX12_look 35 (.iconst 1) 1 36 := ⟨by decide +kernel, rfl⟩
theorem d_X12_look_36 : gd cX12_look 36 .iadd 1 37 := ⟨by decide +kernel, rfl⟩
theorem d_X12_look_37 : gd cX12_look 37 (.putfield 119) 3 40 := ⟨by decide +kernel, rfl⟩
theorem d_X12_look_40 : gd cX12_look 40 (.goto (-40)) 3 43 := ⟨by decide +kernel, rfl⟩
theorem d_X12_look_43 : gd cX12_look 43 (.aload_n 0) 1 44 := ⟨by decide +kernel, rfl⟩
theorem d_X12_look_44 : gd cX12_look 44 (.getfield 119) 3 47 := ⟨by decide +kernel, rfl⟩
theorem d_X12_look_47 : gd cX12_look 47 (.aload_n 0) 1 48 := ⟨by decide +kernel, rfl⟩
theorem d_X12_look_48 : gd cX12_look 48 (.getfield 122) 3 51 := ⟨by decide +kernel, rfl⟩
theorem d_X12_look_51 : gd cX12_look 51 (.if_icmp .ge 24) 3 54 := ⟨by decide +kernel, rfl⟩
theorem d_X12_look_54 : gd cX12_look 54 (.aload_n 0) 1 55 := ⟨by decide +kernel, rfl⟩
theorem d_X12_look_55 : gd cX12_look 55 (.getfield 23) 3 58 := ⟨by decide +kernel, rfl⟩
theorem d_X12_look_58 : gd cX12_look 58 (.aload_n 0) 1 59 := ⟨by decide +kernel, rfl⟩
theorem d_X12_look_59 : gd cX12_look 59 (.getfield 125) 3 62 := ⟨by decide +kernel, rfl⟩
theorem d_X12_look_62 : gd cX12_look 62 (.aload_n 0) 1 63 := ⟨by decide +kernel, rfl⟩
theorem d_X12_look_63 : gd cX12_look 63 (.getfield 119) 3 66 := ⟨by decide +kernel, rfl⟩
theorem d_X12_look_66 : gd cX12_look 66 .iadd 1 67 := ⟨by decide +kernel, rfl⟩
theorem d_X12_look_67 : gd cX12_look 67 .baload 1 68 := ⟨by decide +kernel, rfl⟩
theorem d_X12_look_68 : gd cX12_look 68 (.sipush 255) 3 71 := ⟨by decide +kernel, rfl⟩
theorem d_X12_look_71 : gd cX12_look 71 .iand 1 72 := ⟨by decide +kernel, rfl⟩
theorem d_X12_look_72 : gd cX12_look 72 (.goto 4) 3 75 := ⟨by decide +kernel, rfl⟩
theorem d_X12_look_75 : gd cX12_look 75 (.iconst (-1)) 1 76 := ⟨by decide +kernel, rfl⟩
theorem d_X12_look_76 : gd cX12_look 76 .ireturn 1 77 := ⟨by decide +kernel, rfl⟩
def B_X12_look_43   (μ : gs_M) : Option (Int32 × gs_M) :=
  if (gI μ 78 9) ≤ (gI μ 78 10) then (some ((-1 : Int32), μ)) else (ck (isk ((gI μ 78 5).toNatClampNeg) 21) (ck (inb ((gI μ 78 8) + (gI μ 78 10)) (ln ((gI μ 78 5).toNatClampNeg))) (some ((gI μ ((gI μ 78 5).toNatClampNeg) (Int32.toNatClampNeg ((gI μ 78 8) + (gI μ 78 10)))) &&& (255 : Int32), μ))))
def Bo_X12_look_0 (q0 : gs_M → Option (Int32 × gs_M))  (μ : gs_M) : Option (Int32 × gs_M) :=
  if (gI μ 78 9) ≤ (gI μ 78 10) then (B_X12_look_43 μ) else (ck (isk ((gI μ 78 5).toNatClampNeg) 21) (ck (inb ((gI μ 78 8) + (gI μ 78 10)) (ln ((gI μ 78 5).toNatClampNeg))) (if (gI μ ((gI μ 78 5).toNatClampNeg) (Int32.toNatClampNeg ((gI μ 78 8) + (gI μ 78 10)))) = (32 : Int32) then (lt1 (sI μ 78 10 ((gI μ 78 10) + (1 : Int32))) (fun u5 => q0 u5)) else (B_X12_look_43 μ))))
def L_X12_look_0  : Nat → gs_M → Option (Int32 × gs_M)
  | 0 => fun _ => none
  | n + 1 => fun  μ => Bo_X12_look_0  (L_X12_look_0  n)  μ
def D_X12_look  (μ : gs_M) : Option (Int32 × gs_M) :=
  L_X12_look_0 4096 μ
section S_X12_look
variable {p : Program} {l : Launch} {e : Env} {R : Room} {s : State} {m : MethodId} {args : Array Value} {below : List Frame} {meth : Method} {c : Code} {ad : Nat → Nat} {g : va_G} {tyc : Nat → ClassId}
set_option maxRecDepth 20000 in
theorem T_X12_look_43  (hK : KC p R s m args meth c ad g tyc RX12 cX12_look 1 (some .int) 0) {r : Int32} {μ2 : gs_M}    {μ : gs_M}  (hD : B_X12_look_43   μ = some (r, μ2)) : WJ p l e R s m args below meth c 0 0 (MQ below (gs_Q ad g tyc (some (.int r)) μ2) args s 0 0 (gs_A ad)) ad g tyc 1 43 [.ref 78] [] μ := by
  unfold B_X12_look_43 at hD
  refine r_aload_n hK d_X12_look_43 rfl rfl ?_
  refine r_getI hK d_X12_look_44 fl_RX12_119_11 rfl kd_78 ?_
  refine r_aload_n hK d_X12_look_47 rfl rfl ?_
  refine r_getI hK d_X12_look_48 fl_RX12_122_11 rfl kd_78 ?_
  refine r_icmp_ge (tgt := 75) hK d_X12_look_51 (by decide) (fun h1 => ?_) (fun h1 => ?_)
  · have hD := if_t hD h1
    refine r_iconst hK d_X12_look_75 ci_m1 ?_
    cases hD
    exact r_iret hK d_X12_look_76
  · have hD := if_f hD h1
    refine r_aload_n hK d_X12_look_54 rfl rfl ?_
    obtain ⟨h2, hD⟩ := ck_e hD
    refine r_getM hK d_X12_look_55 fl_RX12_23_11 rfl kd_78 ?_
    refine r_aload_n hK d_X12_look_58 rfl rfl ?_
    refine r_getI hK d_X12_look_59 fl_RX12_125_11 rfl kd_78 ?_
    refine r_aload_n hK d_X12_look_62 rfl rfl ?_
    refine r_getI hK d_X12_look_63 fl_RX12_119_11 rfl kd_78 ?_
    refine r_iadd hK d_X12_look_66 ?_
    obtain ⟨h3, hD⟩ := ck_e hD
    refine r_bald hK d_X12_look_67 (isk_e h2) rfl (inb_in h3) ?_
    refine r_sipush hK d_X12_look_68 cs_255 ?_
    refine r_iand hK d_X12_look_71 ?_
    refine r_goto (tgt := 76) hK d_X12_look_72 (by decide) ?_
    cases hD
    exact r_iret hK d_X12_look_76
set_option maxRecDepth 20000 in
theorem To_X12_look_0  (hK : KC p R s m args meth c ad g tyc RX12 cX12_look 1 (some .int) 0) {r : Int32} {μ2 : gs_M} {q0 : gs_M → Option (Int32 × gs_M)} (hq0 : ∀  (μ : gs_M), q0  μ = some (r, μ2) → WJ p l e R s m args below meth c 0 0 (MQ below (gs_Q ad g tyc (some (.int r)) μ2) args s 0 0 (gs_A ad)) ad g tyc 1 0 [.ref 78] [] μ)  {μ : gs_M}  (hD : Bo_X12_look_0 q0  μ = some (r, μ2)) : WJ p l e R s m args below meth c 0 0 (MQ below (gs_Q ad g tyc (some (.int r)) μ2) args s 0 0 (gs_A ad)) ad g tyc 1 0 [.ref 78] [] μ := by
  unfold Bo_X12_look_0 at hD
  refine r_aload_n hK d_X12_look_0 rfl rfl ?_
  refine r_getI hK d_X12_look_1 fl_RX12_119_11 rfl kd_78 ?_
  refine r_aload_n hK d_X12_look_4 rfl rfl ?_
  refine r_getI hK d_X12_look_5 fl_RX12_122_11 rfl kd_78 ?_
  refine r_icmp_ge (tgt := 43) hK d_X12_look_8 (by decide) (fun h1 => ?_) (fun h1 => ?_)
  · have hD := if_t hD h1
    exact T_X12_look_43 hK   hD
  · have hD := if_f hD h1
    refine r_aload_n hK d_X12_look_11 rfl rfl ?_
    obtain ⟨h2, hD⟩ := ck_e hD
    refine r_getM hK d_X12_look_12 fl_RX12_23_11 rfl kd_78 ?_
    refine r_aload_n hK d_X12_look_15 rfl rfl ?_
    refine r_getI hK d_X12_look_16 fl_RX12_125_11 rfl kd_78 ?_
    refine r_aload_n hK d_X12_look_19 rfl rfl ?_
    refine r_getI hK d_X12_look_20 fl_RX12_119_11 rfl kd_78 ?_
    refine r_iadd hK d_X12_look_23 ?_
    obtain ⟨h3, hD⟩ := ck_e hD
    refine r_bald hK d_X12_look_24 (isk_e h2) rfl (inb_in h3) ?_
    refine r_bipush hK d_X12_look_25 cb_32 ?_
    refine r_icmp_ne (tgt := 43) hK d_X12_look_27 (by decide) (fun h4 => ?_) (fun h4 => ?_)
    · have hD := if_f hD h4
      exact T_X12_look_43 hK   hD
    · have hD := if_t hD h4
      refine r_aload_n hK d_X12_look_30 rfl rfl ?_
      refine r_dup hK d_X12_look_31 rfl ?_
      refine r_getI hK d_X12_look_32 fl_RX12_119_11 rfl kd_78 ?_
      refine r_iconst hK d_X12_look_35 ci_1 ?_
      refine r_iadd hK d_X12_look_36 ?_
      refine r_putI hK d_X12_look_37 fl_RX12_119_11 rfl rfl kd_78 ?_
      refine r_ltm hD (fun u5 hD => ?_)
      refine r_goto (tgt := 0) hK d_X12_look_40 (by decide) ?_
      exact hq0  _  hD
set_option maxRecDepth 20000 in
theorem TL_X12_look_0  (hK : KC p R s m args meth c ad g tyc RX12 cX12_look 1 (some .int) 0) {r : Int32} {μ2 : gs_M}   : ∀ (n : Nat)  (μ : gs_M), L_X12_look_0  n  μ = some (r, μ2) → WJ p l e R s m args below meth c 0 0 (MQ below (gs_Q ad g tyc (some (.int r)) μ2) args s 0 0 (gs_A ad)) ad g tyc 1 0 [.ref 78] [] μ := by
  intro n
  induction n with
  | zero => intro  μ  hD; cases hD
  | succ n ih => intro  μ  hD; exact To_X12_look_0 hK  ih  hD
set_option maxRecDepth 20000 in
theorem C_X12_look   {μ : gs_M} {r : Int32} {μ2 : gs_M}  (hD : D_X12_look  μ = some (r, μ2)) : CALL yX12_look cX12_look 1 (some .int) 0 [.ref 78] μ (some (.int r)) μ2 := by
  unfold D_X12_look at hD
  refine gs_enter mf_X12_look (Nat.le_of_ble_eq_true rfl) (ls := [.ref 78]) rfl (fun p l e R s m args below meth c ad g tyc hK => ?_)
  have hK : KC p R s m args meth c ad g tyc RX12 cX12_look 1 (some .int) 0 := hK
  exact TL_X12_look_0 hK  _  _  hD
end S_X12_look
theorem d_X12_fails_0 : gd cX12_fails 0 (.aload_n 0) 1 1 := ⟨by decide +kernel, rfl⟩
theorem d_X12_fails_1 : gd cX12_fails 1 (.getfield 128) 3 4 := ⟨by decide +kernel, rfl⟩
theorem d_X12_fails_4 : gd cX12_fails 4 (.iconst (-1)) 1 5 := ⟨by decide +kernel, rfl⟩
theorem d_X12_fails_5 : gd cX12_fails 5 (.if_icmp .ne 11) 3 8 := ⟨by decide +kernel, rfl⟩
theorem d_X12_fails_8 : gd cX12_fails 8 (.aload_n 0) 1 9 := ⟨by decide +kernel, rfl⟩
theorem d_X12_fails_9 : gd cX12_fails 9 (.aload_n 0) 1 10 := ⟨by decide +kernel, rfl⟩
theorem d_X12_fails_10 : gd cX12_fails 10 (.getfield 119) 3 13 := ⟨by decide +kernel, rfl⟩
theorem d_X12_fails_13 : gd cX12_fails 13 (.putfield 128) 3 16 := ⟨by decide +kernel, rfl⟩
theorem d_X12_fails_16 : gd cX12_fails 16 (.iconst 0) 1 17 := ⟨by decide +kernel, rfl⟩
theorem d_X12_fails_17 : gd cX12_fails 17 .ireturn 1 18 := ⟨by decide +kernel, rfl⟩
def D_X12_fails  (μ : gs_M) : Option (Int32 × gs_M) :=
  if (gI μ 78 11) = (-1 : Int32) then (lt1 (sI μ 78 11 (gI μ 78 10)) (fun u2 => some ((0 : Int32), u2))) else (some ((0 : Int32), μ))
section S_X12_fails
variable {p : Program} {l : Launch} {e : Env} {R : Room} {s : State} {m : MethodId} {args : Array Value} {below : List Frame} {meth : Method} {c : Code} {ad : Nat → Nat} {g : va_G} {tyc : Nat → ClassId}
set_option maxRecDepth 20000 in
theorem C_X12_fails   {μ : gs_M} {r : Int32} {μ2 : gs_M}  (hD : D_X12_fails  μ = some (r, μ2)) : CALL yX12_fails cX12_fails 1 (some .boolean) 0 [.ref 78] μ (some (.int r)) μ2 := by
  unfold D_X12_fails at hD
  refine gs_enter mf_X12_fails (Nat.le_of_ble_eq_true rfl) (ls := [.ref 78]) rfl (fun p l e R s m args below meth c ad g tyc hK => ?_)
  have hK : KC p R s m args meth c ad g tyc RX12 cX12_fails 1 (some .boolean) 0 := hK
  refine r_aload_n hK d_X12_fails_0 rfl rfl ?_
  refine r_getI hK d_X12_fails_1 fl_RX12_128_11 rfl kd_78 ?_
  refine r_iconst hK d_X12_fails_4 ci_m1 ?_
  refine r_icmp_ne (tgt := 16) hK d_X12_fails_5 (by decide) (fun h1 => ?_) (fun h1 => ?_)
  · have hD := if_f hD h1
    refine r_iconst hK d_X12_fails_16 ci_0 ?_
    cases hD
    exact r_zret hK (Or.inl rfl) d_X12_fails_17
  · have hD := if_t hD h1
    refine r_aload_n hK d_X12_fails_8 rfl rfl ?_
    refine r_aload_n hK d_X12_fails_9 rfl rfl ?_
    refine r_getI hK d_X12_fails_10 fl_RX12_119_11 rfl kd_78 ?_
    refine r_putI hK d_X12_fails_13 fl_RX12_128_11 rfl rfl kd_78 ?_
    refine r_ltm hD (fun u2 hD => ?_)
    refine r_iconst hK d_X12_fails_16 ci_0 ?_
    cases hD
    exact r_zret hK (Or.inl rfl) d_X12_fails_17
end S_X12_fails
theorem d_X12_goesIn_0 : gd cX12_goesIn 0 (.aload_n 0) 1 1 := ⟨by decide +kernel, rfl⟩
theorem d_X12_goesIn_1 : gd cX12_goesIn 1 (.getfield 131) 3 4 := ⟨by decide +kernel, rfl⟩
theorem d_X12_goesIn_4 : gd cX12_goesIn 4 (.bipush 6) 2 6 := ⟨by decide +kernel, rfl⟩
theorem d_X12_goesIn_6 : gd cX12_goesIn 6 (.if_icmp .ne 8) 3 9 := ⟨by decide +kernel, rfl⟩
theorem d_X12_goesIn_9 : gd cX12_goesIn 9 (.aload_n 0) 1 10 := ⟨by decide +kernel, rfl⟩
theorem d_X12_goesIn_10 : gd cX12_goesIn 10 (.invokevirtual 134) 3 13 := ⟨by decide +kernel, rfl⟩
theorem d_X12_goesIn_13 : gd cX12_goesIn 13 .ireturn 1 14 := ⟨by decide +kernel, rfl⟩
theorem d_X12_goesIn_14 : gd cX12_goesIn 14 (.aload_n 0) 1 15 := ⟨by decide +kernel, rfl⟩
theorem d_X12_goesIn_15 : gd cX12_goesIn 15 .dup 1 16 := ⟨by decide +kernel, rfl⟩
theorem d_X12_goesIn_16 : gd cX12_goesIn 16 (.getfield 131) 3 19 := ⟨by decide +kernel, rfl⟩
theorem d_X12_goesIn_19 : gd cX12_goesIn 19 (.iconst 1) 1 20 := ⟨by decide +kernel, rfl⟩
theorem d_X12_goesIn_20 : gd cX12_goesIn 20 .iadd 1 21 := ⟨by decide +kernel, rfl⟩
theorem d_X12_goesIn_21 : gd cX12_goesIn 21 (.putfield 131) 3 24 := ⟨by decide +kernel, rfl⟩
theorem d_X12_goesIn_24 : gd cX12_goesIn 24 (.aload_n 0) 1 25 := ⟨by decide +kernel, rfl⟩
theorem d_X12_goesIn_25 : gd cX12_goesIn 25 .dup 1 26 := ⟨by decide +kernel, rfl⟩
theorem d_X12_goesIn_26 : gd cX12_goesIn 26 (.getfield 119) 3 29 := ⟨by decide +kernel, rfl⟩
theorem d_X12_goesIn_29 : gd cX12_goesIn 29 (.iconst 1) 1 30 := ⟨by decide +kernel, rfl⟩
theorem d_X12_goesIn_30 : gd cX12_goesIn 30 .iadd 1 31 := ⟨by decide +kernel, rfl⟩
theorem d_X12_goesIn_31 : gd cX12_goesIn 31 (.putfield 119) 3 34 := ⟨by decide +kernel, rfl⟩
theorem d_X12_goesIn_34 : gd cX12_goesIn 34 (.iconst 1) 1 35 := ⟨by decide +kernel, rfl⟩
theorem d_X12_goesIn_35 : gd cX12_goesIn 35 .ireturn 1 36 := ⟨by decide +kernel, rfl⟩
def D_X12_goesIn  (μ : gs_M) : Option (Int32 × gs_M) :=
  if (gI μ 78 12) = (6 : Int32) then (bd (D_X12_fails μ) (fun v6 u5 => ck (zb v6) (some (v6, u5)))) else (lt1 (sI μ 78 12 ((gI μ 78 12) + (1 : Int32))) (fun u2 => lt1 (sI u2 78 10 ((gI u2 78 10) + (1 : Int32))) (fun u3 => some ((1 : Int32), u3))))
section S_X12_goesIn
variable {p : Program} {l : Launch} {e : Env} {R : Room} {s : State} {m : MethodId} {args : Array Value} {below : List Frame} {meth : Method} {c : Code} {ad : Nat → Nat} {g : va_G} {tyc : Nat → ClassId}
set_option maxRecDepth 20000 in
theorem C_X12_goesIn   {μ : gs_M} {r : Int32} {μ2 : gs_M}  (hD : D_X12_goesIn  μ = some (r, μ2)) : CALL yX12_goesIn cX12_goesIn 1 (some .boolean) 1 [.ref 78] μ (some (.int r)) μ2 := by
  unfold D_X12_goesIn at hD
  refine gs_enter mf_X12_goesIn (Nat.le_of_ble_eq_true rfl) (ls := [.ref 78]) rfl (fun p l e R s m args below meth c ad g tyc hK => ?_)
  have hK : KC p R s m args meth c ad g tyc RX12 cX12_goesIn 1 (some .boolean) 1 := hK
  refine r_aload_n hK d_X12_goesIn_0 rfl rfl ?_
  refine r_getI hK d_X12_goesIn_1 fl_RX12_131_11 rfl kd_78 ?_
  refine r_bipush hK d_X12_goesIn_4 cb_6 ?_
  refine r_icmp_ne (tgt := 14) hK d_X12_goesIn_6 (by decide) (fun h1 => ?_) (fun h1 => ?_)
  · have hD := if_f hD h1
    refine r_aload_n hK d_X12_goesIn_14 rfl rfl ?_
    refine r_dup hK d_X12_goesIn_15 rfl ?_
    refine r_getI hK d_X12_goesIn_16 fl_RX12_131_11 rfl kd_78 ?_
    refine r_iconst hK d_X12_goesIn_19 ci_1 ?_
    refine r_iadd hK d_X12_goesIn_20 ?_
    refine r_putI hK d_X12_goesIn_21 fl_RX12_131_11 rfl rfl kd_78 ?_
    refine r_ltm hD (fun u2 hD => ?_)
    refine r_aload_n hK d_X12_goesIn_24 rfl rfl ?_
    refine r_dup hK d_X12_goesIn_25 rfl ?_
    refine r_getI hK d_X12_goesIn_26 fl_RX12_119_11 rfl kd_78 ?_
    refine r_iconst hK d_X12_goesIn_29 ci_1 ?_
    refine r_iadd hK d_X12_goesIn_30 ?_
    refine r_putI hK d_X12_goesIn_31 fl_RX12_119_11 rfl rfl kd_78 ?_
    refine r_ltm hD (fun u3 hD => ?_)
    refine r_iconst hK d_X12_goesIn_34 ci_1 ?_
    cases hD
    exact r_zret hK (Or.inr rfl) d_X12_goesIn_35
  · have hD := if_t hD h1
    refine r_aload_n hK d_X12_goesIn_9 rfl rfl ?_
    obtain ⟨v6, u5, e4, hD⟩ := bd_e hD
    refine r_callV (As := []) (st := []) (stk2 := [.int v6]) hK (C_X12_fails  e4) d_X12_goesIn_10 mf_X12_fails ml_RX12_134 im_X12_fails rfl se_11_RX12_X12_fails kd_78 rfl (Nat.le_of_ble_eq_true rfl) (by decide) ⟨Nat.zero_le _, Nat.zero_le _⟩ rfl rfl ?_
    obtain ⟨h7, hD⟩ := ck_e hD
    cases hD
    exact r_zret hK (zb_e h7) d_X12_goesIn_13
end S_X12_goesIn
theorem d_X12_takes_0 : gd cX12_takes 0 (.aload_n 0) 1 1 := ⟨by decide +kernel, rfl⟩
theorem d_X12_takes_1 : gd cX12_takes 1 (.getfield 128) 3 4 := ⟨by decide +kernel, rfl⟩
theorem d_X12_takes_4 : gd cX12_takes 4 (.iconst (-1)) 1 5 := ⟨by decide +kernel, rfl⟩
theorem d_X12_takes_5 : gd cX12_takes 5 (.if_icmp .ne 11) 3 8 := ⟨by decide +kernel, rfl⟩
theorem d_X12_takes_8 : gd cX12_takes 8 (.aload_n 0) 1 9 := ⟨by decide +kernel, rfl⟩
theorem d_X12_takes_9 : gd cX12_takes 9 (.invokevirtual 138) 3 12 := ⟨by decide +kernel, rfl⟩
theorem d_X12_takes_12 : gd cX12_takes 12 (.iload_n 1) 1 13 := ⟨by decide +kernel, rfl⟩
theorem d_X12_takes_13 : gd cX12_takes 13 (.if_icmp .eq 8) 3 16 := ⟨by decide +kernel, rfl⟩
theorem d_X12_takes_16 : gd cX12_takes 16 (.aload_n 0) 1 17 := ⟨by decide +kernel, rfl⟩
theorem d_X12_takes_17 : gd cX12_takes 17 (.invokevirtual 134) 3 20 := ⟨by decide +kernel, rfl⟩
theorem d_X12_takes_20 : gd cX12_takes 20 .ireturn 1 21 := ⟨by decide +kernel, rfl⟩
theorem d_X12_takes_21 : gd cX12_takes 21 (.aload_n 0) 1 22 := ⟨by decide +kernel, rfl⟩
theorem d_X12_takes_22 : gd cX12_takes 22 .dup 1 23 := ⟨by decide +kernel, rfl⟩
theorem d_X12_takes_23 : gd cX12_takes 23 (.getfield 119) 3 26 := ⟨by decide +kernel, rfl⟩
theorem d_X12_takes_26 : gd cX12_takes 26 (.iconst 1) 1 27 := ⟨by decide +kernel, rfl⟩
theorem d_X12_takes_27 : gd cX12_takes 27 .iadd 1 28 := ⟨by decide +kernel, rfl⟩
theorem d_X12_takes_28 : gd cX12_takes 28 (.putfield 119) 3 31 := ⟨by decide +kernel, rfl⟩
theorem d_X12_takes_31 : gd cX12_takes 31 (.iconst 1) 1 32 := ⟨by decide +kernel, rfl⟩
theorem d_X12_takes_32 : gd cX12_takes 32 .ireturn 1 33 := ⟨by decide +kernel, rfl⟩
def B_X12_takes_16   (μ : gs_M) : Option (Int32 × gs_M) :=
  bd (D_X12_fails μ) (fun v3 u2 => ck (zb v3) (some (v3, u2)))
def D_X12_takes (x1 : Int32) (μ : gs_M) : Option (Int32 × gs_M) :=
  if (gI μ 78 11) = (-1 : Int32) then (bd (D_X12_look μ) (fun v4 u3 => if v4 = x1 then (lt1 (sI u3 78 10 ((gI u3 78 10) + (1 : Int32))) (fun u6 => some ((1 : Int32), u6))) else (B_X12_takes_16 u3))) else (B_X12_takes_16 μ)
section S_X12_takes
variable {p : Program} {l : Launch} {e : Env} {R : Room} {s : State} {m : MethodId} {args : Array Value} {below : List Frame} {meth : Method} {c : Code} {ad : Nat → Nat} {g : va_G} {tyc : Nat → ClassId}
set_option maxRecDepth 20000 in
theorem T_X12_takes_16  (hK : KC p R s m args meth c ad g tyc RX12 cX12_takes 2 (some .boolean) 1) {r : Int32} {μ2 : gs_M}    {μ : gs_M}  (hD : B_X12_takes_16   μ = some (r, μ2)) : WJ p l e R s m args below meth c 0 0 (MQ below (gs_Q ad g tyc (some (.int r)) μ2) args s 0 0 (gs_A ad)) ad g tyc 2 16 [.ref 78, gs_J] [] μ := by
  unfold B_X12_takes_16 at hD
  refine r_aload_n hK d_X12_takes_16 rfl rfl ?_
  obtain ⟨v3, u2, e1, hD⟩ := bd_e hD
  refine r_callV (As := []) (st := []) (stk2 := [.int v3]) hK (C_X12_fails  e1) d_X12_takes_17 mf_X12_fails ml_RX12_134 im_X12_fails rfl se_11_RX12_X12_fails kd_78 rfl (Nat.le_of_ble_eq_true rfl) (by decide) ⟨Nat.zero_le _, Nat.zero_le _⟩ rfl rfl ?_
  obtain ⟨h4, hD⟩ := ck_e hD
  cases hD
  exact r_zret hK (zb_e h4) d_X12_takes_20
set_option maxRecDepth 20000 in
theorem C_X12_takes  {x1 : Int32} {μ : gs_M} {r : Int32} {μ2 : gs_M}  (hD : D_X12_takes x1 μ = some (r, μ2)) : CALL yX12_takes cX12_takes 2 (some .boolean) 1 [.ref 78, .int x1] μ (some (.int r)) μ2 := by
  unfold D_X12_takes at hD
  refine gs_enter mf_X12_takes (Nat.le_of_ble_eq_true rfl) (ls := [.ref 78, .int x1]) rfl (fun p l e R s m args below meth c ad g tyc hK => ?_)
  have hK : KC p R s m args meth c ad g tyc RX12 cX12_takes 2 (some .boolean) 1 := hK
  refine r_aload_n hK d_X12_takes_0 rfl rfl ?_
  refine r_getI hK d_X12_takes_1 fl_RX12_128_11 rfl kd_78 ?_
  refine r_iconst hK d_X12_takes_4 ci_m1 ?_
  refine r_icmp_ne (tgt := 16) hK d_X12_takes_5 (by decide) (fun h1 => ?_) (fun h1 => ?_)
  · have hD := if_f hD h1
    refine r_junk [true, false] (ls2 := [.ref 78, gs_J]) rfl ?_
    exact T_X12_takes_16 hK   hD
  · have hD := if_t hD h1
    refine r_aload_n hK d_X12_takes_8 rfl rfl ?_
    obtain ⟨v4, u3, e2, hD⟩ := bd_e hD
    refine r_callV (As := []) (st := []) (stk2 := [.int v4]) hK (C_X12_look  e2) d_X12_takes_9 mf_X12_look ml_RX12_138 im_X12_look rfl se_11_RX12_X12_look kd_78 rfl (Nat.le_of_ble_eq_true rfl) (by decide) ⟨Nat.zero_le _, Nat.zero_le _⟩ rfl rfl ?_
    refine r_iload_n hK d_X12_takes_12 rfl rfl ?_
    refine r_icmp_eq (tgt := 21) hK d_X12_takes_13 (by decide) (fun h5 => ?_) (fun h5 => ?_)
    · have hD := if_t hD h5
      refine r_aload_n hK d_X12_takes_21 rfl rfl ?_
      refine r_dup hK d_X12_takes_22 rfl ?_
      refine r_getI hK d_X12_takes_23 fl_RX12_119_11 rfl kd_78 ?_
      refine r_iconst hK d_X12_takes_26 ci_1 ?_
      refine r_iadd hK d_X12_takes_27 ?_
      refine r_putI hK d_X12_takes_28 fl_RX12_119_11 rfl rfl kd_78 ?_
      refine r_ltm hD (fun u6 hD => ?_)
      refine r_iconst hK d_X12_takes_31 ci_1 ?_
      cases hD
      exact r_zret hK (Or.inr rfl) d_X12_takes_32
    · have hD := if_f hD h5
      refine r_junk [true, false] (ls2 := [.ref 78, gs_J]) rfl ?_
      exact T_X12_takes_16 hK   hD
end S_X12_takes
theorem d_X12_isDigit_0 : gd cX12_isDigit 0 (.aload_n 0) 1 1 := ⟨by decide +kernel, rfl⟩
theorem d_X12_isDigit_1 : gd cX12_isDigit 1 (.getfield 119) 3 4 := ⟨by decide +kernel, rfl⟩
theorem d_X12_isDigit_4 : gd cX12_isDigit 4 (.aload_n 0) 1 5 := ⟨by decide +kernel, rfl⟩
theorem d_X12_isDigit_5 : gd cX12_isDigit 5 (.getfield 122) 3 8 := ⟨by decide +kernel, rfl⟩
theorem d_X12_isDigit_8 : gd cX12_isDigit 8 (.if_icmp .ge 45) 3 11 := ⟨by decide +kernel, rfl⟩
theorem d_X12_isDigit_11 : gd cX12_isDigit 11 (.aload_n 0) 1 12 := ⟨by decide +kernel, rfl⟩
theorem d_X12_isDigit_12 : gd cX12_isDigit 12 (.getfield 23) 3 15 := ⟨by decide +kernel, rfl⟩
theorem d_X12_isDigit_15 : gd cX12_isDigit 15 (.aload_n 0) 1 16 := ⟨by decide +kernel, rfl⟩
theorem d_X12_isDigit_16 : gd cX12_isDigit 16 (.getfield 125) 3 19 := ⟨by decide +kernel, rfl⟩
theorem d_X12_isDigit_19 : gd cX12_isDigit 19 (.aload_n 0) 1 20 := ⟨by decide +kernel, rfl⟩
theorem d_X12_isDigit_20 : gd cX12_isDigit 20 (.getfield 119) 3 23 := ⟨by decide +kernel, rfl⟩
theorem d_X12_isDigit_23 : gd cX12_isDigit 23 .iadd 1 24 := ⟨by decide +kernel, rfl⟩
theorem d_X12_isDigit_24 : gd cX12_isDigit 24 .baload 1 25 := ⟨by decide +kernel, rfl⟩
theorem d_X12_isDigit_25 : gd cX12_isDigit 25 (.bipush 48) 2 27 := ⟨by decide +kernel, rfl⟩
theorem d_X12_isDigit_27 : gd cX12_isDigit 27 (.if_icmp .lt 26) 3 30 := ⟨by decide +kernel, rfl⟩
theorem d_X12_isDigit_30 : gd cX12_isDigit 30 (.aload_n 0) 1 31 := ⟨by decide +kernel, rfl⟩
theorem d_X12_isDigit_31 : gd cX12_isDigit 31 (.getfield 23) 3 34 := ⟨by decide +kernel, rfl⟩
theorem d_X12_isDigit_34 : gd cX12_isDigit 34 (.aload_n 0) 1 35 := ⟨by decide +kernel, rfl⟩
theorem d_X12_isDigit_35 : gd cX12_isDigit 35 (.getfield 125) 3 38 := ⟨by decide +kernel, rfl⟩
theorem d_X12_isDigit_38 : gd cX12_isDigit 38 (.aload_n 0) 1 39 := ⟨by decide +kernel, rfl⟩
theorem d_X12_isDigit_39 : gd cX12_isDigit 39 (.getfield 119) 3 42 := ⟨by decide +kernel, rfl⟩
theorem d_X12_isDigit_42 : gd cX12_isDigit 42 .iadd 1 43 := ⟨by decide +kernel, rfl⟩
theorem d_X12_isDigit_43 : gd cX12_isDigit 43 .baload 1 44 := ⟨by decide +kernel, rfl⟩
theorem d_X12_isDigit_44 : gd cX12_isDigit 44 (.bipush 57) 2 46 := ⟨by decide +kernel, rfl⟩
theorem d_X12_isDigit_46 : gd cX12_isDigit 46 (.if_icmp .gt 7) 3 49 := ⟨by decide +kernel, rfl⟩
theorem d_X12_isDigit_49 : gd cX12_isDigit 49 (.iconst 1) 1 50 := ⟨by decide +kernel, rfl⟩
theorem d_X12_isDigit_50 : gd cX12_isDigit 50 (.goto 4) 3 53 := ⟨by decide +kernel, rfl⟩
theorem d_X12_isDigit_53 : gd cX12_isDigit 53 (.iconst 0) 1 54 := ⟨by decide +kernel, rfl⟩
theorem d_X12_isDigit_54 : gd cX12_isDigit 54 .ireturn 1 55 := ⟨by decide +kernel, rfl⟩
def B_X12_isDigit_53   (μ : gs_M) : Option (Int32 × gs_M) :=
  some ((0 : Int32), μ)
def D_X12_isDigit  (μ : gs_M) : Option (Int32 × gs_M) :=
  if (gI μ 78 9) ≤ (gI μ 78 10) then (B_X12_isDigit_53 μ) else (ck (isk ((gI μ 78 5).toNatClampNeg) 21) (ck (inb ((gI μ 78 8) + (gI μ 78 10)) (ln ((gI μ 78 5).toNatClampNeg))) (if (gI μ ((gI μ 78 5).toNatClampNeg) (Int32.toNatClampNeg ((gI μ 78 8) + (gI μ 78 10)))) < (48 : Int32) then (B_X12_isDigit_53 μ) else (ck (isk ((gI μ 78 5).toNatClampNeg) 21) (ck (inb ((gI μ 78 8) + (gI μ 78 10)) (ln ((gI μ 78 5).toNatClampNeg))) (if (57 : Int32) < (gI μ ((gI μ 78 5).toNatClampNeg) (Int32.toNatClampNeg ((gI μ 78 8) + (gI μ 78 10)))) then (B_X12_isDigit_53 μ) else (some ((1 : Int32), μ))))))))
section S_X12_isDigit
variable {p : Program} {l : Launch} {e : Env} {R : Room} {s : State} {m : MethodId} {args : Array Value} {below : List Frame} {meth : Method} {c : Code} {ad : Nat → Nat} {g : va_G} {tyc : Nat → ClassId}
set_option maxRecDepth 20000 in
theorem T_X12_isDigit_53  (hK : KC p R s m args meth c ad g tyc RX12 cX12_isDigit 1 (some .boolean) 0) {r : Int32} {μ2 : gs_M}    {μ : gs_M}  (hD : B_X12_isDigit_53   μ = some (r, μ2)) : WJ p l e R s m args below meth c 0 0 (MQ below (gs_Q ad g tyc (some (.int r)) μ2) args s 0 0 (gs_A ad)) ad g tyc 1 53 [gs_J] [] μ := by
  unfold B_X12_isDigit_53 at hD
  refine r_iconst hK d_X12_isDigit_53 ci_0 ?_
  cases hD
  exact r_zret hK (Or.inl rfl) d_X12_isDigit_54
set_option maxRecDepth 20000 in
theorem C_X12_isDigit   {μ : gs_M} {r : Int32} {μ2 : gs_M}  (hD : D_X12_isDigit  μ = some (r, μ2)) : CALL yX12_isDigit cX12_isDigit 1 (some .boolean) 0 [.ref 78] μ (some (.int r)) μ2 := by
  unfold D_X12_isDigit at hD
  refine gs_enter mf_X12_isDigit (Nat.le_of_ble_eq_true rfl) (ls := [.ref 78]) rfl (fun p l e R s m args below meth c ad g tyc hK => ?_)
  have hK : KC p R s m args meth c ad g tyc RX12 cX12_isDigit 1 (some .boolean) 0 := hK
  refine r_aload_n hK d_X12_isDigit_0 rfl rfl ?_
  refine r_getI hK d_X12_isDigit_1 fl_RX12_119_11 rfl kd_78 ?_
  refine r_aload_n hK d_X12_isDigit_4 rfl rfl ?_
  refine r_getI hK d_X12_isDigit_5 fl_RX12_122_11 rfl kd_78 ?_
  refine r_icmp_ge (tgt := 53) hK d_X12_isDigit_8 (by decide) (fun h1 => ?_) (fun h1 => ?_)
  · have hD := if_t hD h1
    refine r_junk [false] (ls2 := [gs_J]) rfl ?_
    exact T_X12_isDigit_53 hK   hD
  · have hD := if_f hD h1
    refine r_aload_n hK d_X12_isDigit_11 rfl rfl ?_
    obtain ⟨h2, hD⟩ := ck_e hD
    refine r_getM hK d_X12_isDigit_12 fl_RX12_23_11 rfl kd_78 ?_
    refine r_aload_n hK d_X12_isDigit_15 rfl rfl ?_
    refine r_getI hK d_X12_isDigit_16 fl_RX12_125_11 rfl kd_78 ?_
    refine r_aload_n hK d_X12_isDigit_19 rfl rfl ?_
    refine r_getI hK d_X12_isDigit_20 fl_RX12_119_11 rfl kd_78 ?_
    refine r_iadd hK d_X12_isDigit_23 ?_
    obtain ⟨h3, hD⟩ := ck_e hD
    refine r_bald hK d_X12_isDigit_24 (isk_e h2) rfl (inb_in h3) ?_
    refine r_bipush hK d_X12_isDigit_25 cb_48 ?_
    refine r_icmp_lt (tgt := 53) hK d_X12_isDigit_27 (by decide) (fun h4 => ?_) (fun h4 => ?_)
    · have hD := if_t hD h4
      refine r_junk [false] (ls2 := [gs_J]) rfl ?_
      exact T_X12_isDigit_53 hK   hD
    · have hD := if_f hD h4
      refine r_aload_n hK d_X12_isDigit_30 rfl rfl ?_
      obtain ⟨h5, hD⟩ := ck_e hD
      refine r_getM hK d_X12_isDigit_31 fl_RX12_23_11 rfl kd_78 ?_
      refine r_aload_n hK d_X12_isDigit_34 rfl rfl ?_
      refine r_getI hK d_X12_isDigit_35 fl_RX12_125_11 rfl kd_78 ?_
      refine r_aload_n hK d_X12_isDigit_38 rfl rfl ?_
      refine r_getI hK d_X12_isDigit_39 fl_RX12_119_11 rfl kd_78 ?_
      refine r_iadd hK d_X12_isDigit_42 ?_
      obtain ⟨h6, hD⟩ := ck_e hD
      refine r_bald hK d_X12_isDigit_43 (isk_e h5) rfl (inb_in h6) ?_
      refine r_bipush hK d_X12_isDigit_44 cb_57 ?_
      refine r_icmp_gt (tgt := 53) hK d_X12_isDigit_46 (by decide) (fun h7 => ?_) (fun h7 => ?_)
      · have hD := if_t hD h7
        refine r_junk [false] (ls2 := [gs_J]) rfl ?_
        exact T_X12_isDigit_53 hK   hD
      · have hD := if_f hD h7
        refine r_iconst hK d_X12_isDigit_49 ci_1 ?_
        refine r_goto (tgt := 54) hK d_X12_isDigit_50 (by decide) ?_
        cases hD
        exact r_zret hK (Or.inr rfl) d_X12_isDigit_54
end S_X12_isDigit
theorem d_X12_within_0 : gd cX12_within 0 (.ldc2_w 141) 3 3 := ⟨by decide +kernel, rfl⟩
theorem d_X12_within_3 : gd cX12_within 3 (.ldc2_w 143) 3 6 := ⟨by decide +kernel, rfl⟩
theorem d_X12_within_6 : gd cX12_within 6 (.lload_n 0) 1 7 := ⟨by decide +kernel, rfl⟩
theorem d_X12_within_7 : gd cX12_within 7 (.invokestatic 145) 3 10 := ⟨by decide +kernel, rfl⟩
theorem d_X12_within_10 : gd cX12_within 10 (.invokestatic 151) 3 13 := ⟨by decide +kernel, rfl⟩
theorem d_X12_within_13 : gd cX12_within 13 .l2i 1 14 := ⟨by decide +kernel, rfl⟩
theorem d_X12_within_14 : gd cX12_within 14 .ireturn 1 15 := ⟨by decide +kernel, rfl⟩
def D_X12_within (z0 : Int64) (μ : gs_M) : Option (Int32 × gs_M) :=
  lt1 (if z0 < (1000000 : Int64) then z0 else (1000000 : Int64)) (fun v1 => lt1 (if v1 < (-1000000 : Int64) then (-1000000 : Int64) else v1) (fun v2 => some (Int64.toInt32 v2, μ)))
section S_X12_within
variable {p : Program} {l : Launch} {e : Env} {R : Room} {s : State} {m : MethodId} {args : Array Value} {below : List Frame} {meth : Method} {c : Code} {ad : Nat → Nat} {g : va_G} {tyc : Nat → ClassId}
set_option maxRecDepth 20000 in
theorem C_X12_within  {z0 : Int64} {μ : gs_M} {r : Int32} {μ2 : gs_M}  (hD : D_X12_within z0 μ = some (r, μ2)) : CALL yX12_within cX12_within 2 (some .int) 1 [.long z0] μ (some (.int r)) μ2 := by
  unfold D_X12_within at hD
  refine gs_enter mf_X12_within (Nat.le_of_ble_eq_true rfl) (ls := [.long z0, gs_J]) rfl (fun p l e R s m args below meth c ad g tyc hK => ?_)
  have hK : KC p R s m args meth c ad g tyc RX12 cX12_within 2 (some .int) 1 := hK
  refine r_ldc2 hK d_X12_within_0 kl_RX12_141 ?_
  refine r_ldc2 hK d_X12_within_3 kl_RX12_143 ?_
  refine r_lload_n hK d_X12_within_6 rfl rfl ?_
  refine r_mminl hK d_X12_within_7 mm_RX12_145 ms_lmin mi_0 mc_lmin (Nat.le_of_ble_eq_true rfl) (by decide) ⟨Nat.zero_le _, Nat.zero_le _⟩ ?_
  refine r_ltl hD (fun v1 hD => ?_)
  refine r_mmaxl hK d_X12_within_10 mm_RX12_151 ms_lmax mi_0 mc_lmax (Nat.le_of_ble_eq_true rfl) (by decide) ⟨Nat.zero_le _, Nat.zero_le _⟩ ?_
  refine r_ltl hD (fun v2 hD => ?_)
  refine r_l2i hK d_X12_within_13 ?_
  cases hD
  exact r_iret hK d_X12_within_14
end S_X12_within
theorem d_X12_isSign_0 : gd cX12_isSign 0 (.iload_n 0) 1 1 := ⟨by decide +kernel, rfl⟩
theorem d_X12_isSign_1 : gd cX12_isSign 1 (.bipush 61) 2 3 := ⟨by decide +kernel, rfl⟩
theorem d_X12_isSign_3 : gd cX12_isSign 3 (.if_icmp .eq 15) 3 6 := ⟨by decide +kernel, rfl⟩
theorem d_X12_isSign_6 : gd cX12_isSign 6 (.iload_n 0) 1 7 := ⟨by decide +kernel, rfl⟩
theorem d_X12_isSign_7 : gd cX12_isSign 7 (.bipush 60) 2 9 := ⟨by decide +kernel, rfl⟩
theorem d_X12_isSign_9 : gd cX12_isSign 9 (.if_icmp .eq 9) 3 12 := ⟨by decide +kernel, rfl⟩
theorem d_X12_isSign_12 : gd cX12_isSign 12 (.iload_n 0) 1 13 := ⟨by decide +kernel, rfl⟩
theorem d_X12_isSign_13 : gd cX12_isSign 13 (.bipush 62) 2 15 := ⟨by decide +kernel, rfl⟩
theorem d_X12_isSign_15 : gd cX12_isSign 15 (.if_icmp .ne 7) 3 18 := ⟨by decide +kernel, rfl⟩
theorem d_X12_isSign_18 : gd cX12_isSign 18 (.iconst 1) 1 19 := ⟨by decide +kernel, rfl⟩
theorem d_X12_isSign_19 : gd cX12_isSign 19 (.goto 4) 3 22 := ⟨by decide +kernel, rfl⟩
theorem d_X12_isSign_22 : gd cX12_isSign 22 (.iconst 0) 1 23 := ⟨by decide +kernel, rfl⟩
theorem d_X12_isSign_23 : gd cX12_isSign 23 .ireturn 1 24 := ⟨by decide +kernel, rfl⟩
def D_X12_isSign (x0 : Int32) (μ : gs_M) : Option (Int32 × gs_M) :=
  if x0 = (61 : Int32) then (some ((1 : Int32), μ)) else (if x0 = (60 : Int32) then (some ((1 : Int32), μ)) else (if x0 = (62 : Int32) then (some ((1 : Int32), μ)) else (some ((0 : Int32), μ))))
section S_X12_isSign
variable {p : Program} {l : Launch} {e : Env} {R : Room} {s : State} {m : MethodId} {args : Array Value} {below : List Frame} {meth : Method} {c : Code} {ad : Nat → Nat} {g : va_G} {tyc : Nat → ClassId}
set_option maxRecDepth 20000 in
theorem C_X12_isSign  {x0 : Int32} {μ : gs_M} {r : Int32} {μ2 : gs_M}  (hD : D_X12_isSign x0 μ = some (r, μ2)) : CALL yX12_isSign cX12_isSign 1 (some .boolean) 0 [.int x0] μ (some (.int r)) μ2 := by
  unfold D_X12_isSign at hD
  refine gs_enter mf_X12_isSign (Nat.le_of_ble_eq_true rfl) (ls := [.int x0]) rfl (fun p l e R s m args below meth c ad g tyc hK => ?_)
  have hK : KC p R s m args meth c ad g tyc RX12 cX12_isSign 1 (some .boolean) 0 := hK
  refine r_iload_n hK d_X12_isSign_0 rfl rfl ?_
  refine r_bipush hK d_X12_isSign_1 cb_61 ?_
  refine r_icmp_eq (tgt := 18) hK d_X12_isSign_3 (by decide) (fun h1 => ?_) (fun h1 => ?_)
  · have hD := if_t hD h1
    refine r_iconst hK d_X12_isSign_18 ci_1 ?_
    refine r_goto (tgt := 23) hK d_X12_isSign_19 (by decide) ?_
    cases hD
    exact r_zret hK (Or.inr rfl) d_X12_isSign_23
  · have hD := if_f hD h1
    refine r_iload_n hK d_X12_isSign_6 rfl rfl ?_
    refine r_bipush hK d_X12_isSign_7 cb_60 ?_
    refine r_icmp_eq (tgt := 18) hK d_X12_isSign_9 (by decide) (fun h2 => ?_) (fun h2 => ?_)
    · have hD := if_t hD h2
      refine r_iconst hK d_X12_isSign_18 ci_1 ?_
      refine r_goto (tgt := 23) hK d_X12_isSign_19 (by decide) ?_
      cases hD
      exact r_zret hK (Or.inr rfl) d_X12_isSign_23
    · have hD := if_f hD h2
      refine r_iload_n hK d_X12_isSign_12 rfl rfl ?_
      refine r_bipush hK d_X12_isSign_13 cb_62 ?_
      refine r_icmp_ne (tgt := 22) hK d_X12_isSign_15 (by decide) (fun h3 => ?_) (fun h3 => ?_)
      · have hD := if_f hD h3
        refine r_iconst hK d_X12_isSign_22 ci_0 ?_
        cases hD
        exact r_zret hK (Or.inl rfl) d_X12_isSign_23
      · have hD := if_t hD h3
        refine r_iconst hK d_X12_isSign_18 ci_1 ?_
        refine r_goto (tgt := 23) hK d_X12_isSign_19 (by decide) ?_
        cases hD
        exact r_zret hK (Or.inr rfl) d_X12_isSign_23
end S_X12_isSign
theorem d_X12_opens_0 : gd cX12_opens 0 (.aload_n 0) 1 1 := ⟨by decide +kernel, rfl⟩
theorem d_X12_opens_1 : gd cX12_opens 1 (.aload_n 1) 1 2 := ⟨by decide +kernel, rfl⟩
theorem d_X12_opens_2 : gd cX12_opens 2 (.putfield 23) 3 5 := ⟨by decide +kernel, rfl⟩
theorem d_X12_opens_5 : gd cX12_opens 5 (.aload_n 0) 1 6 := ⟨by decide +kernel, rfl⟩
theorem d_X12_opens_6 : gd cX12_opens 6 (.iload_n 2) 1 7 := ⟨by decide +kernel, rfl⟩
theorem d_X12_opens_7 : gd cX12_opens 7 (.putfield 125) 3 10 := ⟨by decide +kernel, rfl⟩
theorem d_X12_opens_10 : gd cX12_opens 10 (.aload_n 0) 1 11 := ⟨by decide +kernel, rfl⟩
theorem d_X12_opens_11 : gd cX12_opens 11 (.iload_n 3) 1 12 := ⟨by decide +kernel, rfl⟩
theorem d_X12_opens_12 : gd cX12_opens 12 (.putfield 122) 3 15 := ⟨by decide +kernel, rfl⟩
theorem d_X12_opens_15 : gd cX12_opens 15 (.aload_n 0) 1 16 := ⟨by decide +kernel, rfl⟩
theorem d_X12_opens_16 : gd cX12_opens 16 (.iconst 0) 1 17 := ⟨by decide +kernel, rfl⟩
theorem d_X12_opens_17 : gd cX12_opens 17 (.putfield 119) 3 20 := ⟨by decide +kernel, rfl⟩
theorem d_X12_opens_20 : gd cX12_opens 20 (.aload_n 0) 1 21 := ⟨by decide +kernel, rfl⟩
theorem d_X12_opens_21 : gd cX12_opens 21 (.iconst (-1)) 1 22 := ⟨by decide +kernel, rfl⟩
theorem d_X12_opens_22 : gd cX12_opens 22 (.putfield 128) 3 25 := ⟨by decide +kernel, rfl⟩
theorem d_X12_opens_25 : gd cX12_opens 25 .return_ 1 26 := ⟨by decide +kernel, rfl⟩
def D_X12_opens (a1 : Nat) (x2 : Int32) (x3 : Int32) (μ : gs_M) : Option (gs_M) :=
  lt1 (sI μ 78 5 (nI a1)) (fun u1 => lt1 (sI u1 78 8 x2) (fun u2 => lt1 (sI u2 78 9 x3) (fun u3 => lt1 (sI u3 78 10 (0 : Int32)) (fun u4 => lt1 (sI u4 78 11 (-1 : Int32)) (fun u5 => some u5)))))
section S_X12_opens
variable {p : Program} {l : Launch} {e : Env} {R : Room} {s : State} {m : MethodId} {args : Array Value} {below : List Frame} {meth : Method} {c : Code} {ad : Nat → Nat} {g : va_G} {tyc : Nat → ClassId}
set_option maxRecDepth 20000 in
theorem C_X12_opens  {a1 : Nat} {x2 : Int32} {x3 : Int32} {μ : gs_M} {μ2 : gs_M} (hk1 : kd a1 = 21) (hD : D_X12_opens a1 x2 x3 μ = some μ2) : CALL yX12_opens cX12_opens 4 none 0 [.ref 78, .ref a1, .int x2, .int x3] μ none μ2 := by
  unfold D_X12_opens at hD
  refine gs_enter mf_X12_opens (Nat.le_of_ble_eq_true rfl) (ls := [.ref 78, .ref a1, .int x2, .int x3]) rfl (fun p l e R s m args below meth c ad g tyc hK => ?_)
  have hK : KC p R s m args meth c ad g tyc RX12 cX12_opens 4 none 0 := hK
  refine r_aload_n hK d_X12_opens_0 rfl rfl ?_
  refine r_aload_n hK d_X12_opens_1 rfl rfl ?_
  refine r_putM hK d_X12_opens_2 fl_RX12_23_11 rfl rfl kd_78 (Nat.lt_of_lt_of_le (kd_lt (by rw [hk1]; decide)) (by decide)) ?_
  refine r_ltm hD (fun u1 hD => ?_)
  refine r_aload_n hK d_X12_opens_5 rfl rfl ?_
  refine r_iload_n hK d_X12_opens_6 rfl rfl ?_
  refine r_putI hK d_X12_opens_7 fl_RX12_125_11 rfl rfl kd_78 ?_
  refine r_ltm hD (fun u2 hD => ?_)
  refine r_aload_n hK d_X12_opens_10 rfl rfl ?_
  refine r_iload_n hK d_X12_opens_11 rfl rfl ?_
  refine r_putI hK d_X12_opens_12 fl_RX12_122_11 rfl rfl kd_78 ?_
  refine r_ltm hD (fun u3 hD => ?_)
  refine r_aload_n hK d_X12_opens_15 rfl rfl ?_
  refine r_iconst hK d_X12_opens_16 ci_0 ?_
  refine r_putI hK d_X12_opens_17 fl_RX12_119_11 rfl rfl kd_78 ?_
  refine r_ltm hD (fun u4 hD => ?_)
  refine r_aload_n hK d_X12_opens_20 rfl rfl ?_
  refine r_iconst hK d_X12_opens_21 ci_m1 ?_
  refine r_putI hK d_X12_opens_22 fl_RX12_128_11 rfl rfl kd_78 ?_
  refine r_ltm hD (fun u5 hD => ?_)
  cases hD
  exact r_vret hK d_X12_opens_25
end S_X12_opens
theorem d_X12_here_0 : gd cX12_here 0 (.aload_n 0) 1 1 := ⟨by decide +kernel, rfl⟩
theorem d_X12_here_1 : gd cX12_here 1 (.getfield 119) 3 4 := ⟨by decide +kernel, rfl⟩
theorem d_X12_here_4 : gd cX12_here 4 (.aload_n 0) 1 5 := ⟨by decide +kernel, rfl⟩
theorem d_X12_here_5 : gd cX12_here 5 (.getfield 122) 3 8 := ⟨by decide +kernel, rfl⟩
theorem d_X12_here_8 : gd cX12_here 8 (.if_icmp .ge 24) 3 11 := ⟨by decide +kernel, rfl⟩
theorem d_X12_here_11 : gd cX12_here 11 (.aload_n 0) 1 12 := ⟨by decide +kernel, rfl⟩
theorem d_X12_here_12 : gd cX12_here 12 (.getfield 23) 3 15 := ⟨by decide +kernel, rfl⟩
theorem d_X12_here_15 : gd cX12_here 15 (.aload_n 0) 1 16 := ⟨by decide +kernel, rfl⟩
theorem d_X12_here_16 : gd cX12_here 16 (.getfield 125) 3 19 := ⟨by decide +kernel, rfl⟩
theorem d_X12_here_19 : gd cX12_here 19 (.aload_n 0) 1 20 := ⟨by decide +kernel, rfl⟩
theorem d_X12_here_20 : gd cX12_here 20 (.getfield 119) 3 23 := ⟨by decide +kernel, rfl⟩
theorem d_X12_here_23 : gd cX12_here 23 .iadd 1 24 := ⟨by decide +kernel, rfl⟩
theorem d_X12_here_24 : gd cX12_here 24 .baload 1 25 := ⟨by decide +kernel, rfl⟩
theorem d_X12_here_25 : gd cX12_here 25 (.sipush 255) 3 28 := ⟨by decide +kernel, rfl⟩
theorem d_X12_here_28 : gd cX12_here 28 .iand 1 29 := ⟨by decide +kernel, rfl⟩
theorem d_X12_here_29 : gd cX12_here 29 (.goto 4) 3 32 := ⟨by decide +kernel, rfl⟩
theorem d_X12_here_32 : gd cX12_here 32 (.iconst (-1)) 1 33 := ⟨by decide +kernel, rfl⟩
theorem d_X12_here_33 : gd cX12_here 33 .ireturn 1 34 := ⟨by decide +kernel, rfl⟩
def D_X12_here  (μ : gs_M) : Option (Int32 × gs_M) :=
  if (gI μ 78 9) ≤ (gI μ 78 10) then (some ((-1 : Int32), μ)) else (ck (isk ((gI μ 78 5).toNatClampNeg) 21) (ck (inb ((gI μ 78 8) + (gI μ 78 10)) (ln ((gI μ 78 5).toNatClampNeg))) (some ((gI μ ((gI μ 78 5).toNatClampNeg) (Int32.toNatClampNeg ((gI μ 78 8) + (gI μ 78 10)))) &&& (255 : Int32), μ))))
section S_X12_here
variable {p : Program} {l : Launch} {e : Env} {R : Room} {s : State} {m : MethodId} {args : Array Value} {below : List Frame} {meth : Method} {c : Code} {ad : Nat → Nat} {g : va_G} {tyc : Nat → ClassId}
set_option maxRecDepth 20000 in
theorem C_X12_here   {μ : gs_M} {r : Int32} {μ2 : gs_M}  (hD : D_X12_here  μ = some (r, μ2)) : CALL yX12_here cX12_here 1 (some .int) 0 [.ref 78] μ (some (.int r)) μ2 := by
  unfold D_X12_here at hD
  refine gs_enter mf_X12_here (Nat.le_of_ble_eq_true rfl) (ls := [.ref 78]) rfl (fun p l e R s m args below meth c ad g tyc hK => ?_)
  have hK : KC p R s m args meth c ad g tyc RX12 cX12_here 1 (some .int) 0 := hK
  refine r_aload_n hK d_X12_here_0 rfl rfl ?_
  refine r_getI hK d_X12_here_1 fl_RX12_119_11 rfl kd_78 ?_
  refine r_aload_n hK d_X12_here_4 rfl rfl ?_
  refine r_getI hK d_X12_here_5 fl_RX12_122_11 rfl kd_78 ?_
  refine r_icmp_ge (tgt := 32) hK d_X12_here_8 (by decide) (fun h1 => ?_) (fun h1 => ?_)
  · have hD := if_t hD h1
    refine r_iconst hK d_X12_here_32 ci_m1 ?_
    cases hD
    exact r_iret hK d_X12_here_33
  · have hD := if_f hD h1
    refine r_aload_n hK d_X12_here_11 rfl rfl ?_
    obtain ⟨h2, hD⟩ := ck_e hD
    refine r_getM hK d_X12_here_12 fl_RX12_23_11 rfl kd_78 ?_
    refine r_aload_n hK d_X12_here_15 rfl rfl ?_
    refine r_getI hK d_X12_here_16 fl_RX12_125_11 rfl kd_78 ?_
    refine r_aload_n hK d_X12_here_19 rfl rfl ?_
    refine r_getI hK d_X12_here_20 fl_RX12_119_11 rfl kd_78 ?_
    refine r_iadd hK d_X12_here_23 ?_
    obtain ⟨h3, hD⟩ := ck_e hD
    refine r_bald hK d_X12_here_24 (isk_e h2) rfl (inb_in h3) ?_
    refine r_sipush hK d_X12_here_25 cs_255 ?_
    refine r_iand hK d_X12_here_28 ?_
    refine r_goto (tgt := 33) hK d_X12_here_29 (by decide) ?_
    cases hD
    exact r_iret hK d_X12_here_33
end S_X12_here
theorem d_X12_number_0 : gd cX12_number 0 (.aload_n 0) 1 1 := ⟨by decide +kernel, rfl⟩
theorem d_X12_number_1 : gd cX12_number 1 (.invokevirtual 138) 3 4 := ⟨by decide +kernel, rfl⟩
theorem d_X12_number_4 : gd cX12_number 4 (.istore_n 3) 1 5 := ⟨by decide +kernel, rfl⟩
theorem d_X12_number_5 : gd cX12_number 5 (.aload_n 0) 1 6 := ⟨by decide +kernel, rfl⟩
theorem d_X12_number_6 : gd cX12_number 6 (.invokevirtual 168) 3 9 := ⟨by decide +kernel, rfl⟩
theorem d_X12_number_9 : gd cX12_number 9 (.ifCond .ne 10) 3 12 := ⟨by decide +kernel, rfl⟩
theorem d_X12_number_12 : gd cX12_number 12 (.aload_n 0) 1 13 := ⟨by decide +kernel, rfl⟩
theorem d_X12_number_13 : gd cX12_number 13 (.invokevirtual 134) 3 16 := ⟨by decide +kernel, rfl⟩
theorem d_X12_number_16 : gd cX12_number 16 .pop 1 17 := ⟨by decide +kernel, rfl⟩
theorem d_X12_number_17 : gd cX12_number 17 (.iconst (-1)) 1 18 := ⟨by decide +kernel, rfl⟩
theorem d_X12_number_18 : gd cX12_number 18 .ireturn 1 19 := ⟨by decide +kernel, rfl⟩
theorem d_X12_number_19 : gd cX12_number 19 (.iconst 0) 1 20 := ⟨by decide +kernel, rfl⟩
theorem d_X12_number_20 : gd cX12_number 20 (.istore 4) 2 22 := ⟨by decide +kernel, rfl⟩
theorem d_X12_number_22 : gd cX12_number 22 (.iconst 0) 1 23 := ⟨by decide +kernel, rfl⟩
theorem d_X12_number_23 : gd cX12_number 23 (.istore 5) 2 25 := ⟨by decide +kernel, rfl⟩
theorem d_X12_number_25 : gd cX12_number 25 (.iload 5) 2 27 := ⟨by decide +kernel, rfl⟩
theorem d_X12_number_27 : gd cX12_number 27 (.iconst 3) 1 28 := ⟨by decide +kernel, rfl⟩
theorem d_X12_number_28 : gd cX12_number 28 (.if_icmp .ge 41) 3 31 := ⟨by decide +kernel, rfl⟩
theorem d_X12_number_31 : gd cX12_number 31 (.aload_n 0) 1 32 := ⟨by decide +kernel, rfl⟩
theorem d_X12_number_32 : gd cX12_number 32 (.invokevirtual 168) 3 35 := ⟨by decide +kernel, rfl⟩
theorem d_X12_number_35 : gd cX12_number 35 (.ifCond .eq 34) 3 38 := ⟨by decide +kernel, rfl⟩
theorem d_X12_number_38 : gd cX12_number 38 (.bipush 10) 2 40 := ⟨by decide +kernel, rfl⟩
theorem d_X12_number_40 : gd cX12_number 40 (.iload 4) 2 42 := ⟨by decide +kernel, rfl⟩
theorem d_X12_number_42 : gd cX12_number 42 .imul 1 43 := ⟨by decide +kernel, rfl⟩
theorem d_X12_number_43 : gd cX12_number 43 (.aload_n 0) 1 44 := ⟨by decide +kernel, rfl⟩
theorem d_X12_number_44 : gd cX12_number 44 (.invokevirtual 214) 3 47 := ⟨by decide +kernel, rfl⟩
theorem d_X12_number_47 : gd cX12_number 47 .iadd 1 48 := ⟨by decide +kernel, rfl⟩
theorem d_X12_number_48 : gd cX12_number 48 (.bipush 48) 2 50 := ⟨by decide +kernel, rfl⟩
theorem d_X12_number_50 : gd cX12_number 50 .isub 1 51 := ⟨by decide +kernel, rfl⟩
theorem d_X12_number_51 : gd cX12_number 51 (.istore 4) 2 53 := ⟨by decide +kernel, rfl⟩
theorem d_X12_number_53 : gd cX12_number 53 (.aload_n 0) 1 54 := ⟨by decide +kernel, rfl⟩
theorem d_X12_number_54 : gd cX12_number 54 .dup 1 55 := ⟨by decide +kernel, rfl⟩
theorem d_X12_number_55 : gd cX12_number 55 (.getfield 119) 3 58 := ⟨by decide +kernel, rfl⟩
theorem d_X12_number_58 : gd cX12_number 58 (.iconst 1) 1 59 := ⟨by decide +kernel, rfl⟩
theorem d_X12_number_59 : gd cX12_number 59 .iadd 1 60 := ⟨by decide +kernel, rfl⟩
theorem d_X12_number_60 : gd cX12_number 60 (.putfield 119) 3 63 := ⟨by decide +kernel, rfl⟩
theorem d_X12_number_63 : gd cX12_number 63 (.iinc 5 1) 3 66 := ⟨by decide +kernel, rfl⟩
theorem d_X12_number_66 : gd cX12_number 66 (.goto (-41)) 3 69 := ⟨by decide +kernel, rfl⟩
theorem d_X12_number_69 : gd cX12_number 69 (.aload_n 0) 1 70 := ⟨by decide +kernel, rfl⟩
theorem d_X12_number_70 : gd cX12_number 70 (.invokevirtual 168) 3 73 := ⟨by decide +kernel, rfl⟩
theorem d_X12_number_73 : gd cX12_number 73 (.ifCond .eq 10) 3 76 := ⟨by decide +kernel, rfl⟩
theorem d_X12_number_76 : gd cX12_number 76 (.aload_n 0) 1 77 := ⟨by decide +kernel, rfl⟩
theorem d_X12_number_77 : gd cX12_number 77 (.invokevirtual 134) 3 80 := ⟨by decide +kernel, rfl⟩
theorem d_X12_number_80 : gd cX12_number 80 .pop 1 81 := ⟨by decide +kernel, rfl⟩
theorem d_X12_number_81 : gd cX12_number 81 (.iconst (-1)) 1 82 := ⟨by decide +kernel, rfl⟩
theorem d_X12_number_82 : gd cX12_number 82 .ireturn 1 83 := ⟨by decide +kernel, rfl⟩
theorem d_X12_number_83 : gd cX12_number 83 (.iload 4) 2 85 := ⟨by decide +kernel, rfl⟩
theorem d_X12_number_85 : gd cX12_number 85 (.iload_n 1) 1 86 := ⟨by decide +kernel, rfl⟩
theorem d_X12_number_86 : gd cX12_number 86 (.iload_n 2) 1 87 := ⟨by decide +kernel, rfl⟩
theorem d_X12_number_87 : gd cX12_number 87 (.invokestatic 217) 3 90 := ⟨by decide +kernel, rfl⟩
theorem d_X12_number_90 : gd cX12_number 90 (.ifCond .ne 20) 3 93 := ⟨by decide +kernel, rfl⟩
theorem d_X12_number_93 : gd cX12_number 93 (.aload_n 0) 1 94 := ⟨by decide +kernel, rfl⟩
theorem d_X12_number_94 : gd cX12_number 94 .dup 1 95 := ⟨by decide +kernel, rfl⟩
theorem d_X12_number_95 : gd cX12_number 95 (.getfield 119) 3 98 := ⟨by decide +kernel, rfl⟩
theorem d_X12_number_98 : gd cX12_number 98 (.iconst 1) 1 99 := ⟨by decide +kernel, rfl⟩
theorem d_X12_number_99 : gd cX12_number 99 .isub 1 100 := ⟨by decide +kernel, rfl⟩
theorem d_X12_number_100 : gd cX12_number 100 (.putfield 119) 3 103 := ⟨by decide +kernel, rfl⟩
theorem d_X12_number_103 : gd cX12_number 103 (.aload_n 0) 1 104 := ⟨by decide +kernel, rfl⟩
theorem d_X12_number_104 : gd cX12_number 104 (.invokevirtual 134) 3 107 := ⟨by decide +kernel, rfl⟩
theorem d_X12_number_107 : gd cX12_number 107 .pop 1 108 := ⟨by decide +kernel, rfl⟩
theorem d_X12_number_108 : gd cX12_number 108 (.iconst (-1)) 1 109 := ⟨by decide +kernel, rfl⟩
theorem d_X12_number_109 : gd cX12_number 109 .ireturn 1 110 := ⟨by decide +kernel, rfl⟩
theorem d_X12_number_110 : gd cX12_number 110 (.iload 4) 2 112 := ⟨by decide +kernel, rfl⟩
theorem d_X12_number_112 : gd cX12_number 112 .ireturn 1 113 := ⟨by decide +kernel, rfl⟩
def B_X12_number_69  (x1 : Int32) (x2 : Int32) (x4 : Int32) (μ : gs_M) : Option (Int32 × gs_M) :=
  bd (D_X12_isDigit μ) (fun v3 u2 => if v3 = 0 then (bd (D_X12_isIn x4 x1 x2 u2) (fun v7 u6 => if v7 = 0 then (lt1 (sI u6 78 10 ((gI u6 78 10) - (1 : Int32))) (fun u9 => bd (D_X12_fails u9) (fun v12 u11 => some ((-1 : Int32), u11)))) else (some (x4, u6)))) else (bd (D_X12_fails u2) (fun v15 u14 => some ((-1 : Int32), u14))))
def Bo_X12_number_25 (q25 : Int32 → Int32 → Int32 → Int32 → gs_M → Option (Int32 × gs_M)) (x1 : Int32) (x2 : Int32) (x4 : Int32) (x5 : Int32) (μ : gs_M) : Option (Int32 × gs_M) :=
  if (3 : Int32) ≤ x5 then (B_X12_number_69 x1 x2 x4 μ) else (bd (D_X12_isDigit μ) (fun v4 u3 => if v4 = 0 then (B_X12_number_69 x1 x2 x4 u3) else (bd (D_X12_here u3) (fun v8 u7 => lt1 ((((10 : Int32) * x4) + v8) - (48 : Int32)) (fun v9 => lt1 (sI u7 78 10 ((gI u7 78 10) + (1 : Int32))) (fun u10 => q25 x1 x2 v9 (x5 + (1 : Int32)) u10))))))
def L_X12_number_25  : Nat → Int32 → Int32 → Int32 → Int32 → gs_M → Option (Int32 × gs_M)
  | 0 => fun _ _ _ _ _ => none
  | n + 1 => fun x1 x2 x4 x5 μ => Bo_X12_number_25  (L_X12_number_25  n) x1 x2 x4 x5 μ
def D_X12_number (x1 : Int32) (x2 : Int32) (μ : gs_M) : Option (Int32 × gs_M) :=
  bd (D_X12_look μ) (fun v3 u2 => bd (D_X12_isDigit u2) (fun v6 u5 => if v6 = 0 then (bd (D_X12_fails u5) (fun v10 u9 => some ((-1 : Int32), u9))) else (L_X12_number_25 4096 x1 x2 (0 : Int32) (0 : Int32) u5)))
section S_X12_number
variable {p : Program} {l : Launch} {e : Env} {R : Room} {s : State} {m : MethodId} {args : Array Value} {below : List Frame} {meth : Method} {c : Code} {ad : Nat → Nat} {g : va_G} {tyc : Nat → ClassId}
set_option maxRecDepth 20000 in
theorem T_X12_number_69  (hK : KC p R s m args meth c ad g tyc RX12 cX12_number 6 (some .int) 1) {r : Int32} {μ2 : gs_M}   {x1 : Int32} {x2 : Int32} {x4 : Int32} {μ : gs_M}  (hD : B_X12_number_69  x1 x2 x4 μ = some (r, μ2)) : WJ p l e R s m args below meth c 0 0 (MQ below (gs_Q ad g tyc (some (.int r)) μ2) args s 0 0 (gs_A ad)) ad g tyc 6 69 [.ref 78, .int x1, .int x2, gs_J, .int x4, gs_J] [] μ := by
  unfold B_X12_number_69 at hD
  refine r_aload_n hK d_X12_number_69 rfl rfl ?_
  obtain ⟨v3, u2, e1, hD⟩ := bd_e hD
  refine r_callV (As := []) (st := []) (stk2 := [.int v3]) hK (C_X12_isDigit  e1) d_X12_number_70 mf_X12_isDigit ml_RX12_168 im_X12_isDigit rfl se_11_RX12_X12_isDigit kd_78 rfl (Nat.le_of_ble_eq_true rfl) (by decide) ⟨Nat.zero_le _, Nat.zero_le _⟩ rfl rfl ?_
  refine r_if_eq (tgt := 83) hK d_X12_number_73 (by decide) (fun h4 => ?_) (fun h4 => ?_)
  · have hD := if_t hD h4
    refine r_iload hK d_X12_number_83 rfl ?_
    refine r_iload_n hK d_X12_number_85 rfl rfl ?_
    refine r_iload_n hK d_X12_number_86 rfl rfl ?_
    obtain ⟨v7, u6, e5, hD⟩ := bd_e hD
    refine r_callS (As := [.int x4, .int x1, .int x2]) (st := []) (stk2 := [.int v7]) hK (C_X12_isIn  e5) d_X12_number_87 mf_X12_isIn ml_RX12_217 ss_X12_isIn rfl (Nat.le_of_ble_eq_true rfl) (by decide) ⟨Nat.zero_le _, Nat.zero_le _⟩ rfl rfl ?_
    refine r_if_ne (tgt := 110) hK d_X12_number_90 (by decide) (fun h8 => ?_) (fun h8 => ?_)
    · have hD := if_f hD h8
      refine r_iload hK d_X12_number_110 rfl ?_
      cases hD
      exact r_iret hK d_X12_number_112
    · have hD := if_t hD h8
      refine r_aload_n hK d_X12_number_93 rfl rfl ?_
      refine r_dup hK d_X12_number_94 rfl ?_
      refine r_getI hK d_X12_number_95 fl_RX12_119_11 rfl kd_78 ?_
      refine r_iconst hK d_X12_number_98 ci_1 ?_
      refine r_isub hK d_X12_number_99 ?_
      refine r_putI hK d_X12_number_100 fl_RX12_119_11 rfl rfl kd_78 ?_
      refine r_ltm hD (fun u9 hD => ?_)
      refine r_aload_n hK d_X12_number_103 rfl rfl ?_
      obtain ⟨v12, u11, e10, hD⟩ := bd_e hD
      refine r_callV (As := []) (st := []) (stk2 := [.int v12]) hK (C_X12_fails  e10) d_X12_number_104 mf_X12_fails ml_RX12_134 im_X12_fails rfl se_11_RX12_X12_fails kd_78 rfl (Nat.le_of_ble_eq_true rfl) (by decide) ⟨Nat.zero_le _, Nat.zero_le _⟩ rfl rfl ?_
      refine r_pop hK d_X12_number_107 rfl ?_
      refine r_iconst hK d_X12_number_108 ci_m1 ?_
      cases hD
      exact r_iret hK d_X12_number_109
  · have hD := if_f hD h4
    refine r_aload_n hK d_X12_number_76 rfl rfl ?_
    obtain ⟨v15, u14, e13, hD⟩ := bd_e hD
    refine r_callV (As := []) (st := []) (stk2 := [.int v15]) hK (C_X12_fails  e13) d_X12_number_77 mf_X12_fails ml_RX12_134 im_X12_fails rfl se_11_RX12_X12_fails kd_78 rfl (Nat.le_of_ble_eq_true rfl) (by decide) ⟨Nat.zero_le _, Nat.zero_le _⟩ rfl rfl ?_
    refine r_pop hK d_X12_number_80 rfl ?_
    refine r_iconst hK d_X12_number_81 ci_m1 ?_
    cases hD
    exact r_iret hK d_X12_number_82
set_option maxRecDepth 20000 in
theorem To_X12_number_25  (hK : KC p R s m args meth c ad g tyc RX12 cX12_number 6 (some .int) 1) {r : Int32} {μ2 : gs_M} {q25 : Int32 → Int32 → Int32 → Int32 → gs_M → Option (Int32 × gs_M)} (hq25 : ∀ (x1 : Int32) (x2 : Int32) (x4 : Int32) (x5 : Int32) (μ : gs_M), q25 x1 x2 x4 x5 μ = some (r, μ2) → WJ p l e R s m args below meth c 0 0 (MQ below (gs_Q ad g tyc (some (.int r)) μ2) args s 0 0 (gs_A ad)) ad g tyc 6 25 [.ref 78, .int x1, .int x2, gs_J, .int x4, .int x5] [] μ) {x1 : Int32} {x2 : Int32} {x4 : Int32} {x5 : Int32} {μ : gs_M}  (hD : Bo_X12_number_25 q25 x1 x2 x4 x5 μ = some (r, μ2)) : WJ p l e R s m args below meth c 0 0 (MQ below (gs_Q ad g tyc (some (.int r)) μ2) args s 0 0 (gs_A ad)) ad g tyc 6 25 [.ref 78, .int x1, .int x2, gs_J, .int x4, .int x5] [] μ := by
  unfold Bo_X12_number_25 at hD
  refine r_iload hK d_X12_number_25 rfl ?_
  refine r_iconst hK d_X12_number_27 ci_3 ?_
  refine r_icmp_ge (tgt := 69) hK d_X12_number_28 (by decide) (fun h1 => ?_) (fun h1 => ?_)
  · have hD := if_t hD h1
    refine r_junk [true, true, true, false, true, false] (ls2 := [.ref 78, .int x1, .int x2, gs_J, .int x4, gs_J]) rfl ?_
    exact T_X12_number_69 hK   hD
  · have hD := if_f hD h1
    refine r_aload_n hK d_X12_number_31 rfl rfl ?_
    obtain ⟨v4, u3, e2, hD⟩ := bd_e hD
    refine r_callV (As := []) (st := []) (stk2 := [.int v4]) hK (C_X12_isDigit  e2) d_X12_number_32 mf_X12_isDigit ml_RX12_168 im_X12_isDigit rfl se_11_RX12_X12_isDigit kd_78 rfl (Nat.le_of_ble_eq_true rfl) (by decide) ⟨Nat.zero_le _, Nat.zero_le _⟩ rfl rfl ?_
    refine r_if_eq (tgt := 69) hK d_X12_number_35 (by decide) (fun h5 => ?_) (fun h5 => ?_)
    · have hD := if_t hD h5
      refine r_junk [true, true, true, false, true, false] (ls2 := [.ref 78, .int x1, .int x2, gs_J, .int x4, gs_J]) rfl ?_
      exact T_X12_number_69 hK   hD
    · have hD := if_f hD h5
      refine r_bipush hK d_X12_number_38 cb_10 ?_
      refine r_iload hK d_X12_number_40 rfl ?_
      refine r_imul hK d_X12_number_42 ?_
      refine r_aload_n hK d_X12_number_43 rfl rfl ?_
      obtain ⟨v8, u7, e6, hD⟩ := bd_e hD
      refine r_callV (As := []) (st := [.int ((10 : Int32) * x4)]) (stk2 := [.int v8, .int ((10 : Int32) * x4)]) hK (C_X12_here  e6) d_X12_number_44 mf_X12_here ml_RX12_214 im_X12_here rfl se_11_RX12_X12_here kd_78 rfl (Nat.le_of_ble_eq_true rfl) (by decide) ⟨Nat.zero_le _, Nat.zero_le _⟩ rfl rfl ?_
      refine r_iadd hK d_X12_number_47 ?_
      refine r_bipush hK d_X12_number_48 cb_48 ?_
      refine r_isub hK d_X12_number_50 ?_
      refine r_lti hD (fun v9 hD => ?_)
      refine r_istore hK d_X12_number_51 (by decide) (ls2 := [.ref 78, .int x1, .int x2, gs_J, .int v9, .int x5]) rfl ?_
      refine r_aload_n hK d_X12_number_53 rfl rfl ?_
      refine r_dup hK d_X12_number_54 rfl ?_
      refine r_getI hK d_X12_number_55 fl_RX12_119_11 rfl kd_78 ?_
      refine r_iconst hK d_X12_number_58 ci_1 ?_
      refine r_iadd hK d_X12_number_59 ?_
      refine r_putI hK d_X12_number_60 fl_RX12_119_11 rfl rfl kd_78 ?_
      refine r_ltm hD (fun u10 hD => ?_)
      refine r_iinc hK d_X12_number_63 rfl (v := x5 + (1 : Int32)) (by rw [ci_1]) (by decide) (ls2 := [.ref 78, .int x1, .int x2, gs_J, .int v9, .int (x5 + (1 : Int32))]) rfl ?_
      refine r_goto (tgt := 25) hK d_X12_number_66 (by decide) ?_
      exact hq25 _ _ _ _ _  hD
set_option maxRecDepth 20000 in
theorem TL_X12_number_25  (hK : KC p R s m args meth c ad g tyc RX12 cX12_number 6 (some .int) 1) {r : Int32} {μ2 : gs_M}   : ∀ (n : Nat) (x1 : Int32) (x2 : Int32) (x4 : Int32) (x5 : Int32) (μ : gs_M), L_X12_number_25  n x1 x2 x4 x5 μ = some (r, μ2) → WJ p l e R s m args below meth c 0 0 (MQ below (gs_Q ad g tyc (some (.int r)) μ2) args s 0 0 (gs_A ad)) ad g tyc 6 25 [.ref 78, .int x1, .int x2, gs_J, .int x4, .int x5] [] μ := by
  intro n
  induction n with
  | zero => intro x1 x2 x4 x5 μ  hD; cases hD
  | succ n ih => intro x1 x2 x4 x5 μ  hD; exact To_X12_number_25 hK  ih  hD
set_option maxRecDepth 20000 in
theorem C_X12_number  {x1 : Int32} {x2 : Int32} {μ : gs_M} {r : Int32} {μ2 : gs_M}  (hD : D_X12_number x1 x2 μ = some (r, μ2)) : CALL yX12_number cX12_number 6 (some .int) 1 [.ref 78, .int x1, .int x2] μ (some (.int r)) μ2 := by
  unfold D_X12_number at hD
  refine gs_enter mf_X12_number (Nat.le_of_ble_eq_true rfl) (ls := [.ref 78, .int x1, .int x2, gs_J, gs_J, gs_J]) rfl (fun p l e R s m args below meth c ad g tyc hK => ?_)
  have hK : KC p R s m args meth c ad g tyc RX12 cX12_number 6 (some .int) 1 := hK
  refine r_aload_n hK d_X12_number_0 rfl rfl ?_
  obtain ⟨v3, u2, e1, hD⟩ := bd_e hD
  refine r_callV (As := []) (st := []) (stk2 := [.int v3]) hK (C_X12_look  e1) d_X12_number_1 mf_X12_look ml_RX12_138 im_X12_look rfl se_11_RX12_X12_look kd_78 rfl (Nat.le_of_ble_eq_true rfl) (by decide) ⟨Nat.zero_le _, Nat.zero_le _⟩ rfl rfl ?_
  refine r_istore_n hK d_X12_number_4 rfl (by decide) (ls2 := [.ref 78, .int x1, .int x2, .int v3, gs_J, gs_J]) rfl ?_
  refine r_aload_n hK d_X12_number_5 rfl rfl ?_
  obtain ⟨v6, u5, e4, hD⟩ := bd_e hD
  refine r_callV (As := []) (st := []) (stk2 := [.int v6]) hK (C_X12_isDigit  e4) d_X12_number_6 mf_X12_isDigit ml_RX12_168 im_X12_isDigit rfl se_11_RX12_X12_isDigit kd_78 rfl (Nat.le_of_ble_eq_true rfl) (by decide) ⟨Nat.zero_le _, Nat.zero_le _⟩ rfl rfl ?_
  refine r_if_ne (tgt := 19) hK d_X12_number_9 (by decide) (fun h7 => ?_) (fun h7 => ?_)
  · have hD := if_f hD h7
    refine r_iconst hK d_X12_number_19 ci_0 ?_
    refine r_istore hK d_X12_number_20 (by decide) (ls2 := [.ref 78, .int x1, .int x2, .int v3, .int (0 : Int32), gs_J]) rfl ?_
    refine r_iconst hK d_X12_number_22 ci_0 ?_
    refine r_istore hK d_X12_number_23 (by decide) (ls2 := [.ref 78, .int x1, .int x2, .int v3, .int (0 : Int32), .int (0 : Int32)]) rfl ?_
    refine r_junk [true, true, true, false, true, true] (ls2 := [.ref 78, .int x1, .int x2, gs_J, .int (0 : Int32), .int (0 : Int32)]) rfl ?_
    exact TL_X12_number_25 hK  _ _ _ _ _ _  hD
  · have hD := if_t hD h7
    refine r_aload_n hK d_X12_number_12 rfl rfl ?_
    obtain ⟨v10, u9, e8, hD⟩ := bd_e hD
    refine r_callV (As := []) (st := []) (stk2 := [.int v10]) hK (C_X12_fails  e8) d_X12_number_13 mf_X12_fails ml_RX12_134 im_X12_fails rfl se_11_RX12_X12_fails kd_78 rfl (Nat.le_of_ble_eq_true rfl) (by decide) ⟨Nat.zero_le _, Nat.zero_le _⟩ rfl rfl ?_
    refine r_pop hK d_X12_number_16 rfl ?_
    refine r_iconst hK d_X12_number_17 ci_m1 ?_
    cases hD
    exact r_iret hK d_X12_number_18
end S_X12_number
theorem d_X12_placeOf_0 : gd cX12_placeOf 0 (.iconst 0) 1 1 := ⟨by decide +kernel, rfl⟩
theorem d_X12_placeOf_1 : gd cX12_placeOf 1 (.istore_n 2) 1 2 := ⟨by decide +kernel, rfl⟩
theorem d_X12_placeOf_2 : gd cX12_placeOf 2 (.iload_n 2) 1 3 := ⟨by decide +kernel, rfl⟩
theorem d_X12_placeOf_3 : gd cX12_placeOf 3 (.aload_n 0) 1 4 := ⟨by decide +kernel, rfl⟩
theorem d_X12_placeOf_4 : gd cX12_placeOf 4 (.invokevirtual 101) 3 7 := ⟨by decide +kernel, rfl⟩
theorem d_X12_placeOf_7 : gd cX12_placeOf 7 (.if_icmp .ge 20) 3 10 := ⟨by decide +kernel, rfl⟩
theorem d_X12_placeOf_10 : gd cX12_placeOf 10 (.aload_n 0) 1 11 := ⟨by decide +kernel, rfl⟩
theorem d_X12_placeOf_11 : gd cX12_placeOf 11 (.iload_n 2) 1 12 := ⟨by decide +kernel, rfl⟩
theorem d_X12_placeOf_12 : gd cX12_placeOf 12 (.invokevirtual 105) 3 15 := ⟨by decide +kernel, rfl⟩
theorem d_X12_placeOf_15 : gd cX12_placeOf 15 (.iload_n 1) 1 16 := ⟨by decide +kernel, rfl⟩
theorem d_X12_placeOf_16 : gd cX12_placeOf 16 (.if_icmp .ne 5) 3 19 := ⟨by decide +kernel, rfl⟩
theorem d_X12_placeOf_19 : gd cX12_placeOf 19 (.iload_n 2) 1 20 := ⟨by decide +kernel, rfl⟩
theorem d_X12_placeOf_20 : gd cX12_placeOf 20 .ireturn 1 21 := ⟨by decide +kernel, rfl⟩
theorem d_X12_placeOf_21 : gd cX12_placeOf 21 (.iinc 2 1) 3 24 := ⟨by decide +kernel, rfl⟩
theorem d_X12_placeOf_24 : gd cX12_placeOf 24 (.goto (-22)) 3 27 := ⟨by decide +kernel, rfl⟩
theorem d_X12_placeOf_27 : gd cX12_placeOf 27 (.iconst (-1)) 1 28 := ⟨by decide +kernel, rfl⟩
theorem d_X12_placeOf_28 : gd cX12_placeOf 28 .ireturn 1 29 := ⟨by decide +kernel, rfl⟩
def Bo_X12_placeOf_2 (q2 : Nat → Int32 → Int32 → gs_M → Option (Int32 × gs_M)) (a0 : Nat) (x1 : Int32) (x2 : Int32) (μ : gs_M) : Option (Int32 × gs_M) :=
  if (nI (gs_sl.getD (a0 - 105) 0)) ≤ x2 then (some ((-1 : Int32), μ)) else (ck (inb x2 (gs_sl.getD (a0 - 105) 0)) (if (cS (a0 - 105) (Int32.toNatClampNeg x2)) = x1 then (some (x2, μ)) else (q2 a0 x1 (x2 + (1 : Int32)) μ)))
def L_X12_placeOf_2  : Nat → Nat → Int32 → Int32 → gs_M → Option (Int32 × gs_M)
  | 0 => fun _ _ _ _ => none
  | n + 1 => fun a0 x1 x2 μ => Bo_X12_placeOf_2  (L_X12_placeOf_2  n) a0 x1 x2 μ
def D_X12_placeOf (a0 : Nat) (x1 : Int32) (μ : gs_M) : Option (Int32 × gs_M) :=
  L_X12_placeOf_2 4096 a0 x1 (0 : Int32) μ
section S_X12_placeOf
variable {p : Program} {l : Launch} {e : Env} {R : Room} {s : State} {m : MethodId} {args : Array Value} {below : List Frame} {meth : Method} {c : Code} {ad : Nat → Nat} {g : va_G} {tyc : Nat → ClassId}
set_option maxRecDepth 20000 in
theorem To_X12_placeOf_2  (hK : KC p R s m args meth c ad g tyc RX12 cX12_placeOf 3 (some .int) 4) {r : Int32} {μ2 : gs_M} {q2 : Nat → Int32 → Int32 → gs_M → Option (Int32 × gs_M)} (hq2 : ∀ (a0 : Nat) (x1 : Int32) (x2 : Int32) (μ : gs_M), 105 ≤ a0 ∧ a0 < 110 → q2 a0 x1 x2 μ = some (r, μ2) → WJ p l e R s m args below meth c 0 0 (MQ below (gs_Q ad g tyc (some (.int r)) μ2) args s 0 0 (gs_A ad)) ad g tyc 3 2 [.ref a0, .int x1, .int x2] [] μ) {a0 : Nat} {x1 : Int32} {x2 : Int32} {μ : gs_M} (hk0 : 105 ≤ a0 ∧ a0 < 110) (hD : Bo_X12_placeOf_2 q2 a0 x1 x2 μ = some (r, μ2)) : WJ p l e R s m args below meth c 0 0 (MQ below (gs_Q ad g tyc (some (.int r)) μ2) args s 0 0 (gs_A ad)) ad g tyc 3 2 [.ref a0, .int x1, .int x2] [] μ := by
  unfold Bo_X12_placeOf_2 at hD
  refine r_iload_n hK d_X12_placeOf_2 rfl rfl ?_
  refine r_aload_n hK d_X12_placeOf_3 rfl rfl ?_
  refine r_slen hK d_X12_placeOf_4 sl_RX12_101 hk0 (Nat.le_of_ble_eq_true rfl) (by decide) ⟨Nat.zero_le _, Nat.zero_le _⟩ ?_
  refine r_icmp_ge (tgt := 27) hK d_X12_placeOf_7 (by decide) (fun h1 => ?_) (fun h1 => ?_)
  · have hD := if_t hD h1
    refine r_iconst hK d_X12_placeOf_27 ci_m1 ?_
    cases hD
    exact r_iret hK d_X12_placeOf_28
  · have hD := if_f hD h1
    refine r_aload_n hK d_X12_placeOf_10 rfl rfl ?_
    refine r_iload_n hK d_X12_placeOf_11 rfl rfl ?_
    obtain ⟨h2, hD⟩ := ck_e hD
    refine r_scat hK d_X12_placeOf_12 sc_RX12_105 hk0 (inb_in h2) (Nat.le_of_ble_eq_true rfl) (by decide) ⟨Nat.zero_le _, Nat.zero_le _⟩ ?_
    refine r_iload_n hK d_X12_placeOf_15 rfl rfl ?_
    refine r_icmp_ne (tgt := 21) hK d_X12_placeOf_16 (by decide) (fun h3 => ?_) (fun h3 => ?_)
    · have hD := if_f hD h3
      refine r_iinc hK d_X12_placeOf_21 rfl (v := x2 + (1 : Int32)) (by rw [ci_1]) (by decide) (ls2 := [.ref a0, .int x1, .int (x2 + (1 : Int32))]) rfl ?_
      refine r_goto (tgt := 2) hK d_X12_placeOf_24 (by decide) ?_
      exact hq2 _ _ _ _ hk0 hD
    · have hD := if_t hD h3
      refine r_iload_n hK d_X12_placeOf_19 rfl rfl ?_
      cases hD
      exact r_iret hK d_X12_placeOf_20
set_option maxRecDepth 20000 in
theorem TL_X12_placeOf_2  (hK : KC p R s m args meth c ad g tyc RX12 cX12_placeOf 3 (some .int) 4) {r : Int32} {μ2 : gs_M}   : ∀ (n : Nat) (a0 : Nat) (x1 : Int32) (x2 : Int32) (μ : gs_M), 105 ≤ a0 ∧ a0 < 110 → L_X12_placeOf_2  n a0 x1 x2 μ = some (r, μ2) → WJ p l e R s m args below meth c 0 0 (MQ below (gs_Q ad g tyc (some (.int r)) μ2) args s 0 0 (gs_A ad)) ad g tyc 3 2 [.ref a0, .int x1, .int x2] [] μ := by
  intro n
  induction n with
  | zero => intro a0 x1 x2 μ hk0 hD; cases hD
  | succ n ih => intro a0 x1 x2 μ hk0 hD; exact To_X12_placeOf_2 hK  ih hk0 hD
set_option maxRecDepth 20000 in
theorem C_X12_placeOf  {a0 : Nat} {x1 : Int32} {μ : gs_M} {r : Int32} {μ2 : gs_M} (hk0 : 105 ≤ a0 ∧ a0 < 110) (hD : D_X12_placeOf a0 x1 μ = some (r, μ2)) : CALL yX12_placeOf cX12_placeOf 3 (some .int) 4 [.ref a0, .int x1] μ (some (.int r)) μ2 := by
  unfold D_X12_placeOf at hD
  refine gs_enter mf_X12_placeOf (Nat.le_of_ble_eq_true rfl) (ls := [.ref a0, .int x1, gs_J]) rfl (fun p l e R s m args below meth c ad g tyc hK => ?_)
  have hK : KC p R s m args meth c ad g tyc RX12 cX12_placeOf 3 (some .int) 4 := hK
  refine r_iconst hK d_X12_placeOf_0 ci_0 ?_
  refine r_istore_n hK d_X12_placeOf_1 rfl (by decide) (ls2 := [.ref a0, .int x1, .int (0 : Int32)]) rfl ?_
  exact TL_X12_placeOf_2 hK  _ _ _ _ _ hk0 hD
end S_X12_placeOf
theorem d_X12_leastOf_0 : gd cX12_leastOf 0 (.iload_n 0) 1 1 := ⟨by decide +kernel, rfl⟩
theorem d_X12_leastOf_1 : gd cX12_leastOf 1 (.bipush 119) 2 3 := ⟨by decide +kernel, rfl⟩
theorem d_X12_leastOf_3 : gd cX12_leastOf 3 (.if_icmp .ne 7) 3 6 := ⟨by decide +kernel, rfl⟩
theorem d_X12_leastOf_6 : gd cX12_leastOf 6 (.iconst 1) 1 7 := ⟨by decide +kernel, rfl⟩
theorem d_X12_leastOf_7 : gd cX12_leastOf 7 (.goto 24) 3 10 := ⟨by decide +kernel, rfl⟩
theorem d_X12_leastOf_10 : gd cX12_leastOf 10 (.iload_n 0) 1 11 := ⟨by decide +kernel, rfl⟩
theorem d_X12_leastOf_11 : gd cX12_leastOf 11 (.bipush 99) 2 13 := ⟨by decide +kernel, rfl⟩
theorem d_X12_leastOf_13 : gd cX12_leastOf 13 (.if_icmp .ne 7) 3 16 := ⟨by decide +kernel, rfl⟩
theorem d_X12_leastOf_16 : gd cX12_leastOf 16 (.iconst 2) 1 17 := ⟨by decide +kernel, rfl⟩
theorem d_X12_leastOf_17 : gd cX12_leastOf 17 (.goto 14) 3 20 := ⟨by decide +kernel, rfl⟩
theorem d_X12_leastOf_20 : gd cX12_leastOf 20 (.iload_n 0) 1 21 := ⟨by decide +kernel, rfl⟩
theorem d_X12_leastOf_21 : gd cX12_leastOf 21 (.bipush 104) 2 23 := ⟨by decide +kernel, rfl⟩
theorem d_X12_leastOf_23 : gd cX12_leastOf 23 (.if_icmp .ne 7) 3 26 := ⟨by decide +kernel, rfl⟩
theorem d_X12_leastOf_26 : gd cX12_leastOf 26 (.iconst 4) 1 27 := ⟨by decide +kernel, rfl⟩
theorem d_X12_leastOf_27 : gd cX12_leastOf 27 (.goto 4) 3 30 := ⟨by decide +kernel, rfl⟩
theorem d_X12_leastOf_30 : gd cX12_leastOf 30 (.iconst 0) 1 31 := ⟨by decide +kernel, rfl⟩
theorem d_X12_leastOf_31 : gd cX12_leastOf 31 .ireturn 1 32 := ⟨by decide +kernel, rfl⟩
def D_X12_leastOf (x0 : Int32) (μ : gs_M) : Option (Int32 × gs_M) :=
  if x0 = (119 : Int32) then (some ((1 : Int32), μ)) else (if x0 = (99 : Int32) then (some ((2 : Int32), μ)) else (if x0 = (104 : Int32) then (some ((4 : Int32), μ)) else (some ((0 : Int32), μ))))
section S_X12_leastOf
variable {p : Program} {l : Launch} {e : Env} {R : Room} {s : State} {m : MethodId} {args : Array Value} {below : List Frame} {meth : Method} {c : Code} {ad : Nat → Nat} {g : va_G} {tyc : Nat → ClassId}
set_option maxRecDepth 20000 in
theorem C_X12_leastOf  {x0 : Int32} {μ : gs_M} {r : Int32} {μ2 : gs_M}  (hD : D_X12_leastOf x0 μ = some (r, μ2)) : CALL yX12_leastOf cX12_leastOf 1 (some .int) 0 [.int x0] μ (some (.int r)) μ2 := by
  unfold D_X12_leastOf at hD
  refine gs_enter mf_X12_leastOf (Nat.le_of_ble_eq_true rfl) (ls := [.int x0]) rfl (fun p l e R s m args below meth c ad g tyc hK => ?_)
  have hK : KC p R s m args meth c ad g tyc RX12 cX12_leastOf 1 (some .int) 0 := hK
  refine r_iload_n hK d_X12_leastOf_0 rfl rfl ?_
  refine r_bipush hK d_X12_leastOf_1 cb_119 ?_
  refine r_icmp_ne (tgt := 10) hK d_X12_leastOf_3 (by decide) (fun h1 => ?_) (fun h1 => ?_)
  · have hD := if_f hD h1
    refine r_iload_n hK d_X12_leastOf_10 rfl rfl ?_
    refine r_bipush hK d_X12_leastOf_11 cb_99 ?_
    refine r_icmp_ne (tgt := 20) hK d_X12_leastOf_13 (by decide) (fun h2 => ?_) (fun h2 => ?_)
    · have hD := if_f hD h2
      refine r_iload_n hK d_X12_leastOf_20 rfl rfl ?_
      refine r_bipush hK d_X12_leastOf_21 cb_104 ?_
      refine r_icmp_ne (tgt := 30) hK d_X12_leastOf_23 (by decide) (fun h3 => ?_) (fun h3 => ?_)
      · have hD := if_f hD h3
        refine r_iconst hK d_X12_leastOf_30 ci_0 ?_
        cases hD
        exact r_iret hK d_X12_leastOf_31
      · have hD := if_t hD h3
        refine r_iconst hK d_X12_leastOf_26 ci_4 ?_
        refine r_goto (tgt := 31) hK d_X12_leastOf_27 (by decide) ?_
        cases hD
        exact r_iret hK d_X12_leastOf_31
    · have hD := if_t hD h2
      refine r_iconst hK d_X12_leastOf_16 ci_2 ?_
      refine r_goto (tgt := 31) hK d_X12_leastOf_17 (by decide) ?_
      cases hD
      exact r_iret hK d_X12_leastOf_31
  · have hD := if_t hD h1
    refine r_iconst hK d_X12_leastOf_6 ci_1 ?_
    refine r_goto (tgt := 31) hK d_X12_leastOf_7 (by decide) ?_
    cases hD
    exact r_iret hK d_X12_leastOf_31
end S_X12_leastOf
theorem d_X12_mostOf_0 : gd cX12_mostOf 0 (.iload_n 0) 1 1 := ⟨by decide +kernel, rfl⟩
theorem d_X12_mostOf_1 : gd cX12_mostOf 1 (.tableswitch 130 98 119 #[119, 116, 130, 130, 124, 122, 119, 130, 130, 130, 109, 106, 130, 130, 130, 130, 103, 106, 128, 130, 130, 113]) 103 104 := ⟨by decide +kernel, rfl⟩
theorem d_X12_mostOf_104 : gd cX12_mostOf 104 (.bipush 20) 2 106 := ⟨by decide +kernel, rfl⟩
theorem d_X12_mostOf_106 : gd cX12_mostOf 106 .ireturn 1 107 := ⟨by decide +kernel, rfl⟩
theorem d_X12_mostOf_107 : gd cX12_mostOf 107 (.bipush 30) 2 109 := ⟨by decide +kernel, rfl⟩
theorem d_X12_mostOf_109 : gd cX12_mostOf 109 .ireturn 1 110 := ⟨by decide +kernel, rfl⟩
theorem d_X12_mostOf_110 : gd cX12_mostOf 110 (.sipush 999) 3 113 := ⟨by decide +kernel, rfl⟩
theorem d_X12_mostOf_113 : gd cX12_mostOf 113 .ireturn 1 114 := ⟨by decide +kernel, rfl⟩
theorem d_X12_mostOf_114 : gd cX12_mostOf 114 (.bipush 9) 2 116 := ⟨by decide +kernel, rfl⟩
theorem d_X12_mostOf_116 : gd cX12_mostOf 116 .ireturn 1 117 := ⟨by decide +kernel, rfl⟩
theorem d_X12_mostOf_117 : gd cX12_mostOf 117 (.bipush 12) 2 119 := ⟨by decide +kernel, rfl⟩
theorem d_X12_mostOf_119 : gd cX12_mostOf 119 .ireturn 1 120 := ⟨by decide +kernel, rfl⟩
theorem d_X12_mostOf_120 : gd cX12_mostOf 120 (.bipush 40) 2 122 := ⟨by decide +kernel, rfl⟩
theorem d_X12_mostOf_122 : gd cX12_mostOf 122 .ireturn 1 123 := ⟨by decide +kernel, rfl⟩
theorem d_X12_mostOf_123 : gd cX12_mostOf 123 (.iconst 5) 1 124 := ⟨by decide +kernel, rfl⟩
theorem d_X12_mostOf_124 : gd cX12_mostOf 124 .ireturn 1 125 := ⟨by decide +kernel, rfl⟩
theorem d_X12_mostOf_125 : gd cX12_mostOf 125 (.sipush 480) 3 128 := ⟨by decide +kernel, rfl⟩
theorem d_X12_mostOf_128 : gd cX12_mostOf 128 .ireturn 1 129 := ⟨by decide +kernel, rfl⟩
theorem d_X12_mostOf_129 : gd cX12_mostOf 129 (.iconst 1) 1 130 := ⟨by decide +kernel, rfl⟩
theorem d_X12_mostOf_130 : gd cX12_mostOf 130 .ireturn 1 131 := ⟨by decide +kernel, rfl⟩
theorem d_X12_mostOf_131 : gd cX12_mostOf 131 (.iconst 3) 1 132 := ⟨by decide +kernel, rfl⟩
theorem d_X12_mostOf_132 : gd cX12_mostOf 132 .ireturn 1 133 := ⟨by decide +kernel, rfl⟩
def D_X12_mostOf (x0 : Int32) (μ : gs_M) : Option (Int32 × gs_M) :=
  lt1 x0 (fun v1 => if v1 = (98 : Int32) then (some ((40 : Int32), μ)) else (if v1 = (99 : Int32) then (some ((12 : Int32), μ)) else (if v1 = (102 : Int32) then (some ((480 : Int32), μ)) else (if v1 = (103 : Int32) then (some ((5 : Int32), μ)) else (if v1 = (104 : Int32) then (some ((40 : Int32), μ)) else (if v1 = (108 : Int32) then (some ((999 : Int32), μ)) else (if v1 = (109 : Int32) then (some ((30 : Int32), μ)) else (if v1 = (114 : Int32) then (some ((20 : Int32), μ)) else (if v1 = (115 : Int32) then (some ((30 : Int32), μ)) else (if v1 = (116 : Int32) then (some ((1 : Int32), μ)) else (if v1 = (119 : Int32) then (some ((9 : Int32), μ)) else (some ((3 : Int32), μ)))))))))))))
section S_X12_mostOf
variable {p : Program} {l : Launch} {e : Env} {R : Room} {s : State} {m : MethodId} {args : Array Value} {below : List Frame} {meth : Method} {c : Code} {ad : Nat → Nat} {g : va_G} {tyc : Nat → ClassId}
set_option maxRecDepth 20000 in
theorem C_X12_mostOf  {x0 : Int32} {μ : gs_M} {r : Int32} {μ2 : gs_M}  (hD : D_X12_mostOf x0 μ = some (r, μ2)) : CALL yX12_mostOf cX12_mostOf 1 (some .int) 0 [.int x0] μ (some (.int r)) μ2 := by
  unfold D_X12_mostOf at hD
  refine gs_enter mf_X12_mostOf (Nat.le_of_ble_eq_true rfl) (ls := [.int x0]) rfl (fun p l e R s m args below meth c ad g tyc hK => ?_)
  have hK : KC p R s m args meth c ad g tyc RX12 cX12_mostOf 1 (some .int) 0 := hK
  refine r_iload_n hK d_X12_mostOf_0 rfl rfl ?_
  refine r_lti hD (fun v1 hD => ?_)
  by_cases h2 : v1 = (98 : Int32)
  · subst h2
    have hD := if_t hD rfl
    refine r_tableIn (off := 119) (tgt := 120) hK d_X12_mostOf_1 (by decide) (by decide) (by decide) (by decide) ?_
    refine r_bipush hK d_X12_mostOf_120 cb_40 ?_
    cases hD
    exact r_iret hK d_X12_mostOf_122
  have hD := if_f hD h2
  by_cases h3 : v1 = (99 : Int32)
  · subst h3
    have hD := if_t hD rfl
    refine r_tableIn (off := 116) (tgt := 117) hK d_X12_mostOf_1 (by decide) (by decide) (by decide) (by decide) ?_
    refine r_bipush hK d_X12_mostOf_117 cb_12 ?_
    cases hD
    exact r_iret hK d_X12_mostOf_119
  have hD := if_f hD h3
  by_cases h4 : v1 = (102 : Int32)
  · subst h4
    have hD := if_t hD rfl
    refine r_tableIn (off := 124) (tgt := 125) hK d_X12_mostOf_1 (by decide) (by decide) (by decide) (by decide) ?_
    refine r_sipush hK d_X12_mostOf_125 cs_480 ?_
    cases hD
    exact r_iret hK d_X12_mostOf_128
  have hD := if_f hD h4
  by_cases h5 : v1 = (103 : Int32)
  · subst h5
    have hD := if_t hD rfl
    refine r_tableIn (off := 122) (tgt := 123) hK d_X12_mostOf_1 (by decide) (by decide) (by decide) (by decide) ?_
    refine r_iconst hK d_X12_mostOf_123 ci_5 ?_
    cases hD
    exact r_iret hK d_X12_mostOf_124
  have hD := if_f hD h5
  by_cases h6 : v1 = (104 : Int32)
  · subst h6
    have hD := if_t hD rfl
    refine r_tableIn (off := 119) (tgt := 120) hK d_X12_mostOf_1 (by decide) (by decide) (by decide) (by decide) ?_
    refine r_bipush hK d_X12_mostOf_120 cb_40 ?_
    cases hD
    exact r_iret hK d_X12_mostOf_122
  have hD := if_f hD h6
  by_cases h7 : v1 = (108 : Int32)
  · subst h7
    have hD := if_t hD rfl
    refine r_tableIn (off := 109) (tgt := 110) hK d_X12_mostOf_1 (by decide) (by decide) (by decide) (by decide) ?_
    refine r_sipush hK d_X12_mostOf_110 cs_999 ?_
    cases hD
    exact r_iret hK d_X12_mostOf_113
  have hD := if_f hD h7
  by_cases h8 : v1 = (109 : Int32)
  · subst h8
    have hD := if_t hD rfl
    refine r_tableIn (off := 106) (tgt := 107) hK d_X12_mostOf_1 (by decide) (by decide) (by decide) (by decide) ?_
    refine r_bipush hK d_X12_mostOf_107 cb_30 ?_
    cases hD
    exact r_iret hK d_X12_mostOf_109
  have hD := if_f hD h8
  by_cases h9 : v1 = (114 : Int32)
  · subst h9
    have hD := if_t hD rfl
    refine r_tableIn (off := 103) (tgt := 104) hK d_X12_mostOf_1 (by decide) (by decide) (by decide) (by decide) ?_
    refine r_bipush hK d_X12_mostOf_104 cb_20 ?_
    cases hD
    exact r_iret hK d_X12_mostOf_106
  have hD := if_f hD h9
  by_cases h10 : v1 = (115 : Int32)
  · subst h10
    have hD := if_t hD rfl
    refine r_tableIn (off := 106) (tgt := 107) hK d_X12_mostOf_1 (by decide) (by decide) (by decide) (by decide) ?_
    refine r_bipush hK d_X12_mostOf_107 cb_30 ?_
    cases hD
    exact r_iret hK d_X12_mostOf_109
  have hD := if_f hD h10
  by_cases h11 : v1 = (116 : Int32)
  · subst h11
    have hD := if_t hD rfl
    refine r_tableIn (off := 128) (tgt := 129) hK d_X12_mostOf_1 (by decide) (by decide) (by decide) (by decide) ?_
    refine r_iconst hK d_X12_mostOf_129 ci_1 ?_
    cases hD
    exact r_iret hK d_X12_mostOf_130
  have hD := if_f hD h11
  by_cases h12 : v1 = (119 : Int32)
  · subst h12
    have hD := if_t hD rfl
    refine r_tableIn (off := 113) (tgt := 114) hK d_X12_mostOf_1 (by decide) (by decide) (by decide) (by decide) ?_
    refine r_bipush hK d_X12_mostOf_114 cb_9 ?_
    cases hD
    exact r_iret hK d_X12_mostOf_116
  have hD := if_f hD h12
  by_cases h13 : v1 = (100 : Int32)
  · subst h13
    refine r_tableIn (off := 130) (tgt := 131) hK d_X12_mostOf_1 (by decide) (by decide) (by decide) (by decide) ?_
    refine r_iconst hK d_X12_mostOf_131 ci_3 ?_
    cases hD
    exact r_iret hK d_X12_mostOf_132
  by_cases h14 : v1 = (101 : Int32)
  · subst h14
    refine r_tableIn (off := 130) (tgt := 131) hK d_X12_mostOf_1 (by decide) (by decide) (by decide) (by decide) ?_
    refine r_iconst hK d_X12_mostOf_131 ci_3 ?_
    cases hD
    exact r_iret hK d_X12_mostOf_132
  by_cases h15 : v1 = (105 : Int32)
  · subst h15
    refine r_tableIn (off := 130) (tgt := 131) hK d_X12_mostOf_1 (by decide) (by decide) (by decide) (by decide) ?_
    refine r_iconst hK d_X12_mostOf_131 ci_3 ?_
    cases hD
    exact r_iret hK d_X12_mostOf_132
  by_cases h16 : v1 = (106 : Int32)
  · subst h16
    refine r_tableIn (off := 130) (tgt := 131) hK d_X12_mostOf_1 (by decide) (by decide) (by decide) (by decide) ?_
    refine r_iconst hK d_X12_mostOf_131 ci_3 ?_
    cases hD
    exact r_iret hK d_X12_mostOf_132
  by_cases h17 : v1 = (107 : Int32)
  · subst h17
    refine r_tableIn (off := 130) (tgt := 131) hK d_X12_mostOf_1 (by decide) (by decide) (by decide) (by decide) ?_
    refine r_iconst hK d_X12_mostOf_131 ci_3 ?_
    cases hD
    exact r_iret hK d_X12_mostOf_132
  by_cases h18 : v1 = (110 : Int32)
  · subst h18
    refine r_tableIn (off := 130) (tgt := 131) hK d_X12_mostOf_1 (by decide) (by decide) (by decide) (by decide) ?_
    refine r_iconst hK d_X12_mostOf_131 ci_3 ?_
    cases hD
    exact r_iret hK d_X12_mostOf_132
  by_cases h19 : v1 = (111 : Int32)
  · subst h19
    refine r_tableIn (off := 130) (tgt := 131) hK d_X12_mostOf_1 (by decide) (by decide) (by decide) (by decide) ?_
    refine r_iconst hK d_X12_mostOf_131 ci_3 ?_
    cases hD
    exact r_iret hK d_X12_mostOf_132
  by_cases h20 : v1 = (112 : Int32)
  · subst h20
    refine r_tableIn (off := 130) (tgt := 131) hK d_X12_mostOf_1 (by decide) (by decide) (by decide) (by decide) ?_
    refine r_iconst hK d_X12_mostOf_131 ci_3 ?_
    cases hD
    exact r_iret hK d_X12_mostOf_132
  by_cases h21 : v1 = (113 : Int32)
  · subst h21
    refine r_tableIn (off := 130) (tgt := 131) hK d_X12_mostOf_1 (by decide) (by decide) (by decide) (by decide) ?_
    refine r_iconst hK d_X12_mostOf_131 ci_3 ?_
    cases hD
    exact r_iret hK d_X12_mostOf_132
  by_cases h22 : v1 = (117 : Int32)
  · subst h22
    refine r_tableIn (off := 130) (tgt := 131) hK d_X12_mostOf_1 (by decide) (by decide) (by decide) (by decide) ?_
    refine r_iconst hK d_X12_mostOf_131 ci_3 ?_
    cases hD
    exact r_iret hK d_X12_mostOf_132
  by_cases h23 : v1 = (118 : Int32)
  · subst h23
    refine r_tableIn (off := 130) (tgt := 131) hK d_X12_mostOf_1 (by decide) (by decide) (by decide) (by decide) ?_
    refine r_iconst hK d_X12_mostOf_131 ci_3 ?_
    cases hD
    exact r_iret hK d_X12_mostOf_132
  refine r_tableOut (tgt := 131) hK d_X12_mostOf_1 (sw_out (fun k q1 q2 => by rcases (show k = 98 ∨ k = 99 ∨ k = 100 ∨ k = 101 ∨ k = 102 ∨ k = 103 ∨ k = 104 ∨ k = 105 ∨ k = 106 ∨ k = 107 ∨ k = 108 ∨ k = 109 ∨ k = 110 ∨ k = 111 ∨ k = 112 ∨ k = 113 ∨ k = 114 ∨ k = 115 ∨ k = 116 ∨ k = 117 ∨ k = 118 ∨ k = 119 by omega) with rfl | rfl | rfl | rfl | rfl | rfl | rfl | rfl | rfl | rfl | rfl | rfl | rfl | rfl | rfl | rfl | rfl | rfl | rfl | rfl | rfl | rfl <;> assumption)) (by decide) ?_
  refine r_iconst hK d_X12_mostOf_131 ci_3 ?_
  cases hD
  exact r_iret hK d_X12_mostOf_132
end S_X12_mostOf
theorem d_X12_usual_0 : gd cX12_usual 0 (.iload_n 0) 1 1 := ⟨by decide +kernel, rfl⟩
theorem d_X12_usual_1 : gd cX12_usual 1 (.lookupswitch 66 #[(99, 60), (104, 63), (108, 54), (114, 51), (119, 58)]) 51 52 := ⟨by decide +kernel, rfl⟩
theorem d_X12_usual_52 : gd cX12_usual 52 (.bipush 6) 2 54 := ⟨by decide +kernel, rfl⟩
theorem d_X12_usual_54 : gd cX12_usual 54 .ireturn 1 55 := ⟨by decide +kernel, rfl⟩
theorem d_X12_usual_55 : gd cX12_usual 55 (.sipush 500) 3 58 := ⟨by decide +kernel, rfl⟩
theorem d_X12_usual_58 : gd cX12_usual 58 .ireturn 1 59 := ⟨by decide +kernel, rfl⟩
theorem d_X12_usual_59 : gd cX12_usual 59 (.iconst 2) 1 60 := ⟨by decide +kernel, rfl⟩
theorem d_X12_usual_60 : gd cX12_usual 60 .ireturn 1 61 := ⟨by decide +kernel, rfl⟩
theorem d_X12_usual_61 : gd cX12_usual 61 (.bipush 8) 2 63 := ⟨by decide +kernel, rfl⟩
theorem d_X12_usual_63 : gd cX12_usual 63 .ireturn 1 64 := ⟨by decide +kernel, rfl⟩
theorem d_X12_usual_64 : gd cX12_usual 64 (.bipush 20) 2 66 := ⟨by decide +kernel, rfl⟩
theorem d_X12_usual_66 : gd cX12_usual 66 .ireturn 1 67 := ⟨by decide +kernel, rfl⟩
theorem d_X12_usual_67 : gd cX12_usual 67 (.iconst 0) 1 68 := ⟨by decide +kernel, rfl⟩
theorem d_X12_usual_68 : gd cX12_usual 68 .ireturn 1 69 := ⟨by decide +kernel, rfl⟩
def D_X12_usual (x0 : Int32) (μ : gs_M) : Option (Int32 × gs_M) :=
  lt1 x0 (fun v1 => if v1 = (99 : Int32) then (some ((8 : Int32), μ)) else (if v1 = (104 : Int32) then (some ((20 : Int32), μ)) else (if v1 = (108 : Int32) then (some ((500 : Int32), μ)) else (if v1 = (114 : Int32) then (some ((6 : Int32), μ)) else (if v1 = (119 : Int32) then (some ((2 : Int32), μ)) else (some ((0 : Int32), μ)))))))
section S_X12_usual
variable {p : Program} {l : Launch} {e : Env} {R : Room} {s : State} {m : MethodId} {args : Array Value} {below : List Frame} {meth : Method} {c : Code} {ad : Nat → Nat} {g : va_G} {tyc : Nat → ClassId}
set_option maxRecDepth 20000 in
theorem C_X12_usual  {x0 : Int32} {μ : gs_M} {r : Int32} {μ2 : gs_M}  (hD : D_X12_usual x0 μ = some (r, μ2)) : CALL yX12_usual cX12_usual 1 (some .int) 0 [.int x0] μ (some (.int r)) μ2 := by
  unfold D_X12_usual at hD
  refine gs_enter mf_X12_usual (Nat.le_of_ble_eq_true rfl) (ls := [.int x0]) rfl (fun p l e R s m args below meth c ad g tyc hK => ?_)
  have hK : KC p R s m args meth c ad g tyc RX12 cX12_usual 1 (some .int) 0 := hK
  refine r_iload_n hK d_X12_usual_0 rfl rfl ?_
  refine r_lti hD (fun v1 hD => ?_)
  by_cases h2 : v1 = (99 : Int32)
  · subst h2
    have hD := if_t hD rfl
    refine r_lookup (off := 60) (tgt := 61) hK d_X12_usual_1 (by decide) (by decide) (by decide) ?_
    refine r_bipush hK d_X12_usual_61 cb_8 ?_
    cases hD
    exact r_iret hK d_X12_usual_63
  have hD := if_f hD h2
  by_cases h3 : v1 = (104 : Int32)
  · subst h3
    have hD := if_t hD rfl
    refine r_lookup (off := 63) (tgt := 64) hK d_X12_usual_1 (by decide) (by decide) (by decide) ?_
    refine r_bipush hK d_X12_usual_64 cb_20 ?_
    cases hD
    exact r_iret hK d_X12_usual_66
  have hD := if_f hD h3
  by_cases h4 : v1 = (108 : Int32)
  · subst h4
    have hD := if_t hD rfl
    refine r_lookup (off := 54) (tgt := 55) hK d_X12_usual_1 (by decide) (by decide) (by decide) ?_
    refine r_sipush hK d_X12_usual_55 cs_500 ?_
    cases hD
    exact r_iret hK d_X12_usual_58
  have hD := if_f hD h4
  by_cases h5 : v1 = (114 : Int32)
  · subst h5
    have hD := if_t hD rfl
    refine r_lookup (off := 51) (tgt := 52) hK d_X12_usual_1 (by decide) (by decide) (by decide) ?_
    refine r_bipush hK d_X12_usual_52 cb_6 ?_
    cases hD
    exact r_iret hK d_X12_usual_54
  have hD := if_f hD h5
  by_cases h6 : v1 = (119 : Int32)
  · subst h6
    have hD := if_t hD rfl
    refine r_lookup (off := 58) (tgt := 59) hK d_X12_usual_1 (by decide) (by decide) (by decide) ?_
    refine r_iconst hK d_X12_usual_59 ci_2 ?_
    cases hD
    exact r_iret hK d_X12_usual_60
  have hD := if_f hD h6
  refine r_lookup (off := 66) (tgt := 67) hK d_X12_usual_1 (by decide) (lk_out _ (fun q hq => by rcases (show q = 99 ∨ q = 104 ∨ q = 108 ∨ q = 114 ∨ q = 119 by simpa using hq) with rfl | rfl | rfl | rfl | rfl <;> assumption)) (by decide) ?_
  refine r_iconst hK d_X12_usual_67 ci_0 ?_
  cases hD
  exact r_iret hK d_X12_usual_68
end S_X12_usual
theorem d_X12_readItems_0 : gd cX12_readItems 0 (.aload_n 0) 1 1 := ⟨by decide +kernel, rfl⟩
theorem d_X12_readItems_1 : gd cX12_readItems 1 (.getfield 60) 3 4 := ⟨by decide +kernel, rfl⟩
theorem d_X12_readItems_4 : gd cX12_readItems 4 (.iload_n 1) 1 5 := ⟨by decide +kernel, rfl⟩
theorem d_X12_readItems_5 : gd cX12_readItems 5 .aaload 1 6 := ⟨by decide +kernel, rfl⟩
theorem d_X12_readItems_6 : gd cX12_readItems 6 (.astore 4) 2 8 := ⟨by decide +kernel, rfl⟩
theorem d_X12_readItems_8 : gd cX12_readItems 8 (.iconst 0) 1 9 := ⟨by decide +kernel, rfl⟩
theorem d_X12_readItems_9 : gd cX12_readItems 9 (.istore 5) 2 11 := ⟨by decide +kernel, rfl⟩
theorem d_X12_readItems_11 : gd cX12_readItems 11 (.iload 5) 2 13 := ⟨by decide +kernel, rfl⟩
theorem d_X12_readItems_13 : gd cX12_readItems 13 (.aload 4) 2 15 := ⟨by decide +kernel, rfl⟩
theorem d_X12_readItems_15 : gd cX12_readItems 15 (.invokevirtual 101) 3 18 := ⟨by decide +kernel, rfl⟩
theorem d_X12_readItems_18 : gd cX12_readItems 18 (.if_icmp .ge 25) 3 21 := ⟨by decide +kernel, rfl⟩
theorem d_X12_readItems_21 : gd cX12_readItems 21 (.aload_n 2) 1 22 := ⟨by decide +kernel, rfl⟩
theorem d_X12_readItems_22 : gd cX12_readItems 22 (.iload_n 3) 1 23 := ⟨by decide +kernel, rfl⟩
theorem d_X12_readItems_23 : gd cX12_readItems 23 (.iload 5) 2 25 := ⟨by decide +kernel, rfl⟩
theorem d_X12_readItems_25 : gd cX12_readItems 25 .iadd 1 26 := ⟨by decide +kernel, rfl⟩
theorem d_X12_readItems_26 : gd cX12_readItems 26 (.aload 4) 2 28 := ⟨by decide +kernel, rfl⟩
theorem d_X12_readItems_28 : gd cX12_readItems 28 (.iload 5) 2 30 := ⟨by decide +kernel, rfl⟩
theorem d_X12_readItems_30 : gd cX12_readItems 30 (.invokevirtual 105) 3 33 := ⟨by decide +kernel, rfl⟩
theorem d_X12_readItems_33 : gd cX12_readItems 33 (.invokestatic 221) 3 36 := ⟨by decide +kernel, rfl⟩
theorem d_X12_readItems_36 : gd cX12_readItems 36 .iastore 1 37 := ⟨by decide +kernel, rfl⟩
theorem d_X12_readItems_37 : gd cX12_readItems 37 (.iinc 5 1) 3 40 := ⟨by decide +kernel, rfl⟩
theorem d_X12_readItems_40 : gd cX12_readItems 40 (.goto (-29)) 3 43 := ⟨by decide +kernel, rfl⟩
theorem d_X12_readItems_43 : gd cX12_readItems 43 (.iconst 0) 1 44 := ⟨by decide +kernel, rfl⟩
theorem d_X12_readItems_44 : gd cX12_readItems 44 (.istore 5) 2 46 := ⟨by decide +kernel, rfl⟩
theorem d_X12_readItems_46 : gd cX12_readItems 46 (.iconst 1) 1 47 := ⟨by decide +kernel, rfl⟩
theorem d_X12_readItems_47 : gd cX12_readItems 47 (.istore 6) 2 49 := ⟨by decide +kernel, rfl⟩
theorem d_X12_readItems_49 : gd cX12_readItems 49 (.iload 6) 2 51 := ⟨by decide +kernel, rfl⟩
theorem d_X12_readItems_51 : gd cX12_readItems 51 (.ifCond .eq 136) 3 54 := ⟨by decide +kernel, rfl⟩
theorem d_X12_readItems_54 : gd cX12_readItems 54 (.aload_n 0) 1 55 := ⟨by decide +kernel, rfl⟩
theorem d_X12_readItems_55 : gd cX12_readItems 55 (.invokevirtual 138) 3 58 := ⟨by decide +kernel, rfl⟩
theorem d_X12_readItems_58 : gd cX12_readItems 58 (.istore 7) 2 60 := ⟨by decide +kernel, rfl⟩
theorem d_X12_readItems_60 : gd cX12_readItems 60 (.iload 7) 2 62 := ⟨by decide +kernel, rfl⟩
theorem d_X12_readItems_62 : gd cX12_readItems 62 (.iconst (-1)) 1 63 := ⟨by decide +kernel, rfl⟩
theorem d_X12_readItems_63 : gd cX12_readItems 63 (.if_icmp .ne 7) 3 66 := ⟨by decide +kernel, rfl⟩
theorem d_X12_readItems_66 : gd cX12_readItems 66 (.iconst (-1)) 1 67 := ⟨by decide +kernel, rfl⟩
theorem d_X12_readItems_67 : gd cX12_readItems 67 (.goto 10) 3 70 := ⟨by decide +kernel, rfl⟩
theorem d_X12_readItems_70 : gd cX12_readItems 70 (.aload 4) 2 72 := ⟨by decide +kernel, rfl⟩
theorem d_X12_readItems_72 : gd cX12_readItems 72 (.iload 7) 2 74 := ⟨by decide +kernel, rfl⟩
theorem d_X12_readItems_74 : gd cX12_readItems 74 (.invokestatic 224) 3 77 := ⟨by decide +kernel, rfl⟩
theorem d_X12_readItems_77 : gd cX12_readItems 77 (.istore 8) 2 79 := ⟨by decide +kernel, rfl⟩
theorem d_X12_readItems_79 : gd cX12_readItems 79 (.iload 8) 2 81 := ⟨by decide +kernel, rfl⟩
theorem d_X12_readItems_81 : gd cX12_readItems 81 (.iconst (-1)) 1 82 := ⟨by decide +kernel, rfl⟩
theorem d_X12_readItems_82 : gd cX12_readItems 82 (.if_icmp .eq 13) 3 85 := ⟨by decide +kernel, rfl⟩
theorem d_X12_readItems_85 : gd cX12_readItems 85 (.iload 5) 2 87 := ⟨by decide +kernel, rfl⟩
theorem d_X12_readItems_87 : gd cX12_readItems 87 (.iload 8) 2 89 := ⟨by decide +kernel, rfl⟩
theorem d_X12_readItems_89 : gd cX12_readItems 89 (.invokestatic 228) 3 92 := ⟨by decide +kernel, rfl⟩
theorem d_X12_readItems_92 : gd cX12_readItems 92 (.ifCond .eq 9) 3 95 := ⟨by decide +kernel, rfl⟩
theorem d_X12_readItems_95 : gd cX12_readItems 95 (.aload_n 0) 1 96 := ⟨by decide +kernel, rfl⟩
theorem d_X12_readItems_96 : gd cX12_readItems 96 (.invokevirtual 134) 3 99 := ⟨by decide +kernel, rfl⟩
theorem d_X12_readItems_99 : gd cX12_readItems 99 .pop 1 100 := ⟨by decide +kernel, rfl⟩
theorem d_X12_readItems_100 : gd cX12_readItems 100 .return_ 1 101 := ⟨by decide +kernel, rfl⟩
theorem d_X12_readItems_101 : gd cX12_readItems 101 (.iload 5) 2 103 := ⟨by decide +kernel, rfl⟩
theorem d_X12_readItems_103 : gd cX12_readItems 103 (.iconst 1) 1 104 := ⟨by decide +kernel, rfl⟩
theorem d_X12_readItems_104 : gd cX12_readItems 104 (.iload 8) 2 106 := ⟨by decide +kernel, rfl⟩
theorem d_X12_readItems_106 : gd cX12_readItems 106 .ishl 1 107 := ⟨by decide +kernel, rfl⟩
theorem d_X12_readItems_107 : gd cX12_readItems 107 .ior 1 108 := ⟨by decide +kernel, rfl⟩
theorem d_X12_readItems_108 : gd cX12_readItems 108 (.istore 5) 2 110 := ⟨by decide +kernel, rfl⟩
theorem d_X12_readItems_110 : gd cX12_readItems 110 (.aload_n 0) 1 111 := ⟨by decide +kernel, rfl⟩
theorem d_X12_readItems_111 : gd cX12_readItems 111 .dup 1 112 := ⟨by decide +kernel, rfl⟩
theorem d_X12_readItems_112 : gd cX12_readItems 112 (.getfield 119) 3 115 := ⟨by decide +kernel, rfl⟩
theorem d_X12_readItems_115 : gd cX12_readItems 115 (.iconst 1) 1 116 := ⟨by decide +kernel, rfl⟩
theorem d_X12_readItems_116 : gd cX12_readItems 116 .iadd 1 117 := ⟨by decide +kernel, rfl⟩
theorem d_X12_readItems_117 : gd cX12_readItems 117 (.putfield 119) 3 120 := ⟨by decide +kernel, rfl⟩
theorem d_X12_readItems_120 : gd cX12_readItems 120 (.aload_n 0) 1 121 := ⟨by decide +kernel, rfl⟩
theorem d_X12_readItems_121 : gd cX12_readItems 121 (.iload 7) 2 123 := ⟨by decide +kernel, rfl⟩
theorem d_X12_readItems_123 : gd cX12_readItems 123 (.invokestatic 232) 3 126 := ⟨by decide +kernel, rfl⟩
theorem d_X12_readItems_126 : gd cX12_readItems 126 (.iload 7) 2 128 := ⟨by decide +kernel, rfl⟩
theorem d_X12_readItems_128 : gd cX12_readItems 128 (.invokestatic 235) 3 131 := ⟨by decide +kernel, rfl⟩
theorem d_X12_readItems_131 : gd cX12_readItems 131 (.invokevirtual 238) 3 134 := ⟨by decide +kernel, rfl⟩
theorem d_X12_readItems_134 : gd cX12_readItems 134 (.istore 9) 2 136 := ⟨by decide +kernel, rfl⟩
theorem d_X12_readItems_136 : gd cX12_readItems 136 (.aload_n 0) 1 137 := ⟨by decide +kernel, rfl⟩
theorem d_X12_readItems_137 : gd cX12_readItems 137 (.getfield 128) 3 140 := ⟨by decide +kernel, rfl⟩
theorem d_X12_readItems_140 : gd cX12_readItems 140 (.iconst (-1)) 1 141 := ⟨by decide +kernel, rfl⟩
theorem d_X12_readItems_141 : gd cX12_readItems 141 (.if_icmp .eq 4) 3 144 := ⟨by decide +kernel, rfl⟩
theorem d_X12_readItems_144 : gd cX12_readItems 144 .return_ 1 145 := ⟨by decide +kernel, rfl⟩
theorem d_X12_readItems_145 : gd cX12_readItems 145 (.aload_n 2) 1 146 := ⟨by decide +kernel, rfl⟩
theorem d_X12_readItems_146 : gd cX12_readItems 146 (.iload_n 3) 1 147 := ⟨by decide +kernel, rfl⟩
theorem d_X12_readItems_147 : gd cX12_readItems 147 (.iload 8) 2 149 := ⟨by decide +kernel, rfl⟩
theorem d_X12_readItems_149 : gd cX12_readItems 149 .iadd 1 150 := ⟨by decide +kernel, rfl⟩
theorem d_X12_readItems_150 : gd cX12_readItems 150 (.iload 9) 2 152 := ⟨by decide +kernel, rfl⟩
theorem d_X12_readItems_152 : gd cX12_readItems 152 .iastore 1 153 := ⟨by decide +kernel, rfl⟩
theorem d_X12_readItems_153 : gd cX12_readItems 153 (.aload_n 0) 1 154 := ⟨by decide +kernel, rfl⟩
theorem d_X12_readItems_154 : gd cX12_readItems 154 (.invokevirtual 138) 3 157 := ⟨by decide +kernel, rfl⟩
theorem d_X12_readItems_157 : gd cX12_readItems 157 (.bipush 44) 2 159 := ⟨by decide +kernel, rfl⟩
theorem d_X12_readItems_159 : gd cX12_readItems 159 (.if_icmp .ne 7) 3 162 := ⟨by decide +kernel, rfl⟩
theorem d_X12_readItems_162 : gd cX12_readItems 162 (.iconst 1) 1 163 := ⟨by decide +kernel, rfl⟩
theorem d_X12_readItems_163 : gd cX12_readItems 163 (.goto 4) 3 166 := ⟨by decide +kernel, rfl⟩
theorem d_X12_readItems_166 : gd cX12_readItems 166 (.iconst 0) 1 167 := ⟨by decide +kernel, rfl⟩
theorem d_X12_readItems_167 : gd cX12_readItems 167 (.istore 6) 2 169 := ⟨by decide +kernel, rfl⟩
theorem d_X12_readItems_169 : gd cX12_readItems 169 (.iload 6) 2 171 := ⟨by decide +kernel, rfl⟩
theorem d_X12_readItems_171 : gd cX12_readItems 171 (.ifCond .eq 13) 3 174 := ⟨by decide +kernel, rfl⟩
theorem d_X12_readItems_174 : gd cX12_readItems 174 (.aload_n 0) 1 175 := ⟨by decide +kernel, rfl⟩
theorem d_X12_readItems_175 : gd cX12_readItems 175 .dup 1 176 := ⟨by decide +kernel, rfl⟩
theorem d_X12_readItems_176 : gd cX12_readItems 176 (.getfield 119) 3 179 := ⟨by decide +kernel, rfl⟩
theorem d_X12_readItems_179 : gd cX12_readItems 179 (.iconst 1) 1 180 := ⟨by decide +kernel, rfl⟩
theorem d_X12_readItems_180 : gd cX12_readItems 180 .iadd 1 181 := ⟨by decide +kernel, rfl⟩
theorem d_X12_readItems_181 : gd cX12_readItems 181 (.putfield 119) 3 184 := ⟨by decide +kernel, rfl⟩
theorem d_X12_readItems_184 : gd cX12_readItems 184 (.goto (-135)) 3 187 := ⟨by decide +kernel, rfl⟩
theorem d_X12_readItems_187 : gd cX12_readItems 187 .return_ 1 188 := ⟨by decide +kernel, rfl⟩
def B_X12_readItems_95   (μ : gs_M) : Option (gs_M) :=
  bd (D_X12_fails μ) (fun v3 u2 => some u2)
def B_X12_readItems_167 (q49 : Nat → Int32 → Nat → Int32 → Int32 → gs_M → Option (gs_M)) (a2 : Nat) (x3 : Int32) (a4 : Nat) (x5 : Int32) (xs0 : Int32) (μ : gs_M) : Option (gs_M) :=
  if xs0 = 0 then (q49 a2 x3 a4 x5 xs0 μ) else (lt1 (sI μ 78 10 ((gI μ 78 10) + (1 : Int32))) (fun u2 => q49 a2 x3 a4 x5 xs0 u2))
def B_X12_readItems_77 (q49 : Nat → Int32 → Nat → Int32 → Int32 → gs_M → Option (gs_M)) (a2 : Nat) (x3 : Int32) (a4 : Nat) (x5 : Int32) (x7 : Int32) (xs0 : Int32) (μ : gs_M) : Option (gs_M) :=
  if xs0 = (-1 : Int32) then (B_X12_readItems_95 μ) else (bd (D_X12_has x5 xs0 μ) (fun v4 u3 => if v4 = 0 then (lt1 (x5 ||| ((1 : Int32) <<< (xs0 &&& 31))) (fun v6 => lt1 (sI u3 78 10 ((gI u3 78 10) + (1 : Int32))) (fun u7 => bd (D_X12_leastOf x7 u7) (fun v10 u9 => bd (D_X12_mostOf x7 u9) (fun v13 u12 => bd (D_X12_number v10 v13 u12) (fun v16 u15 => if (gI u15 78 11) = (-1 : Int32) then (ck (inb (x3 + xs0) (ln a2)) (lt1 (sI u15 a2 (Int32.toNatClampNeg (x3 + xs0)) v16) (fun u19 => bd (D_X12_look u19) (fun v22 u21 => if v22 = (44 : Int32) then (B_X12_readItems_167 q49 a2 x3 a4 v6 (1 : Int32) u21) else (B_X12_readItems_167 q49 a2 x3 a4 v6 (0 : Int32) u21))))) else (some u15))))))) else (B_X12_readItems_95 u3)))
def Bo_X12_readItems_49 (q49 : Nat → Int32 → Nat → Int32 → Int32 → gs_M → Option (gs_M)) (a2 : Nat) (x3 : Int32) (a4 : Nat) (x5 : Int32) (x6 : Int32) (μ : gs_M) : Option (gs_M) :=
  if x6 = 0 then (some μ) else (bd (D_X12_look μ) (fun v4 u3 => if v4 = (-1 : Int32) then (B_X12_readItems_77 q49 a2 x3 a4 x5 v4 (-1 : Int32) u3) else (bd (D_X12_placeOf a4 v4 u3) (fun v8 u7 => B_X12_readItems_77 q49 a2 x3 a4 x5 v4 v8 u7))))
def L_X12_readItems_49  : Nat → Nat → Int32 → Nat → Int32 → Int32 → gs_M → Option (gs_M)
  | 0 => fun _ _ _ _ _ _ => none
  | n + 1 => fun a2 x3 a4 x5 x6 μ => Bo_X12_readItems_49  (L_X12_readItems_49  n) a2 x3 a4 x5 x6 μ
def Bo_X12_readItems_11 (q11 : Nat → Int32 → Nat → Int32 → gs_M → Option (gs_M)) (a2 : Nat) (x3 : Int32) (a4 : Nat) (x5 : Int32) (μ : gs_M) : Option (gs_M) :=
  if (nI (gs_sl.getD (a4 - 105) 0)) ≤ x5 then (L_X12_readItems_49 4096 a2 x3 a4 (0 : Int32) (1 : Int32) μ) else (ck (inb x5 (gs_sl.getD (a4 - 105) 0)) (bd (D_X12_usual (cS (a4 - 105) (Int32.toNatClampNeg x5)) μ) (fun v5 u4 => ck (inb (x3 + x5) (ln a2)) (lt1 (sI u4 a2 (Int32.toNatClampNeg (x3 + x5)) v5) (fun u7 => q11 a2 x3 a4 (x5 + (1 : Int32)) u7)))))
def L_X12_readItems_11  : Nat → Nat → Int32 → Nat → Int32 → gs_M → Option (gs_M)
  | 0 => fun _ _ _ _ _ => none
  | n + 1 => fun a2 x3 a4 x5 μ => Bo_X12_readItems_11  (L_X12_readItems_11  n) a2 x3 a4 x5 μ
def D_X12_readItems (x1 : Int32) (a2 : Nat) (x3 : Int32) (μ : gs_M) : Option (gs_M) :=
  ck (inb x1 3) (L_X12_readItems_11 4096 a2 x3 (107 + Int32.toNatClampNeg x1) (0 : Int32) μ)
section S_X12_readItems
variable {p : Program} {l : Launch} {e : Env} {R : Room} {s : State} {m : MethodId} {args : Array Value} {below : List Frame} {meth : Method} {c : Code} {ad : Nat → Nat} {g : va_G} {tyc : Nat → ClassId}
set_option maxRecDepth 20000 in
theorem T_X12_readItems_95  (hK : KC p R s m args meth c ad g tyc RX12 cX12_readItems 10 none 5) {μ2 : gs_M}    {μ : gs_M}  (hD : B_X12_readItems_95   μ = some μ2) : WJ p l e R s m args below meth c 0 0 (MQ below (gs_Q ad g tyc none μ2) args s 0 0 (gs_A ad)) ad g tyc 10 95 [.ref 78, gs_J, gs_J, gs_J, gs_J, gs_J, gs_J, gs_J, gs_J, gs_J] [] μ := by
  unfold B_X12_readItems_95 at hD
  refine r_aload_n hK d_X12_readItems_95 rfl rfl ?_
  obtain ⟨v3, u2, e1, hD⟩ := bd_e hD
  refine r_callV (As := []) (st := []) (stk2 := [.int v3]) hK (C_X12_fails  e1) d_X12_readItems_96 mf_X12_fails ml_RX12_134 im_X12_fails rfl se_11_RX12_X12_fails kd_78 rfl (Nat.le_of_ble_eq_true rfl) (by decide) ⟨Nat.zero_le _, Nat.zero_le _⟩ rfl rfl ?_
  refine r_pop hK d_X12_readItems_99 rfl ?_
  cases hD
  exact r_vret hK d_X12_readItems_100
set_option maxRecDepth 20000 in
theorem T_X12_readItems_167  (hK : KC p R s m args meth c ad g tyc RX12 cX12_readItems 10 none 5) {μ2 : gs_M} {q49 : Nat → Int32 → Nat → Int32 → Int32 → gs_M → Option (gs_M)} (hq49 : ∀ (a2 : Nat) (x3 : Int32) (a4 : Nat) (x5 : Int32) (x6 : Int32) (μ : gs_M), kd a2 = 20 → 105 ≤ a4 ∧ a4 < 110 → q49 a2 x3 a4 x5 x6 μ = some μ2 → WJ p l e R s m args below meth c 0 0 (MQ below (gs_Q ad g tyc none μ2) args s 0 0 (gs_A ad)) ad g tyc 10 49 [.ref 78, gs_J, .ref a2, .int x3, .ref a4, .int x5, .int x6, gs_J, gs_J, gs_J] [] μ) {a2 : Nat} {x3 : Int32} {a4 : Nat} {x5 : Int32} {xs0 : Int32} {μ : gs_M} (hk2 : kd a2 = 20) (hk4 : 105 ≤ a4 ∧ a4 < 110) (hD : B_X12_readItems_167 q49 a2 x3 a4 x5 xs0 μ = some μ2) : WJ p l e R s m args below meth c 0 0 (MQ below (gs_Q ad g tyc none μ2) args s 0 0 (gs_A ad)) ad g tyc 10 167 [.ref 78, gs_J, .ref a2, .int x3, .ref a4, .int x5, gs_J, gs_J, gs_J, gs_J] [.int xs0] μ := by
  unfold B_X12_readItems_167 at hD
  refine r_istore hK d_X12_readItems_167 (by decide) (ls2 := [.ref 78, gs_J, .ref a2, .int x3, .ref a4, .int x5, .int xs0, gs_J, gs_J, gs_J]) rfl ?_
  refine r_iload hK d_X12_readItems_169 rfl ?_
  refine r_if_eq (tgt := 184) hK d_X12_readItems_171 (by decide) (fun h1 => ?_) (fun h1 => ?_)
  · have hD := if_t hD h1
    refine r_goto (tgt := 49) hK d_X12_readItems_184 (by decide) ?_
    exact hq49 _ _ _ _ _ _ hk2 hk4 hD
  · have hD := if_f hD h1
    refine r_aload_n hK d_X12_readItems_174 rfl rfl ?_
    refine r_dup hK d_X12_readItems_175 rfl ?_
    refine r_getI hK d_X12_readItems_176 fl_RX12_119_11 rfl kd_78 ?_
    refine r_iconst hK d_X12_readItems_179 ci_1 ?_
    refine r_iadd hK d_X12_readItems_180 ?_
    refine r_putI hK d_X12_readItems_181 fl_RX12_119_11 rfl rfl kd_78 ?_
    refine r_ltm hD (fun u2 hD => ?_)
    refine r_goto (tgt := 49) hK d_X12_readItems_184 (by decide) ?_
    exact hq49 _ _ _ _ _ _ hk2 hk4 hD
set_option maxRecDepth 20000 in
theorem T_X12_readItems_77  (hK : KC p R s m args meth c ad g tyc RX12 cX12_readItems 10 none 5) {μ2 : gs_M} {q49 : Nat → Int32 → Nat → Int32 → Int32 → gs_M → Option (gs_M)} (hq49 : ∀ (a2 : Nat) (x3 : Int32) (a4 : Nat) (x5 : Int32) (x6 : Int32) (μ : gs_M), kd a2 = 20 → 105 ≤ a4 ∧ a4 < 110 → q49 a2 x3 a4 x5 x6 μ = some μ2 → WJ p l e R s m args below meth c 0 0 (MQ below (gs_Q ad g tyc none μ2) args s 0 0 (gs_A ad)) ad g tyc 10 49 [.ref 78, gs_J, .ref a2, .int x3, .ref a4, .int x5, .int x6, gs_J, gs_J, gs_J] [] μ) {a2 : Nat} {x3 : Int32} {a4 : Nat} {x5 : Int32} {x7 : Int32} {xs0 : Int32} {μ : gs_M} (hk2 : kd a2 = 20) (hk4 : 105 ≤ a4 ∧ a4 < 110) (hD : B_X12_readItems_77 q49 a2 x3 a4 x5 x7 xs0 μ = some μ2) : WJ p l e R s m args below meth c 0 0 (MQ below (gs_Q ad g tyc none μ2) args s 0 0 (gs_A ad)) ad g tyc 10 77 [.ref 78, gs_J, .ref a2, .int x3, .ref a4, .int x5, gs_J, .int x7, gs_J, gs_J] [.int xs0] μ := by
  unfold B_X12_readItems_77 at hD
  refine r_istore hK d_X12_readItems_77 (by decide) (ls2 := [.ref 78, gs_J, .ref a2, .int x3, .ref a4, .int x5, gs_J, .int x7, .int xs0, gs_J]) rfl ?_
  refine r_iload hK d_X12_readItems_79 rfl ?_
  refine r_iconst hK d_X12_readItems_81 ci_m1 ?_
  refine r_icmp_eq (tgt := 95) hK d_X12_readItems_82 (by decide) (fun h1 => ?_) (fun h1 => ?_)
  · have hD := if_t hD h1
    refine r_junk [true, false, false, false, false, false, false, false, false, false] (ls2 := [.ref 78, gs_J, gs_J, gs_J, gs_J, gs_J, gs_J, gs_J, gs_J, gs_J]) rfl ?_
    exact T_X12_readItems_95 hK   hD
  · have hD := if_f hD h1
    refine r_iload hK d_X12_readItems_85 rfl ?_
    refine r_iload hK d_X12_readItems_87 rfl ?_
    obtain ⟨v4, u3, e2, hD⟩ := bd_e hD
    refine r_callS (As := [.int x5, .int xs0]) (st := []) (stk2 := [.int v4]) hK (C_X12_has  e2) d_X12_readItems_89 mf_X12_has ml_RX12_228 ss_X12_has rfl (Nat.le_of_ble_eq_true rfl) (by decide) ⟨Nat.zero_le _, Nat.zero_le _⟩ rfl rfl ?_
    refine r_if_eq (tgt := 101) hK d_X12_readItems_92 (by decide) (fun h5 => ?_) (fun h5 => ?_)
    · have hD := if_t hD h5
      refine r_iload hK d_X12_readItems_101 rfl ?_
      refine r_iconst hK d_X12_readItems_103 ci_1 ?_
      refine r_iload hK d_X12_readItems_104 rfl ?_
      refine r_ishl hK d_X12_readItems_106 ?_
      refine r_ior hK d_X12_readItems_107 ?_
      refine r_lti hD (fun v6 hD => ?_)
      refine r_istore hK d_X12_readItems_108 (by decide) (ls2 := [.ref 78, gs_J, .ref a2, .int x3, .ref a4, .int v6, gs_J, .int x7, .int xs0, gs_J]) rfl ?_
      refine r_aload_n hK d_X12_readItems_110 rfl rfl ?_
      refine r_dup hK d_X12_readItems_111 rfl ?_
      refine r_getI hK d_X12_readItems_112 fl_RX12_119_11 rfl kd_78 ?_
      refine r_iconst hK d_X12_readItems_115 ci_1 ?_
      refine r_iadd hK d_X12_readItems_116 ?_
      refine r_putI hK d_X12_readItems_117 fl_RX12_119_11 rfl rfl kd_78 ?_
      refine r_ltm hD (fun u7 hD => ?_)
      refine r_aload_n hK d_X12_readItems_120 rfl rfl ?_
      refine r_iload hK d_X12_readItems_121 rfl ?_
      obtain ⟨v10, u9, e8, hD⟩ := bd_e hD
      refine r_callS (As := [.int x7]) (st := [.ref 78]) (stk2 := [.int v10, .ref 78]) hK (C_X12_leastOf  e8) d_X12_readItems_123 mf_X12_leastOf ml_RX12_232 ss_X12_leastOf rfl (Nat.le_of_ble_eq_true rfl) (by decide) ⟨Nat.zero_le _, Nat.zero_le _⟩ rfl rfl ?_
      refine r_iload hK d_X12_readItems_126 rfl ?_
      obtain ⟨v13, u12, e11, hD⟩ := bd_e hD
      refine r_callS (As := [.int x7]) (st := [.int v10, .ref 78]) (stk2 := [.int v13, .int v10, .ref 78]) hK (C_X12_mostOf  e11) d_X12_readItems_128 mf_X12_mostOf ml_RX12_235 ss_X12_mostOf rfl (Nat.le_of_ble_eq_true rfl) (by decide) ⟨Nat.zero_le _, Nat.zero_le _⟩ rfl rfl ?_
      obtain ⟨v16, u15, e14, hD⟩ := bd_e hD
      refine r_callV (As := [.int v10, .int v13]) (st := []) (stk2 := [.int v16]) hK (C_X12_number  e14) d_X12_readItems_131 mf_X12_number ml_RX12_238 im_X12_number rfl se_11_RX12_X12_number kd_78 rfl (Nat.le_of_ble_eq_true rfl) (by decide) ⟨Nat.zero_le _, Nat.zero_le _⟩ rfl rfl ?_
      refine r_istore hK d_X12_readItems_134 (by decide) (ls2 := [.ref 78, gs_J, .ref a2, .int x3, .ref a4, .int v6, gs_J, .int x7, .int xs0, .int v16]) rfl ?_
      refine r_aload_n hK d_X12_readItems_136 rfl rfl ?_
      refine r_getI hK d_X12_readItems_137 fl_RX12_128_11 rfl kd_78 ?_
      refine r_iconst hK d_X12_readItems_140 ci_m1 ?_
      refine r_icmp_eq (tgt := 145) hK d_X12_readItems_141 (by decide) (fun h17 => ?_) (fun h17 => ?_)
      · have hD := if_t hD h17
        refine r_aload_n hK d_X12_readItems_145 rfl rfl ?_
        refine r_iload_n hK d_X12_readItems_146 rfl rfl ?_
        refine r_iload hK d_X12_readItems_147 rfl ?_
        refine r_iadd hK d_X12_readItems_149 ?_
        refine r_iload hK d_X12_readItems_150 rfl ?_
        obtain ⟨h18, hD⟩ := ck_e hD
        refine r_iast hK d_X12_readItems_152 hk2 rfl (inb_in h18) ?_
        refine r_ltm hD (fun u19 hD => ?_)
        refine r_aload_n hK d_X12_readItems_153 rfl rfl ?_
        obtain ⟨v22, u21, e20, hD⟩ := bd_e hD
        refine r_callV (As := []) (st := []) (stk2 := [.int v22]) hK (C_X12_look  e20) d_X12_readItems_154 mf_X12_look ml_RX12_138 im_X12_look rfl se_11_RX12_X12_look kd_78 rfl (Nat.le_of_ble_eq_true rfl) (by decide) ⟨Nat.zero_le _, Nat.zero_le _⟩ rfl rfl ?_
        refine r_bipush hK d_X12_readItems_157 cb_44 ?_
        refine r_icmp_ne (tgt := 166) hK d_X12_readItems_159 (by decide) (fun h23 => ?_) (fun h23 => ?_)
        · have hD := if_f hD h23
          refine r_iconst hK d_X12_readItems_166 ci_0 ?_
          refine r_junk [true, false, true, true, true, true, false, false, false, false] (ls2 := [.ref 78, gs_J, .ref a2, .int x3, .ref a4, .int v6, gs_J, gs_J, gs_J, gs_J]) rfl ?_
          exact T_X12_readItems_167 hK hq49 hk2 hk4 hD
        · have hD := if_t hD h23
          refine r_iconst hK d_X12_readItems_162 ci_1 ?_
          refine r_goto (tgt := 167) hK d_X12_readItems_163 (by decide) ?_
          refine r_junk [true, false, true, true, true, true, false, false, false, false] (ls2 := [.ref 78, gs_J, .ref a2, .int x3, .ref a4, .int v6, gs_J, gs_J, gs_J, gs_J]) rfl ?_
          exact T_X12_readItems_167 hK hq49 hk2 hk4 hD
      · have hD := if_f hD h17
        cases hD
        exact r_vret hK d_X12_readItems_144
    · have hD := if_f hD h5
      refine r_junk [true, false, false, false, false, false, false, false, false, false] (ls2 := [.ref 78, gs_J, gs_J, gs_J, gs_J, gs_J, gs_J, gs_J, gs_J, gs_J]) rfl ?_
      exact T_X12_readItems_95 hK   hD
set_option maxRecDepth 20000 in
theorem To_X12_readItems_49  (hK : KC p R s m args meth c ad g tyc RX12 cX12_readItems 10 none 5) {μ2 : gs_M} {q49 : Nat → Int32 → Nat → Int32 → Int32 → gs_M → Option (gs_M)} (hq49 : ∀ (a2 : Nat) (x3 : Int32) (a4 : Nat) (x5 : Int32) (x6 : Int32) (μ : gs_M), kd a2 = 20 → 105 ≤ a4 ∧ a4 < 110 → q49 a2 x3 a4 x5 x6 μ = some μ2 → WJ p l e R s m args below meth c 0 0 (MQ below (gs_Q ad g tyc none μ2) args s 0 0 (gs_A ad)) ad g tyc 10 49 [.ref 78, gs_J, .ref a2, .int x3, .ref a4, .int x5, .int x6, gs_J, gs_J, gs_J] [] μ) {a2 : Nat} {x3 : Int32} {a4 : Nat} {x5 : Int32} {x6 : Int32} {μ : gs_M} (hk2 : kd a2 = 20) (hk4 : 105 ≤ a4 ∧ a4 < 110) (hD : Bo_X12_readItems_49 q49 a2 x3 a4 x5 x6 μ = some μ2) : WJ p l e R s m args below meth c 0 0 (MQ below (gs_Q ad g tyc none μ2) args s 0 0 (gs_A ad)) ad g tyc 10 49 [.ref 78, gs_J, .ref a2, .int x3, .ref a4, .int x5, .int x6, gs_J, gs_J, gs_J] [] μ := by
  unfold Bo_X12_readItems_49 at hD
  refine r_iload hK d_X12_readItems_49 rfl ?_
  refine r_if_eq (tgt := 187) hK d_X12_readItems_51 (by decide) (fun h1 => ?_) (fun h1 => ?_)
  · have hD := if_t hD h1
    cases hD
    exact r_vret hK d_X12_readItems_187
  · have hD := if_f hD h1
    refine r_aload_n hK d_X12_readItems_54 rfl rfl ?_
    obtain ⟨v4, u3, e2, hD⟩ := bd_e hD
    refine r_callV (As := []) (st := []) (stk2 := [.int v4]) hK (C_X12_look  e2) d_X12_readItems_55 mf_X12_look ml_RX12_138 im_X12_look rfl se_11_RX12_X12_look kd_78 rfl (Nat.le_of_ble_eq_true rfl) (by decide) ⟨Nat.zero_le _, Nat.zero_le _⟩ rfl rfl ?_
    refine r_istore hK d_X12_readItems_58 (by decide) (ls2 := [.ref 78, gs_J, .ref a2, .int x3, .ref a4, .int x5, .int x6, .int v4, gs_J, gs_J]) rfl ?_
    refine r_iload hK d_X12_readItems_60 rfl ?_
    refine r_iconst hK d_X12_readItems_62 ci_m1 ?_
    refine r_icmp_ne (tgt := 70) hK d_X12_readItems_63 (by decide) (fun h5 => ?_) (fun h5 => ?_)
    · have hD := if_f hD h5
      refine r_aload hK d_X12_readItems_70 rfl ?_
      refine r_iload hK d_X12_readItems_72 rfl ?_
      obtain ⟨v8, u7, e6, hD⟩ := bd_e hD
      refine r_callS (As := [.ref a4, .int v4]) (st := []) (stk2 := [.int v8]) hK (C_X12_placeOf hk4 e6) d_X12_readItems_74 mf_X12_placeOf ml_RX12_224 ss_X12_placeOf rfl (Nat.le_of_ble_eq_true rfl) (by decide) ⟨Nat.zero_le _, Nat.zero_le _⟩ rfl rfl ?_
      refine r_junk [true, false, true, true, true, true, false, true, false, false] (ls2 := [.ref 78, gs_J, .ref a2, .int x3, .ref a4, .int x5, gs_J, .int v4, gs_J, gs_J]) rfl ?_
      exact T_X12_readItems_77 hK hq49 hk2 hk4 hD
    · have hD := if_t hD h5
      refine r_iconst hK d_X12_readItems_66 ci_m1 ?_
      refine r_goto (tgt := 77) hK d_X12_readItems_67 (by decide) ?_
      refine r_junk [true, false, true, true, true, true, false, true, false, false] (ls2 := [.ref 78, gs_J, .ref a2, .int x3, .ref a4, .int x5, gs_J, .int v4, gs_J, gs_J]) rfl ?_
      exact T_X12_readItems_77 hK hq49 hk2 hk4 hD
set_option maxRecDepth 20000 in
theorem TL_X12_readItems_49  (hK : KC p R s m args meth c ad g tyc RX12 cX12_readItems 10 none 5) {μ2 : gs_M}   : ∀ (n : Nat) (a2 : Nat) (x3 : Int32) (a4 : Nat) (x5 : Int32) (x6 : Int32) (μ : gs_M), kd a2 = 20 → 105 ≤ a4 ∧ a4 < 110 → L_X12_readItems_49  n a2 x3 a4 x5 x6 μ = some μ2 → WJ p l e R s m args below meth c 0 0 (MQ below (gs_Q ad g tyc none μ2) args s 0 0 (gs_A ad)) ad g tyc 10 49 [.ref 78, gs_J, .ref a2, .int x3, .ref a4, .int x5, .int x6, gs_J, gs_J, gs_J] [] μ := by
  intro n
  induction n with
  | zero => intro a2 x3 a4 x5 x6 μ hk2 hk4 hD; cases hD
  | succ n ih => intro a2 x3 a4 x5 x6 μ hk2 hk4 hD; exact To_X12_readItems_49 hK  ih hk2 hk4 hD
set_option maxRecDepth 20000 in
theorem To_X12_readItems_11  (hK : KC p R s m args meth c ad g tyc RX12 cX12_readItems 10 none 5) {μ2 : gs_M} {q11 : Nat → Int32 → Nat → Int32 → gs_M → Option (gs_M)} (hq11 : ∀ (a2 : Nat) (x3 : Int32) (a4 : Nat) (x5 : Int32) (μ : gs_M), kd a2 = 20 → 105 ≤ a4 ∧ a4 < 110 → q11 a2 x3 a4 x5 μ = some μ2 → WJ p l e R s m args below meth c 0 0 (MQ below (gs_Q ad g tyc none μ2) args s 0 0 (gs_A ad)) ad g tyc 10 11 [.ref 78, gs_J, .ref a2, .int x3, .ref a4, .int x5, gs_J, gs_J, gs_J, gs_J] [] μ) {a2 : Nat} {x3 : Int32} {a4 : Nat} {x5 : Int32} {μ : gs_M} (hk2 : kd a2 = 20) (hk4 : 105 ≤ a4 ∧ a4 < 110) (hD : Bo_X12_readItems_11 q11 a2 x3 a4 x5 μ = some μ2) : WJ p l e R s m args below meth c 0 0 (MQ below (gs_Q ad g tyc none μ2) args s 0 0 (gs_A ad)) ad g tyc 10 11 [.ref 78, gs_J, .ref a2, .int x3, .ref a4, .int x5, gs_J, gs_J, gs_J, gs_J] [] μ := by
  unfold Bo_X12_readItems_11 at hD
  refine r_iload hK d_X12_readItems_11 rfl ?_
  refine r_aload hK d_X12_readItems_13 rfl ?_
  refine r_slen hK d_X12_readItems_15 sl_RX12_101 hk4 (Nat.le_of_ble_eq_true rfl) (by decide) ⟨Nat.zero_le _, Nat.zero_le _⟩ ?_
  refine r_icmp_ge (tgt := 43) hK d_X12_readItems_18 (by decide) (fun h1 => ?_) (fun h1 => ?_)
  · have hD := if_t hD h1
    refine r_iconst hK d_X12_readItems_43 ci_0 ?_
    refine r_istore hK d_X12_readItems_44 (by decide) (ls2 := [.ref 78, gs_J, .ref a2, .int x3, .ref a4, .int (0 : Int32), gs_J, gs_J, gs_J, gs_J]) rfl ?_
    refine r_iconst hK d_X12_readItems_46 ci_1 ?_
    refine r_istore hK d_X12_readItems_47 (by decide) (ls2 := [.ref 78, gs_J, .ref a2, .int x3, .ref a4, .int (0 : Int32), .int (1 : Int32), gs_J, gs_J, gs_J]) rfl ?_
    exact TL_X12_readItems_49 hK  _ _ _ _ _ _ _ hk2 hk4 hD
  · have hD := if_f hD h1
    refine r_aload_n hK d_X12_readItems_21 rfl rfl ?_
    refine r_iload_n hK d_X12_readItems_22 rfl rfl ?_
    refine r_iload hK d_X12_readItems_23 rfl ?_
    refine r_iadd hK d_X12_readItems_25 ?_
    refine r_aload hK d_X12_readItems_26 rfl ?_
    refine r_iload hK d_X12_readItems_28 rfl ?_
    obtain ⟨h2, hD⟩ := ck_e hD
    refine r_scat hK d_X12_readItems_30 sc_RX12_105 hk4 (inb_in h2) (Nat.le_of_ble_eq_true rfl) (by decide) ⟨Nat.zero_le _, Nat.zero_le _⟩ ?_
    obtain ⟨v5, u4, e3, hD⟩ := bd_e hD
    refine r_callS (As := [.int (cS (a4 - 105) (Int32.toNatClampNeg x5))]) (st := [.int (x3 + x5), .ref a2]) (stk2 := [.int v5, .int (x3 + x5), .ref a2]) hK (C_X12_usual  e3) d_X12_readItems_33 mf_X12_usual ml_RX12_221 ss_X12_usual rfl (Nat.le_of_ble_eq_true rfl) (by decide) ⟨Nat.zero_le _, Nat.zero_le _⟩ rfl rfl ?_
    obtain ⟨h6, hD⟩ := ck_e hD
    refine r_iast hK d_X12_readItems_36 hk2 rfl (inb_in h6) ?_
    refine r_ltm hD (fun u7 hD => ?_)
    refine r_iinc hK d_X12_readItems_37 rfl (v := x5 + (1 : Int32)) (by rw [ci_1]) (by decide) (ls2 := [.ref 78, gs_J, .ref a2, .int x3, .ref a4, .int (x5 + (1 : Int32)), gs_J, gs_J, gs_J, gs_J]) rfl ?_
    refine r_goto (tgt := 11) hK d_X12_readItems_40 (by decide) ?_
    exact hq11 _ _ _ _ _ hk2 hk4 hD
set_option maxRecDepth 20000 in
theorem TL_X12_readItems_11  (hK : KC p R s m args meth c ad g tyc RX12 cX12_readItems 10 none 5) {μ2 : gs_M}   : ∀ (n : Nat) (a2 : Nat) (x3 : Int32) (a4 : Nat) (x5 : Int32) (μ : gs_M), kd a2 = 20 → 105 ≤ a4 ∧ a4 < 110 → L_X12_readItems_11  n a2 x3 a4 x5 μ = some μ2 → WJ p l e R s m args below meth c 0 0 (MQ below (gs_Q ad g tyc none μ2) args s 0 0 (gs_A ad)) ad g tyc 10 11 [.ref 78, gs_J, .ref a2, .int x3, .ref a4, .int x5, gs_J, gs_J, gs_J, gs_J] [] μ := by
  intro n
  induction n with
  | zero => intro a2 x3 a4 x5 μ hk2 hk4 hD; cases hD
  | succ n ih => intro a2 x3 a4 x5 μ hk2 hk4 hD; exact To_X12_readItems_11 hK  ih hk2 hk4 hD
set_option maxRecDepth 20000 in
theorem C_X12_readItems  {x1 : Int32} {a2 : Nat} {x3 : Int32} {μ : gs_M} {μ2 : gs_M} (hk2 : kd a2 = 20) (hD : D_X12_readItems x1 a2 x3 μ = some μ2) : CALL yX12_readItems cX12_readItems 10 none 5 [.ref 78, .int x1, .ref a2, .int x3] μ none μ2 := by
  unfold D_X12_readItems at hD
  refine gs_enter mf_X12_readItems (Nat.le_of_ble_eq_true rfl) (ls := [.ref 78, .int x1, .ref a2, .int x3, gs_J, gs_J, gs_J, gs_J, gs_J, gs_J]) rfl (fun p l e R s m args below meth c ad g tyc hK => ?_)
  have hK : KC p R s m args meth c ad g tyc RX12 cX12_readItems 10 none 5 := hK
  refine r_aload_n hK d_X12_readItems_0 rfl rfl ?_
  refine r_getR hK d_X12_readItems_1 fl_RX12_60_11 rfl kd_78 ?_
  refine r_ref (b := 88) R0_78_23 ?_
  refine r_iload_n hK d_X12_readItems_4 rfl rfl ?_
  obtain ⟨h1, hD⟩ := ck_e hD
  refine r_aaldS hK d_X12_readItems_5 kd_88 ln_88 (inb_in h1) ?_
  refine r_ref (b := (107 + Int32.toNatClampNeg x1)) (ly_88 _ (inb_lt h1)) ?_
  refine r_astore hK d_X12_readItems_6 (by decide) (ls2 := [.ref 78, .int x1, .ref a2, .int x3, .ref (107 + Int32.toNatClampNeg x1), gs_J, gs_J, gs_J, gs_J, gs_J]) rfl ?_
  refine r_iconst hK d_X12_readItems_8 ci_0 ?_
  refine r_istore hK d_X12_readItems_9 (by decide) (ls2 := [.ref 78, .int x1, .ref a2, .int x3, .ref (107 + Int32.toNatClampNeg x1), .int (0 : Int32), gs_J, gs_J, gs_J, gs_J]) rfl ?_
  refine r_junk [true, false, true, true, true, true, false, false, false, false] (ls2 := [.ref 78, gs_J, .ref a2, .int x3, .ref (107 + Int32.toNatClampNeg x1), .int (0 : Int32), gs_J, gs_J, gs_J, gs_J]) rfl ?_
  exact TL_X12_readItems_11 hK  _ _ _ _ _ _ hk2 (ly_s3 (inb_lt h1)) hD
end S_X12_readItems
theorem d_X12_readRows_0 : gd cX12_readRows 0 (.iconst 0) 1 1 := ⟨by decide +kernel, rfl⟩
theorem d_X12_readRows_1 : gd cX12_readRows 1 (.istore 4) 2 3 := ⟨by decide +kernel, rfl⟩
theorem d_X12_readRows_3 : gd cX12_readRows 3 (.iconst 1) 1 4 := ⟨by decide +kernel, rfl⟩
theorem d_X12_readRows_4 : gd cX12_readRows 4 (.istore 5) 2 6 := ⟨by decide +kernel, rfl⟩
theorem d_X12_readRows_6 : gd cX12_readRows 6 (.iload 5) 2 8 := ⟨by decide +kernel, rfl⟩
theorem d_X12_readRows_8 : gd cX12_readRows 8 (.ifCond .eq 92) 3 11 := ⟨by decide +kernel, rfl⟩
theorem d_X12_readRows_11 : gd cX12_readRows 11 (.aload_n 0) 1 12 := ⟨by decide +kernel, rfl⟩
theorem d_X12_readRows_12 : gd cX12_readRows 12 (.getfield 128) 3 15 := ⟨by decide +kernel, rfl⟩
theorem d_X12_readRows_15 : gd cX12_readRows 15 (.iconst (-1)) 1 16 := ⟨by decide +kernel, rfl⟩
theorem d_X12_readRows_16 : gd cX12_readRows 16 (.if_icmp .ne 84) 3 19 := ⟨by decide +kernel, rfl⟩
theorem d_X12_readRows_19 : gd cX12_readRows 19 (.aload_n 0) 1 20 := ⟨by decide +kernel, rfl⟩
theorem d_X12_readRows_20 : gd cX12_readRows 20 (.iload_n 1) 1 21 := ⟨by decide +kernel, rfl⟩
theorem d_X12_readRows_21 : gd cX12_readRows 21 (.aload_n 2) 1 22 := ⟨by decide +kernel, rfl⟩
theorem d_X12_readRows_22 : gd cX12_readRows 22 (.iload_n 3) 1 23 := ⟨by decide +kernel, rfl⟩
theorem d_X12_readRows_23 : gd cX12_readRows 23 (.iconst 5) 1 24 := ⟨by decide +kernel, rfl⟩
theorem d_X12_readRows_24 : gd cX12_readRows 24 (.iload 4) 2 26 := ⟨by decide +kernel, rfl⟩
theorem d_X12_readRows_26 : gd cX12_readRows 26 .imul 1 27 := ⟨by decide +kernel, rfl⟩
theorem d_X12_readRows_27 : gd cX12_readRows 27 .iadd 1 28 := ⟨by decide +kernel, rfl⟩
theorem d_X12_readRows_28 : gd cX12_readRows 28 (.invokevirtual 242) 3 31 := ⟨by decide +kernel, rfl⟩
theorem d_X12_readRows_31 : gd cX12_readRows 31 (.iinc 4 1) 3 34 := ⟨by decide +kernel, rfl⟩
theorem d_X12_readRows_34 : gd cX12_readRows 34 (.aload_n 0) 1 35 := ⟨by decide +kernel, rfl⟩
theorem d_X12_readRows_35 : gd cX12_readRows 35 (.getfield 128) 3 38 := ⟨by decide +kernel, rfl⟩
theorem d_X12_readRows_38 : gd cX12_readRows 38 (.iconst (-1)) 1 39 := ⟨by decide +kernel, rfl⟩
theorem d_X12_readRows_39 : gd cX12_readRows 39 (.if_icmp .ne 16) 3 42 := ⟨by decide +kernel, rfl⟩
theorem d_X12_readRows_42 : gd cX12_readRows 42 (.aload_n 0) 1 43 := ⟨by decide +kernel, rfl⟩
theorem d_X12_readRows_43 : gd cX12_readRows 43 (.invokevirtual 138) 3 46 := ⟨by decide +kernel, rfl⟩
theorem d_X12_readRows_46 : gd cX12_readRows 46 (.bipush 59) 2 48 := ⟨by decide +kernel, rfl⟩
theorem d_X12_readRows_48 : gd cX12_readRows 48 (.if_icmp .ne 7) 3 51 := ⟨by decide +kernel, rfl⟩
theorem d_X12_readRows_51 : gd cX12_readRows 51 (.iconst 1) 1 52 := ⟨by decide +kernel, rfl⟩
theorem d_X12_readRows_52 : gd cX12_readRows 52 (.goto 4) 3 55 := ⟨by decide +kernel, rfl⟩
theorem d_X12_readRows_55 : gd cX12_readRows 55 (.iconst 0) 1 56 := ⟨by decide +kernel, rfl⟩
theorem d_X12_readRows_56 : gd cX12_readRows 56 (.istore 5) 2 58 := ⟨by decide +kernel, rfl⟩
theorem d_X12_readRows_58 : gd cX12_readRows 58 (.iload 5) 2 60 := ⟨by decide +kernel, rfl⟩
theorem d_X12_readRows_60 : gd cX12_readRows 60 (.ifCond .eq 14) 3 63 := ⟨by decide +kernel, rfl⟩
theorem d_X12_readRows_63 : gd cX12_readRows 63 (.iload 4) 2 65 := ⟨by decide +kernel, rfl⟩
theorem d_X12_readRows_65 : gd cX12_readRows 65 (.iconst 4) 1 66 := ⟨by decide +kernel, rfl⟩
theorem d_X12_readRows_66 : gd cX12_readRows 66 (.if_icmp .ne 8) 3 69 := ⟨by decide +kernel, rfl⟩
theorem d_X12_readRows_69 : gd cX12_readRows 69 (.aload_n 0) 1 70 := ⟨by decide +kernel, rfl⟩
theorem d_X12_readRows_70 : gd cX12_readRows 70 (.invokevirtual 134) 3 73 := ⟨by decide +kernel, rfl⟩
theorem d_X12_readRows_73 : gd cX12_readRows 73 .pop 1 74 := ⟨by decide +kernel, rfl⟩
theorem d_X12_readRows_74 : gd cX12_readRows 74 (.iload 5) 2 76 := ⟨by decide +kernel, rfl⟩
theorem d_X12_readRows_76 : gd cX12_readRows 76 (.ifCond .eq (-70)) 3 79 := ⟨by decide +kernel, rfl⟩
theorem d_X12_readRows_79 : gd cX12_readRows 79 (.aload_n 0) 1 80 := ⟨by decide +kernel, rfl⟩
theorem d_X12_readRows_80 : gd cX12_readRows 80 (.getfield 128) 3 83 := ⟨by decide +kernel, rfl⟩
theorem d_X12_readRows_83 : gd cX12_readRows 83 (.iconst (-1)) 1 84 := ⟨by decide +kernel, rfl⟩
theorem d_X12_readRows_84 : gd cX12_readRows 84 (.if_icmp .ne (-78)) 3 87 := ⟨by decide +kernel, rfl⟩
theorem d_X12_readRows_87 : gd cX12_readRows 87 (.aload_n 0) 1 88 := ⟨by decide +kernel, rfl⟩
theorem d_X12_readRows_88 : gd cX12_readRows 88 .dup 1 89 := ⟨by decide +kernel, rfl⟩
theorem d_X12_readRows_89 : gd cX12_readRows 89 (.getfield 119) 3 92 := ⟨by decide +kernel, rfl⟩
theorem d_X12_readRows_92 : gd cX12_readRows 92 (.iconst 1) 1 93 := ⟨by decide +kernel, rfl⟩
theorem d_X12_readRows_93 : gd cX12_readRows 93 .iadd 1 94 := ⟨by decide +kernel, rfl⟩
theorem d_X12_readRows_94 : gd cX12_readRows 94 (.putfield 119) 3 97 := ⟨by decide +kernel, rfl⟩
theorem d_X12_readRows_97 : gd cX12_readRows 97 (.goto (-91)) 3 100 := ⟨by decide +kernel, rfl⟩
theorem d_X12_readRows_100 : gd cX12_readRows 100 (.iload 4) 2 102 := ⟨by decide +kernel, rfl⟩
theorem d_X12_readRows_102 : gd cX12_readRows 102 .ireturn 1 103 := ⟨by decide +kernel, rfl⟩
def B_X12_readRows_74 (q6 : Int32 → Nat → Int32 → Int32 → Int32 → gs_M → Option (Int32 × gs_M)) (x1 : Int32) (a2 : Nat) (x3 : Int32) (x4 : Int32) (x5 : Int32) (μ : gs_M) : Option (Int32 × gs_M) :=
  if x5 = 0 then (q6 x1 a2 x3 x4 x5 μ) else (if (gI μ 78 11) = (-1 : Int32) then (lt1 (sI μ 78 10 ((gI μ 78 10) + (1 : Int32))) (fun u3 => q6 x1 a2 x3 x4 x5 u3)) else (q6 x1 a2 x3 x4 x5 μ))
def B_X12_readRows_56 (q6 : Int32 → Nat → Int32 → Int32 → Int32 → gs_M → Option (Int32 × gs_M)) (x1 : Int32) (a2 : Nat) (x3 : Int32) (x4 : Int32) (xs0 : Int32) (μ : gs_M) : Option (Int32 × gs_M) :=
  if xs0 = 0 then (B_X12_readRows_74 q6 x1 a2 x3 x4 xs0 μ) else (if x4 = (4 : Int32) then (bd (D_X12_fails μ) (fun v5 u4 => B_X12_readRows_74 q6 x1 a2 x3 x4 xs0 u4)) else (B_X12_readRows_74 q6 x1 a2 x3 x4 xs0 μ))
def B_X12_readRows_55 (q6 : Int32 → Nat → Int32 → Int32 → Int32 → gs_M → Option (Int32 × gs_M)) (x1 : Int32) (a2 : Nat) (x3 : Int32) (x4 : Int32) (μ : gs_M) : Option (Int32 × gs_M) :=
  B_X12_readRows_56 q6 x1 a2 x3 x4 (0 : Int32) μ
def Bo_X12_readRows_6 (q6 : Int32 → Nat → Int32 → Int32 → Int32 → gs_M → Option (Int32 × gs_M)) (x1 : Int32) (a2 : Nat) (x3 : Int32) (x4 : Int32) (x5 : Int32) (μ : gs_M) : Option (Int32 × gs_M) :=
  if x5 = 0 then (some (x4, μ)) else (if (gI μ 78 11) = (-1 : Int32) then (bd0 (D_X12_readItems x1 a2 (x3 + ((5 : Int32) * x4)) μ) (fun u4 => if (gI u4 78 11) = (-1 : Int32) then (bd (D_X12_look u4) (fun v8 u7 => if v8 = (59 : Int32) then (B_X12_readRows_56 q6 x1 a2 x3 (x4 + (1 : Int32)) (1 : Int32) u7) else (B_X12_readRows_55 q6 x1 a2 x3 (x4 + (1 : Int32)) u7))) else (B_X12_readRows_55 q6 x1 a2 x3 (x4 + (1 : Int32)) u4))) else (some (x4, μ)))
def L_X12_readRows_6  : Nat → Int32 → Nat → Int32 → Int32 → Int32 → gs_M → Option (Int32 × gs_M)
  | 0 => fun _ _ _ _ _ _ => none
  | n + 1 => fun x1 a2 x3 x4 x5 μ => Bo_X12_readRows_6  (L_X12_readRows_6  n) x1 a2 x3 x4 x5 μ
def D_X12_readRows (x1 : Int32) (a2 : Nat) (x3 : Int32) (μ : gs_M) : Option (Int32 × gs_M) :=
  L_X12_readRows_6 4096 x1 a2 x3 (0 : Int32) (1 : Int32) μ
section S_X12_readRows
variable {p : Program} {l : Launch} {e : Env} {R : Room} {s : State} {m : MethodId} {args : Array Value} {below : List Frame} {meth : Method} {c : Code} {ad : Nat → Nat} {g : va_G} {tyc : Nat → ClassId}
set_option maxRecDepth 20000 in
theorem T_X12_readRows_74  (hK : KC p R s m args meth c ad g tyc RX12 cX12_readRows 6 (some .int) 6) {r : Int32} {μ2 : gs_M} {q6 : Int32 → Nat → Int32 → Int32 → Int32 → gs_M → Option (Int32 × gs_M)} (hq6 : ∀ (x1 : Int32) (a2 : Nat) (x3 : Int32) (x4 : Int32) (x5 : Int32) (μ : gs_M), kd a2 = 20 → q6 x1 a2 x3 x4 x5 μ = some (r, μ2) → WJ p l e R s m args below meth c 0 0 (MQ below (gs_Q ad g tyc (some (.int r)) μ2) args s 0 0 (gs_A ad)) ad g tyc 6 6 [.ref 78, .int x1, .ref a2, .int x3, .int x4, .int x5] [] μ) {x1 : Int32} {a2 : Nat} {x3 : Int32} {x4 : Int32} {x5 : Int32} {μ : gs_M} (hk2 : kd a2 = 20) (hD : B_X12_readRows_74 q6 x1 a2 x3 x4 x5 μ = some (r, μ2)) : WJ p l e R s m args below meth c 0 0 (MQ below (gs_Q ad g tyc (some (.int r)) μ2) args s 0 0 (gs_A ad)) ad g tyc 6 74 [.ref 78, .int x1, .ref a2, .int x3, .int x4, .int x5] [] μ := by
  unfold B_X12_readRows_74 at hD
  refine r_iload hK d_X12_readRows_74 rfl ?_
  refine r_if_eq (tgt := 6) hK d_X12_readRows_76 (by decide) (fun h1 => ?_) (fun h1 => ?_)
  · have hD := if_t hD h1
    exact hq6 _ _ _ _ _ _ hk2 hD
  · have hD := if_f hD h1
    refine r_aload_n hK d_X12_readRows_79 rfl rfl ?_
    refine r_getI hK d_X12_readRows_80 fl_RX12_128_11 rfl kd_78 ?_
    refine r_iconst hK d_X12_readRows_83 ci_m1 ?_
    refine r_icmp_ne (tgt := 6) hK d_X12_readRows_84 (by decide) (fun h2 => ?_) (fun h2 => ?_)
    · have hD := if_f hD h2
      exact hq6 _ _ _ _ _ _ hk2 hD
    · have hD := if_t hD h2
      refine r_aload_n hK d_X12_readRows_87 rfl rfl ?_
      refine r_dup hK d_X12_readRows_88 rfl ?_
      refine r_getI hK d_X12_readRows_89 fl_RX12_119_11 rfl kd_78 ?_
      refine r_iconst hK d_X12_readRows_92 ci_1 ?_
      refine r_iadd hK d_X12_readRows_93 ?_
      refine r_putI hK d_X12_readRows_94 fl_RX12_119_11 rfl rfl kd_78 ?_
      refine r_ltm hD (fun u3 hD => ?_)
      refine r_goto (tgt := 6) hK d_X12_readRows_97 (by decide) ?_
      exact hq6 _ _ _ _ _ _ hk2 hD
set_option maxRecDepth 20000 in
theorem T_X12_readRows_56  (hK : KC p R s m args meth c ad g tyc RX12 cX12_readRows 6 (some .int) 6) {r : Int32} {μ2 : gs_M} {q6 : Int32 → Nat → Int32 → Int32 → Int32 → gs_M → Option (Int32 × gs_M)} (hq6 : ∀ (x1 : Int32) (a2 : Nat) (x3 : Int32) (x4 : Int32) (x5 : Int32) (μ : gs_M), kd a2 = 20 → q6 x1 a2 x3 x4 x5 μ = some (r, μ2) → WJ p l e R s m args below meth c 0 0 (MQ below (gs_Q ad g tyc (some (.int r)) μ2) args s 0 0 (gs_A ad)) ad g tyc 6 6 [.ref 78, .int x1, .ref a2, .int x3, .int x4, .int x5] [] μ) {x1 : Int32} {a2 : Nat} {x3 : Int32} {x4 : Int32} {xs0 : Int32} {μ : gs_M} (hk2 : kd a2 = 20) (hD : B_X12_readRows_56 q6 x1 a2 x3 x4 xs0 μ = some (r, μ2)) : WJ p l e R s m args below meth c 0 0 (MQ below (gs_Q ad g tyc (some (.int r)) μ2) args s 0 0 (gs_A ad)) ad g tyc 6 56 [.ref 78, .int x1, .ref a2, .int x3, .int x4, gs_J] [.int xs0] μ := by
  unfold B_X12_readRows_56 at hD
  refine r_istore hK d_X12_readRows_56 (by decide) (ls2 := [.ref 78, .int x1, .ref a2, .int x3, .int x4, .int xs0]) rfl ?_
  refine r_iload hK d_X12_readRows_58 rfl ?_
  refine r_if_eq (tgt := 74) hK d_X12_readRows_60 (by decide) (fun h1 => ?_) (fun h1 => ?_)
  · have hD := if_t hD h1
    exact T_X12_readRows_74 hK hq6 hk2 hD
  · have hD := if_f hD h1
    refine r_iload hK d_X12_readRows_63 rfl ?_
    refine r_iconst hK d_X12_readRows_65 ci_4 ?_
    refine r_icmp_ne (tgt := 74) hK d_X12_readRows_66 (by decide) (fun h2 => ?_) (fun h2 => ?_)
    · have hD := if_f hD h2
      exact T_X12_readRows_74 hK hq6 hk2 hD
    · have hD := if_t hD h2
      refine r_aload_n hK d_X12_readRows_69 rfl rfl ?_
      obtain ⟨v5, u4, e3, hD⟩ := bd_e hD
      refine r_callV (As := []) (st := []) (stk2 := [.int v5]) hK (C_X12_fails  e3) d_X12_readRows_70 mf_X12_fails ml_RX12_134 im_X12_fails rfl se_11_RX12_X12_fails kd_78 rfl (Nat.le_of_ble_eq_true rfl) (by decide) ⟨Nat.zero_le _, Nat.zero_le _⟩ rfl rfl ?_
      refine r_pop hK d_X12_readRows_73 rfl ?_
      exact T_X12_readRows_74 hK hq6 hk2 hD
set_option maxRecDepth 20000 in
theorem T_X12_readRows_55  (hK : KC p R s m args meth c ad g tyc RX12 cX12_readRows 6 (some .int) 6) {r : Int32} {μ2 : gs_M} {q6 : Int32 → Nat → Int32 → Int32 → Int32 → gs_M → Option (Int32 × gs_M)} (hq6 : ∀ (x1 : Int32) (a2 : Nat) (x3 : Int32) (x4 : Int32) (x5 : Int32) (μ : gs_M), kd a2 = 20 → q6 x1 a2 x3 x4 x5 μ = some (r, μ2) → WJ p l e R s m args below meth c 0 0 (MQ below (gs_Q ad g tyc (some (.int r)) μ2) args s 0 0 (gs_A ad)) ad g tyc 6 6 [.ref 78, .int x1, .ref a2, .int x3, .int x4, .int x5] [] μ) {x1 : Int32} {a2 : Nat} {x3 : Int32} {x4 : Int32} {μ : gs_M} (hk2 : kd a2 = 20) (hD : B_X12_readRows_55 q6 x1 a2 x3 x4 μ = some (r, μ2)) : WJ p l e R s m args below meth c 0 0 (MQ below (gs_Q ad g tyc (some (.int r)) μ2) args s 0 0 (gs_A ad)) ad g tyc 6 55 [.ref 78, .int x1, .ref a2, .int x3, .int x4, gs_J] [] μ := by
  unfold B_X12_readRows_55 at hD
  refine r_iconst hK d_X12_readRows_55 ci_0 ?_
  exact T_X12_readRows_56 hK hq6 hk2 hD
set_option maxRecDepth 20000 in
theorem To_X12_readRows_6  (hK : KC p R s m args meth c ad g tyc RX12 cX12_readRows 6 (some .int) 6) {r : Int32} {μ2 : gs_M} {q6 : Int32 → Nat → Int32 → Int32 → Int32 → gs_M → Option (Int32 × gs_M)} (hq6 : ∀ (x1 : Int32) (a2 : Nat) (x3 : Int32) (x4 : Int32) (x5 : Int32) (μ : gs_M), kd a2 = 20 → q6 x1 a2 x3 x4 x5 μ = some (r, μ2) → WJ p l e R s m args below meth c 0 0 (MQ below (gs_Q ad g tyc (some (.int r)) μ2) args s 0 0 (gs_A ad)) ad g tyc 6 6 [.ref 78, .int x1, .ref a2, .int x3, .int x4, .int x5] [] μ) {x1 : Int32} {a2 : Nat} {x3 : Int32} {x4 : Int32} {x5 : Int32} {μ : gs_M} (hk2 : kd a2 = 20) (hD : Bo_X12_readRows_6 q6 x1 a2 x3 x4 x5 μ = some (r, μ2)) : WJ p l e R s m args below meth c 0 0 (MQ below (gs_Q ad g tyc (some (.int r)) μ2) args s 0 0 (gs_A ad)) ad g tyc 6 6 [.ref 78, .int x1, .ref a2, .int x3, .int x4, .int x5] [] μ := by
  unfold Bo_X12_readRows_6 at hD
  refine r_iload hK d_X12_readRows_6 rfl ?_
  refine r_if_eq (tgt := 100) hK d_X12_readRows_8 (by decide) (fun h1 => ?_) (fun h1 => ?_)
  · have hD := if_t hD h1
    refine r_iload hK d_X12_readRows_100 rfl ?_
    cases hD
    exact r_iret hK d_X12_readRows_102
  · have hD := if_f hD h1
    refine r_aload_n hK d_X12_readRows_11 rfl rfl ?_
    refine r_getI hK d_X12_readRows_12 fl_RX12_128_11 rfl kd_78 ?_
    refine r_iconst hK d_X12_readRows_15 ci_m1 ?_
    refine r_icmp_ne (tgt := 100) hK d_X12_readRows_16 (by decide) (fun h2 => ?_) (fun h2 => ?_)
    · have hD := if_f hD h2
      refine r_iload hK d_X12_readRows_100 rfl ?_
      cases hD
      exact r_iret hK d_X12_readRows_102
    · have hD := if_t hD h2
      refine r_aload_n hK d_X12_readRows_19 rfl rfl ?_
      refine r_iload_n hK d_X12_readRows_20 rfl rfl ?_
      refine r_aload_n hK d_X12_readRows_21 rfl rfl ?_
      refine r_iload_n hK d_X12_readRows_22 rfl rfl ?_
      refine r_iconst hK d_X12_readRows_23 ci_5 ?_
      refine r_iload hK d_X12_readRows_24 rfl ?_
      refine r_imul hK d_X12_readRows_26 ?_
      refine r_iadd hK d_X12_readRows_27 ?_
      obtain ⟨u4, e3, hD⟩ := bd0_e hD
      refine r_callV (As := [.int x1, .ref a2, .int (x3 + ((5 : Int32) * x4))]) (st := []) (stk2 := []) hK (C_X12_readItems hk2 e3) d_X12_readRows_28 mf_X12_readItems ml_RX12_242 im_X12_readItems rfl se_11_RX12_X12_readItems kd_78 rfl (Nat.le_of_ble_eq_true rfl) (by decide) ⟨Nat.zero_le _, Nat.zero_le _⟩ rfl rfl ?_
      refine r_iinc hK d_X12_readRows_31 rfl (v := x4 + (1 : Int32)) (by rw [ci_1]) (by decide) (ls2 := [.ref 78, .int x1, .ref a2, .int x3, .int (x4 + (1 : Int32)), .int x5]) rfl ?_
      refine r_aload_n hK d_X12_readRows_34 rfl rfl ?_
      refine r_getI hK d_X12_readRows_35 fl_RX12_128_11 rfl kd_78 ?_
      refine r_iconst hK d_X12_readRows_38 ci_m1 ?_
      refine r_icmp_ne (tgt := 55) hK d_X12_readRows_39 (by decide) (fun h5 => ?_) (fun h5 => ?_)
      · have hD := if_f hD h5
        refine r_junk [true, true, true, true, true, false] (ls2 := [.ref 78, .int x1, .ref a2, .int x3, .int (x4 + (1 : Int32)), gs_J]) rfl ?_
        exact T_X12_readRows_55 hK hq6 hk2 hD
      · have hD := if_t hD h5
        refine r_aload_n hK d_X12_readRows_42 rfl rfl ?_
        obtain ⟨v8, u7, e6, hD⟩ := bd_e hD
        refine r_callV (As := []) (st := []) (stk2 := [.int v8]) hK (C_X12_look  e6) d_X12_readRows_43 mf_X12_look ml_RX12_138 im_X12_look rfl se_11_RX12_X12_look kd_78 rfl (Nat.le_of_ble_eq_true rfl) (by decide) ⟨Nat.zero_le _, Nat.zero_le _⟩ rfl rfl ?_
        refine r_bipush hK d_X12_readRows_46 cb_59 ?_
        refine r_icmp_ne (tgt := 55) hK d_X12_readRows_48 (by decide) (fun h9 => ?_) (fun h9 => ?_)
        · have hD := if_f hD h9
          refine r_junk [true, true, true, true, true, false] (ls2 := [.ref 78, .int x1, .ref a2, .int x3, .int (x4 + (1 : Int32)), gs_J]) rfl ?_
          exact T_X12_readRows_55 hK hq6 hk2 hD
        · have hD := if_t hD h9
          refine r_iconst hK d_X12_readRows_51 ci_1 ?_
          refine r_goto (tgt := 56) hK d_X12_readRows_52 (by decide) ?_
          refine r_junk [true, true, true, true, true, false] (ls2 := [.ref 78, .int x1, .ref a2, .int x3, .int (x4 + (1 : Int32)), gs_J]) rfl ?_
          exact T_X12_readRows_56 hK hq6 hk2 hD
set_option maxRecDepth 20000 in
theorem TL_X12_readRows_6  (hK : KC p R s m args meth c ad g tyc RX12 cX12_readRows 6 (some .int) 6) {r : Int32} {μ2 : gs_M}   : ∀ (n : Nat) (x1 : Int32) (a2 : Nat) (x3 : Int32) (x4 : Int32) (x5 : Int32) (μ : gs_M), kd a2 = 20 → L_X12_readRows_6  n x1 a2 x3 x4 x5 μ = some (r, μ2) → WJ p l e R s m args below meth c 0 0 (MQ below (gs_Q ad g tyc (some (.int r)) μ2) args s 0 0 (gs_A ad)) ad g tyc 6 6 [.ref 78, .int x1, .ref a2, .int x3, .int x4, .int x5] [] μ := by
  intro n
  induction n with
  | zero => intro x1 a2 x3 x4 x5 μ hk2 hD; cases hD
  | succ n ih => intro x1 a2 x3 x4 x5 μ hk2 hD; exact To_X12_readRows_6 hK  ih hk2 hD
set_option maxRecDepth 20000 in
theorem C_X12_readRows  {x1 : Int32} {a2 : Nat} {x3 : Int32} {μ : gs_M} {r : Int32} {μ2 : gs_M} (hk2 : kd a2 = 20) (hD : D_X12_readRows x1 a2 x3 μ = some (r, μ2)) : CALL yX12_readRows cX12_readRows 6 (some .int) 6 [.ref 78, .int x1, .ref a2, .int x3] μ (some (.int r)) μ2 := by
  unfold D_X12_readRows at hD
  refine gs_enter mf_X12_readRows (Nat.le_of_ble_eq_true rfl) (ls := [.ref 78, .int x1, .ref a2, .int x3, gs_J, gs_J]) rfl (fun p l e R s m args below meth c ad g tyc hK => ?_)
  have hK : KC p R s m args meth c ad g tyc RX12 cX12_readRows 6 (some .int) 6 := hK
  refine r_iconst hK d_X12_readRows_0 ci_0 ?_
  refine r_istore hK d_X12_readRows_1 (by decide) (ls2 := [.ref 78, .int x1, .ref a2, .int x3, .int (0 : Int32), gs_J]) rfl ?_
  refine r_iconst hK d_X12_readRows_3 ci_1 ?_
  refine r_istore hK d_X12_readRows_4 (by decide) (ls2 := [.ref 78, .int x1, .ref a2, .int x3, .int (0 : Int32), .int (1 : Int32)]) rfl ?_
  exact TL_X12_readRows_6 hK  _ _ _ _ _ _ _ hk2 hD
end S_X12_readRows
theorem d_X12_read_0 : gd cX12_read 0 (.aload_n 0) 1 1 := ⟨by decide +kernel, rfl⟩
theorem d_X12_read_1 : gd cX12_read 1 (.aload_n 0) 1 2 := ⟨by decide +kernel, rfl⟩
theorem d_X12_read_2 : gd cX12_read 2 (.getfield 9) 3 5 := ⟨by decide +kernel, rfl⟩
theorem d_X12_read_5 : gd cX12_read 5 (.iconst 0) 1 6 := ⟨by decide +kernel, rfl⟩
theorem d_X12_read_6 : gd cX12_read 6 (.aload_n 0) 1 7 := ⟨by decide +kernel, rfl⟩
theorem d_X12_read_7 : gd cX12_read 7 (.getfield 109) 3 10 := ⟨by decide +kernel, rfl⟩
theorem d_X12_read_10 : gd cX12_read 10 (.invokevirtual 207) 3 13 := ⟨by decide +kernel, rfl⟩
theorem d_X12_read_13 : gd cX12_read 13 (.iload_n 1) 1 14 := ⟨by decide +kernel, rfl⟩
theorem d_X12_read_14 : gd cX12_read 14 (.ifCond .ne 18) 3 17 := ⟨by decide +kernel, rfl⟩
theorem d_X12_read_17 : gd cX12_read 17 (.aload_n 0) 1 18 := ⟨by decide +kernel, rfl⟩
theorem d_X12_read_18 : gd cX12_read 18 (.iconst 0) 1 19 := ⟨by decide +kernel, rfl⟩
theorem d_X12_read_19 : gd cX12_read 19 (.aload_n 0) 1 20 := ⟨by decide +kernel, rfl⟩
theorem d_X12_read_20 : gd cX12_read 20 (.getfield 37) 3 23 := ⟨by decide +kernel, rfl⟩
theorem d_X12_read_23 : gd cX12_read 23 (.iconst 5) 1 24 := ⟨by decide +kernel, rfl⟩
theorem d_X12_read_24 : gd cX12_read 24 (.iload_n 2) 1 25 := ⟨by decide +kernel, rfl⟩
theorem d_X12_read_25 : gd cX12_read 25 .imul 1 26 := ⟨by decide +kernel, rfl⟩
theorem d_X12_read_26 : gd cX12_read 26 (.invokevirtual 242) 3 29 := ⟨by decide +kernel, rfl⟩
theorem d_X12_read_29 : gd cX12_read 29 (.goto 49) 3 32 := ⟨by decide +kernel, rfl⟩
theorem d_X12_read_32 : gd cX12_read 32 (.iload_n 1) 1 33 := ⟨by decide +kernel, rfl⟩
theorem d_X12_read_33 : gd cX12_read 33 (.iconst 1) 1 34 := ⟨by decide +kernel, rfl⟩
theorem d_X12_read_34 : gd cX12_read 34 (.if_icmp .ne 25) 3 37 := ⟨by decide +kernel, rfl⟩
theorem d_X12_read_37 : gd cX12_read 37 (.aload_n 0) 1 38 := ⟨by decide +kernel, rfl⟩
theorem d_X12_read_38 : gd cX12_read 38 (.getfield 46) 3 41 := ⟨by decide +kernel, rfl⟩
theorem d_X12_read_41 : gd cX12_read 41 (.iload_n 2) 1 42 := ⟨by decide +kernel, rfl⟩
theorem d_X12_read_42 : gd cX12_read 42 (.aload_n 0) 1 43 := ⟨by decide +kernel, rfl⟩
theorem d_X12_read_43 : gd cX12_read 43 (.iconst 1) 1 44 := ⟨by decide +kernel, rfl⟩
theorem d_X12_read_44 : gd cX12_read 44 (.aload_n 0) 1 45 := ⟨by decide +kernel, rfl⟩
theorem d_X12_read_45 : gd cX12_read 45 (.getfield 40) 3 48 := ⟨by decide +kernel, rfl⟩
theorem d_X12_read_48 : gd cX12_read 48 (.bipush 20) 2 50 := ⟨by decide +kernel, rfl⟩
theorem d_X12_read_50 : gd cX12_read 50 (.iload_n 2) 1 51 := ⟨by decide +kernel, rfl⟩
theorem d_X12_read_51 : gd cX12_read 51 .imul 1 52 := ⟨by decide +kernel, rfl⟩
theorem d_X12_read_52 : gd cX12_read 52 (.invokevirtual 246) 3 55 := ⟨by decide +kernel, rfl⟩
theorem d_X12_read_55 : gd cX12_read 55 .iastore 1 56 := ⟨by decide +kernel, rfl⟩
theorem d_X12_read_56 : gd cX12_read 56 (.goto 22) 3 59 := ⟨by decide +kernel, rfl⟩
theorem d_X12_read_59 : gd cX12_read 59 (.aload_n 0) 1 60 := ⟨by decide +kernel, rfl⟩
theorem d_X12_read_60 : gd cX12_read 60 (.getfield 49) 3 63 := ⟨by decide +kernel, rfl⟩
theorem d_X12_read_63 : gd cX12_read 63 (.iload_n 2) 1 64 := ⟨by decide +kernel, rfl⟩
theorem d_X12_read_64 : gd cX12_read 64 (.aload_n 0) 1 65 := ⟨by decide +kernel, rfl⟩
theorem d_X12_read_65 : gd cX12_read 65 (.iconst 2) 1 66 := ⟨by decide +kernel, rfl⟩
theorem d_X12_read_66 : gd cX12_read 66 (.aload_n 0) 1 67 := ⟨by decide +kernel, rfl⟩
theorem d_X12_read_67 : gd cX12_read 67 (.getfield 43) 3 70 := ⟨by decide +kernel, rfl⟩
theorem d_X12_read_70 : gd cX12_read 70 (.bipush 20) 2 72 := ⟨by decide +kernel, rfl⟩
theorem d_X12_read_72 : gd cX12_read 72 (.iload_n 2) 1 73 := ⟨by decide +kernel, rfl⟩
theorem d_X12_read_73 : gd cX12_read 73 .imul 1 74 := ⟨by decide +kernel, rfl⟩
theorem d_X12_read_74 : gd cX12_read 74 (.invokevirtual 246) 3 77 := ⟨by decide +kernel, rfl⟩
theorem d_X12_read_77 : gd cX12_read 77 .iastore 1 78 := ⟨by decide +kernel, rfl⟩
theorem d_X12_read_78 : gd cX12_read 78 (.aload_n 0) 1 79 := ⟨by decide +kernel, rfl⟩
theorem d_X12_read_79 : gd cX12_read 79 (.getfield 128) 3 82 := ⟨by decide +kernel, rfl⟩
theorem d_X12_read_82 : gd cX12_read 82 (.iconst (-1)) 1 83 := ⟨by decide +kernel, rfl⟩
theorem d_X12_read_83 : gd cX12_read 83 (.if_icmp .ne 16) 3 86 := ⟨by decide +kernel, rfl⟩
theorem d_X12_read_86 : gd cX12_read 86 (.aload_n 0) 1 87 := ⟨by decide +kernel, rfl⟩
theorem d_X12_read_87 : gd cX12_read 87 (.invokevirtual 138) 3 90 := ⟨by decide +kernel, rfl⟩
theorem d_X12_read_90 : gd cX12_read 90 (.iconst (-1)) 1 91 := ⟨by decide +kernel, rfl⟩
theorem d_X12_read_91 : gd cX12_read 91 (.if_icmp .eq 8) 3 94 := ⟨by decide +kernel, rfl⟩
theorem d_X12_read_94 : gd cX12_read 94 (.aload_n 0) 1 95 := ⟨by decide +kernel, rfl⟩
theorem d_X12_read_95 : gd cX12_read 95 (.invokevirtual 134) 3 98 := ⟨by decide +kernel, rfl⟩
theorem d_X12_read_98 : gd cX12_read 98 .pop 1 99 := ⟨by decide +kernel, rfl⟩
theorem d_X12_read_99 : gd cX12_read 99 .return_ 1 100 := ⟨by decide +kernel, rfl⟩
def B_X12_read_78   (μ : gs_M) : Option (gs_M) :=
  if (gI μ 78 11) = (-1 : Int32) then (bd (D_X12_look μ) (fun v4 u3 => if v4 = (-1 : Int32) then (some u3) else (bd (D_X12_fails u3) (fun v8 u7 => some u7)))) else (some μ)
def D_X12_read (x1 : Int32) (x2 : Int32) (μ : gs_M) : Option (gs_M) :=
  bd0 (D_X12_opens 79 (0 : Int32) (gI μ 78 6) μ) (fun u2 => if x1 = 0 then (bd0 (D_X12_readItems (0 : Int32) 83 ((5 : Int32) * x2) u2) (fun u16 => B_X12_read_78 u16)) else (if x1 = (1 : Int32) then (bd (D_X12_readRows (1 : Int32) 84 ((20 : Int32) * x2) u2) (fun v12 u11 => ck (inb x2 4) (lt1 (sI u11 86 (Int32.toNatClampNeg x2) v12) (fun u14 => B_X12_read_78 u14)))) else (bd (D_X12_readRows (2 : Int32) 85 ((20 : Int32) * x2) u2) (fun v7 u6 => ck (inb x2 7) (lt1 (sI u6 87 (Int32.toNatClampNeg x2) v7) (fun u9 => B_X12_read_78 u9))))))
section S_X12_read
variable {p : Program} {l : Launch} {e : Env} {R : Room} {s : State} {m : MethodId} {args : Array Value} {below : List Frame} {meth : Method} {c : Code} {ad : Nat → Nat} {g : va_G} {tyc : Nat → ClassId}
set_option maxRecDepth 20000 in
theorem T_X12_read_78  (hK : KC p R s m args meth c ad g tyc RX12 cX12_read 3 none 7) {μ2 : gs_M}    {μ : gs_M}  (hD : B_X12_read_78   μ = some μ2) : WJ p l e R s m args below meth c 0 0 (MQ below (gs_Q ad g tyc none μ2) args s 0 0 (gs_A ad)) ad g tyc 3 78 [.ref 78, gs_J, gs_J] [] μ := by
  unfold B_X12_read_78 at hD
  refine r_aload_n hK d_X12_read_78 rfl rfl ?_
  refine r_getI hK d_X12_read_79 fl_RX12_128_11 rfl kd_78 ?_
  refine r_iconst hK d_X12_read_82 ci_m1 ?_
  refine r_icmp_ne (tgt := 99) hK d_X12_read_83 (by decide) (fun h1 => ?_) (fun h1 => ?_)
  · have hD := if_f hD h1
    cases hD
    exact r_vret hK d_X12_read_99
  · have hD := if_t hD h1
    refine r_aload_n hK d_X12_read_86 rfl rfl ?_
    obtain ⟨v4, u3, e2, hD⟩ := bd_e hD
    refine r_callV (As := []) (st := []) (stk2 := [.int v4]) hK (C_X12_look  e2) d_X12_read_87 mf_X12_look ml_RX12_138 im_X12_look rfl se_11_RX12_X12_look kd_78 rfl (Nat.le_of_ble_eq_true rfl) (by decide) ⟨Nat.zero_le _, Nat.zero_le _⟩ rfl rfl ?_
    refine r_iconst hK d_X12_read_90 ci_m1 ?_
    refine r_icmp_eq (tgt := 99) hK d_X12_read_91 (by decide) (fun h5 => ?_) (fun h5 => ?_)
    · have hD := if_t hD h5
      cases hD
      exact r_vret hK d_X12_read_99
    · have hD := if_f hD h5
      refine r_aload_n hK d_X12_read_94 rfl rfl ?_
      obtain ⟨v8, u7, e6, hD⟩ := bd_e hD
      refine r_callV (As := []) (st := []) (stk2 := [.int v8]) hK (C_X12_fails  e6) d_X12_read_95 mf_X12_fails ml_RX12_134 im_X12_fails rfl se_11_RX12_X12_fails kd_78 rfl (Nat.le_of_ble_eq_true rfl) (by decide) ⟨Nat.zero_le _, Nat.zero_le _⟩ rfl rfl ?_
      refine r_pop hK d_X12_read_98 rfl ?_
      cases hD
      exact r_vret hK d_X12_read_99
set_option maxRecDepth 20000 in
theorem C_X12_read  {x1 : Int32} {x2 : Int32} {μ : gs_M} {μ2 : gs_M}  (hD : D_X12_read x1 x2 μ = some μ2) : CALL yX12_read cX12_read 3 none 7 [.ref 78, .int x1, .int x2] μ none μ2 := by
  unfold D_X12_read at hD
  refine gs_enter mf_X12_read (Nat.le_of_ble_eq_true rfl) (ls := [.ref 78, .int x1, .int x2]) rfl (fun p l e R s m args below meth c ad g tyc hK => ?_)
  have hK : KC p R s m args meth c ad g tyc RX12 cX12_read 3 none 7 := hK
  refine r_aload_n hK d_X12_read_0 rfl rfl ?_
  refine r_aload_n hK d_X12_read_1 rfl rfl ?_
  refine r_getR hK d_X12_read_2 fl_RX12_9_11 rfl kd_78 ?_
  refine r_ref (b := 79) R0_78_1 ?_
  refine r_iconst hK d_X12_read_5 ci_0 ?_
  refine r_aload_n hK d_X12_read_6 rfl rfl ?_
  refine r_getI hK d_X12_read_7 fl_RX12_109_11 rfl kd_78 ?_
  obtain ⟨u2, e1, hD⟩ := bd0_e hD
  refine r_callV (As := [.ref 79, .int (0 : Int32), .int (gI μ 78 6)]) (st := []) (stk2 := []) hK (C_X12_opens kd_79 e1) d_X12_read_10 mf_X12_opens ml_RX12_207 im_X12_opens rfl se_11_RX12_X12_opens kd_78 rfl (Nat.le_of_ble_eq_true rfl) (by decide) ⟨Nat.zero_le _, Nat.zero_le _⟩ rfl rfl ?_
  refine r_iload_n hK d_X12_read_13 rfl rfl ?_
  refine r_if_ne (tgt := 32) hK d_X12_read_14 (by decide) (fun h3 => ?_) (fun h3 => ?_)
  · have hD := if_f hD h3
    refine r_iload_n hK d_X12_read_32 rfl rfl ?_
    refine r_iconst hK d_X12_read_33 ci_1 ?_
    refine r_icmp_ne (tgt := 59) hK d_X12_read_34 (by decide) (fun h4 => ?_) (fun h4 => ?_)
    · have hD := if_f hD h4
      refine r_aload_n hK d_X12_read_59 rfl rfl ?_
      refine r_getR hK d_X12_read_60 fl_RX12_49_11 rfl kd_78 ?_
      refine r_ref (b := 87) R0_78_22 ?_
      refine r_iload_n hK d_X12_read_63 rfl rfl ?_
      refine r_aload_n hK d_X12_read_64 rfl rfl ?_
      refine r_iconst hK d_X12_read_65 ci_2 ?_
      refine r_aload_n hK d_X12_read_66 rfl rfl ?_
      refine r_getR hK d_X12_read_67 fl_RX12_43_11 rfl kd_78 ?_
      refine r_ref (b := 85) R0_78_20 ?_
      refine r_bipush hK d_X12_read_70 cb_20 ?_
      refine r_iload_n hK d_X12_read_72 rfl rfl ?_
      refine r_imul hK d_X12_read_73 ?_
      obtain ⟨v7, u6, e5, hD⟩ := bd_e hD
      refine r_callV (As := [.int (2 : Int32), .ref 85, .int ((20 : Int32) * x2)]) (st := [.int x2, .ref 87]) (stk2 := [.int v7, .int x2, .ref 87]) hK (C_X12_readRows kd_85 e5) d_X12_read_74 mf_X12_readRows ml_RX12_246 im_X12_readRows rfl se_11_RX12_X12_readRows kd_78 rfl (Nat.le_of_ble_eq_true rfl) (by decide) ⟨Nat.zero_le _, Nat.zero_le _⟩ rfl rfl ?_
      obtain ⟨h8, hD⟩ := ck_e hD
      refine r_iast hK d_X12_read_77 kd_87 ln_87 (inb_in h8) ?_
      refine r_ltm hD (fun u9 hD => ?_)
      refine r_junk [true, false, false] (ls2 := [.ref 78, gs_J, gs_J]) rfl ?_
      exact T_X12_read_78 hK   hD
    · have hD := if_t hD h4
      refine r_aload_n hK d_X12_read_37 rfl rfl ?_
      refine r_getR hK d_X12_read_38 fl_RX12_46_11 rfl kd_78 ?_
      refine r_ref (b := 86) R0_78_21 ?_
      refine r_iload_n hK d_X12_read_41 rfl rfl ?_
      refine r_aload_n hK d_X12_read_42 rfl rfl ?_
      refine r_iconst hK d_X12_read_43 ci_1 ?_
      refine r_aload_n hK d_X12_read_44 rfl rfl ?_
      refine r_getR hK d_X12_read_45 fl_RX12_40_11 rfl kd_78 ?_
      refine r_ref (b := 84) R0_78_19 ?_
      refine r_bipush hK d_X12_read_48 cb_20 ?_
      refine r_iload_n hK d_X12_read_50 rfl rfl ?_
      refine r_imul hK d_X12_read_51 ?_
      obtain ⟨v12, u11, e10, hD⟩ := bd_e hD
      refine r_callV (As := [.int (1 : Int32), .ref 84, .int ((20 : Int32) * x2)]) (st := [.int x2, .ref 86]) (stk2 := [.int v12, .int x2, .ref 86]) hK (C_X12_readRows kd_84 e10) d_X12_read_52 mf_X12_readRows ml_RX12_246 im_X12_readRows rfl se_11_RX12_X12_readRows kd_78 rfl (Nat.le_of_ble_eq_true rfl) (by decide) ⟨Nat.zero_le _, Nat.zero_le _⟩ rfl rfl ?_
      obtain ⟨h13, hD⟩ := ck_e hD
      refine r_iast hK d_X12_read_55 kd_86 ln_86 (inb_in h13) ?_
      refine r_ltm hD (fun u14 hD => ?_)
      refine r_goto (tgt := 78) hK d_X12_read_56 (by decide) ?_
      refine r_junk [true, false, false] (ls2 := [.ref 78, gs_J, gs_J]) rfl ?_
      exact T_X12_read_78 hK   hD
  · have hD := if_t hD h3
    refine r_aload_n hK d_X12_read_17 rfl rfl ?_
    refine r_iconst hK d_X12_read_18 ci_0 ?_
    refine r_aload_n hK d_X12_read_19 rfl rfl ?_
    refine r_getR hK d_X12_read_20 fl_RX12_37_11 rfl kd_78 ?_
    refine r_ref (b := 83) R0_78_18 ?_
    refine r_iconst hK d_X12_read_23 ci_5 ?_
    refine r_iload_n hK d_X12_read_24 rfl rfl ?_
    refine r_imul hK d_X12_read_25 ?_
    obtain ⟨u16, e15, hD⟩ := bd0_e hD
    refine r_callV (As := [.int (0 : Int32), .ref 83, .int ((5 : Int32) * x2)]) (st := []) (stk2 := []) hK (C_X12_readItems kd_83 e15) d_X12_read_26 mf_X12_readItems ml_RX12_242 im_X12_readItems rfl se_11_RX12_X12_readItems kd_78 rfl (Nat.le_of_ble_eq_true rfl) (by decide) ⟨Nat.zero_le _, Nat.zero_le _⟩ rfl rfl ?_
    refine r_goto (tgt := 78) hK d_X12_read_29 (by decide) ?_
    refine r_junk [true, false, false] (ls2 := [.ref 78, gs_J, gs_J]) rfl ?_
    exact T_X12_read_78 hK   hD
end S_X12_read
theorem d_X12_mostTexts_0 : gd cX12_mostTexts 0 (.iload_n 0) 1 1 := ⟨by decide +kernel, rfl⟩
theorem d_X12_mostTexts_1 : gd cX12_mostTexts 1 (.ifCond .ne 8) 3 4 := ⟨by decide +kernel, rfl⟩
theorem d_X12_mostTexts_4 : gd cX12_mostTexts 4 (.bipush 6) 2 6 := ⟨by decide +kernel, rfl⟩
theorem d_X12_mostTexts_6 : gd cX12_mostTexts 6 (.goto 14) 3 9 := ⟨by decide +kernel, rfl⟩
theorem d_X12_mostTexts_9 : gd cX12_mostTexts 9 (.iload_n 0) 1 10 := ⟨by decide +kernel, rfl⟩
theorem d_X12_mostTexts_10 : gd cX12_mostTexts 10 (.iconst 1) 1 11 := ⟨by decide +kernel, rfl⟩
theorem d_X12_mostTexts_11 : gd cX12_mostTexts 11 (.if_icmp .ne 7) 3 14 := ⟨by decide +kernel, rfl⟩
theorem d_X12_mostTexts_14 : gd cX12_mostTexts 14 (.iconst 3) 1 15 := ⟨by decide +kernel, rfl⟩
theorem d_X12_mostTexts_15 : gd cX12_mostTexts 15 (.goto 5) 3 18 := ⟨by decide +kernel, rfl⟩
theorem d_X12_mostTexts_18 : gd cX12_mostTexts 18 (.bipush 6) 2 20 := ⟨by decide +kernel, rfl⟩
theorem d_X12_mostTexts_20 : gd cX12_mostTexts 20 .ireturn 1 21 := ⟨by decide +kernel, rfl⟩
def D_X12_mostTexts (x0 : Int32) (μ : gs_M) : Option (Int32 × gs_M) :=
  if x0 = 0 then (some ((6 : Int32), μ)) else (if x0 = (1 : Int32) then (some ((3 : Int32), μ)) else (some ((6 : Int32), μ)))
section S_X12_mostTexts
variable {p : Program} {l : Launch} {e : Env} {R : Room} {s : State} {m : MethodId} {args : Array Value} {below : List Frame} {meth : Method} {c : Code} {ad : Nat → Nat} {g : va_G} {tyc : Nat → ClassId}
set_option maxRecDepth 20000 in
theorem C_X12_mostTexts  {x0 : Int32} {μ : gs_M} {r : Int32} {μ2 : gs_M}  (hD : D_X12_mostTexts x0 μ = some (r, μ2)) : CALL yX12_mostTexts cX12_mostTexts 1 (some .int) 0 [.int x0] μ (some (.int r)) μ2 := by
  unfold D_X12_mostTexts at hD
  refine gs_enter mf_X12_mostTexts (Nat.le_of_ble_eq_true rfl) (ls := [.int x0]) rfl (fun p l e R s m args below meth c ad g tyc hK => ?_)
  have hK : KC p R s m args meth c ad g tyc RX12 cX12_mostTexts 1 (some .int) 0 := hK
  refine r_iload_n hK d_X12_mostTexts_0 rfl rfl ?_
  refine r_if_ne (tgt := 9) hK d_X12_mostTexts_1 (by decide) (fun h1 => ?_) (fun h1 => ?_)
  · have hD := if_f hD h1
    refine r_iload_n hK d_X12_mostTexts_9 rfl rfl ?_
    refine r_iconst hK d_X12_mostTexts_10 ci_1 ?_
    refine r_icmp_ne (tgt := 18) hK d_X12_mostTexts_11 (by decide) (fun h2 => ?_) (fun h2 => ?_)
    · have hD := if_f hD h2
      refine r_bipush hK d_X12_mostTexts_18 cb_6 ?_
      cases hD
      exact r_iret hK d_X12_mostTexts_20
    · have hD := if_t hD h2
      refine r_iconst hK d_X12_mostTexts_14 ci_3 ?_
      refine r_goto (tgt := 20) hK d_X12_mostTexts_15 (by decide) ?_
      cases hD
      exact r_iret hK d_X12_mostTexts_20
  · have hD := if_t hD h1
    refine r_bipush hK d_X12_mostTexts_4 cb_6 ?_
    refine r_goto (tgt := 20) hK d_X12_mostTexts_6 (by decide) ?_
    cases hD
    exact r_iret hK d_X12_mostTexts_20
end S_X12_mostTexts
theorem d_X12_isStuff_0 : gd cX12_isStuff 0 (.iload_n 1) 1 1 := ⟨by decide +kernel, rfl⟩
theorem d_X12_isStuff_1 : gd cX12_isStuff 1 (.ifCond .lt 15) 3 4 := ⟨by decide +kernel, rfl⟩
theorem d_X12_isStuff_4 : gd cX12_isStuff 4 (.iload_n 1) 1 5 := ⟨by decide +kernel, rfl⟩
theorem d_X12_isStuff_5 : gd cX12_isStuff 5 (.aload_n 0) 1 6 := ⟨by decide +kernel, rfl⟩
theorem d_X12_isStuff_6 : gd cX12_isStuff 6 (.getfield 263) 3 9 := ⟨by decide +kernel, rfl⟩
theorem d_X12_isStuff_9 : gd cX12_isStuff 9 (.if_icmp .ge 7) 3 12 := ⟨by decide +kernel, rfl⟩
theorem d_X12_isStuff_12 : gd cX12_isStuff 12 (.iconst 1) 1 13 := ⟨by decide +kernel, rfl⟩
theorem d_X12_isStuff_13 : gd cX12_isStuff 13 (.goto 4) 3 16 := ⟨by decide +kernel, rfl⟩
theorem d_X12_isStuff_16 : gd cX12_isStuff 16 (.iconst 0) 1 17 := ⟨by decide +kernel, rfl⟩
theorem d_X12_isStuff_17 : gd cX12_isStuff 17 .ireturn 1 18 := ⟨by decide +kernel, rfl⟩
def B_X12_isStuff_16   (μ : gs_M) : Option (Int32 × gs_M) :=
  some ((0 : Int32), μ)
def D_X12_isStuff (x1 : Int32) (μ : gs_M) : Option (Int32 × gs_M) :=
  if x1 < 0 then (B_X12_isStuff_16 μ) else (if (gI μ 78 24) ≤ x1 then (B_X12_isStuff_16 μ) else (some ((1 : Int32), μ)))
section S_X12_isStuff
variable {p : Program} {l : Launch} {e : Env} {R : Room} {s : State} {m : MethodId} {args : Array Value} {below : List Frame} {meth : Method} {c : Code} {ad : Nat → Nat} {g : va_G} {tyc : Nat → ClassId}
set_option maxRecDepth 20000 in
theorem T_X12_isStuff_16  (hK : KC p R s m args meth c ad g tyc RX12 cX12_isStuff 2 (some .boolean) 0) {r : Int32} {μ2 : gs_M}    {μ : gs_M}  (hD : B_X12_isStuff_16   μ = some (r, μ2)) : WJ p l e R s m args below meth c 0 0 (MQ below (gs_Q ad g tyc (some (.int r)) μ2) args s 0 0 (gs_A ad)) ad g tyc 2 16 [gs_J, gs_J] [] μ := by
  unfold B_X12_isStuff_16 at hD
  refine r_iconst hK d_X12_isStuff_16 ci_0 ?_
  cases hD
  exact r_zret hK (Or.inl rfl) d_X12_isStuff_17
set_option maxRecDepth 20000 in
theorem C_X12_isStuff  {x1 : Int32} {μ : gs_M} {r : Int32} {μ2 : gs_M}  (hD : D_X12_isStuff x1 μ = some (r, μ2)) : CALL yX12_isStuff cX12_isStuff 2 (some .boolean) 0 [.ref 78, .int x1] μ (some (.int r)) μ2 := by
  unfold D_X12_isStuff at hD
  refine gs_enter mf_X12_isStuff (Nat.le_of_ble_eq_true rfl) (ls := [.ref 78, .int x1]) rfl (fun p l e R s m args below meth c ad g tyc hK => ?_)
  have hK : KC p R s m args meth c ad g tyc RX12 cX12_isStuff 2 (some .boolean) 0 := hK
  refine r_iload_n hK d_X12_isStuff_0 rfl rfl ?_
  refine r_if_lt (tgt := 16) hK d_X12_isStuff_1 (by decide) (fun h1 => ?_) (fun h1 => ?_)
  · have hD := if_t hD h1
    refine r_junk [false, false] (ls2 := [gs_J, gs_J]) rfl ?_
    exact T_X12_isStuff_16 hK   hD
  · have hD := if_f hD h1
    refine r_iload_n hK d_X12_isStuff_4 rfl rfl ?_
    refine r_aload_n hK d_X12_isStuff_5 rfl rfl ?_
    refine r_getI hK d_X12_isStuff_6 fl_RX12_263_11 rfl kd_78 ?_
    refine r_icmp_ge (tgt := 16) hK d_X12_isStuff_9 (by decide) (fun h2 => ?_) (fun h2 => ?_)
    · have hD := if_t hD h2
      refine r_junk [false, false] (ls2 := [gs_J, gs_J]) rfl ?_
      exact T_X12_isStuff_16 hK   hD
    · have hD := if_f hD h2
      refine r_iconst hK d_X12_isStuff_12 ci_1 ?_
      refine r_goto (tgt := 17) hK d_X12_isStuff_13 (by decide) ?_
      cases hD
      exact r_zret hK (Or.inr rfl) d_X12_isStuff_17
end S_X12_isStuff
theorem d_X12_isShip_0 : gd cX12_isShip 0 (.iload_n 1) 1 1 := ⟨by decide +kernel, rfl⟩
theorem d_X12_isShip_1 : gd cX12_isShip 1 (.ifCond .lt 15) 3 4 := ⟨by decide +kernel, rfl⟩
theorem d_X12_isShip_4 : gd cX12_isShip 4 (.iload_n 1) 1 5 := ⟨by decide +kernel, rfl⟩
theorem d_X12_isShip_5 : gd cX12_isShip 5 (.aload_n 0) 1 6 := ⟨by decide +kernel, rfl⟩
theorem d_X12_isShip_6 : gd cX12_isShip 6 (.getfield 266) 3 9 := ⟨by decide +kernel, rfl⟩
theorem d_X12_isShip_9 : gd cX12_isShip 9 (.if_icmp .ge 7) 3 12 := ⟨by decide +kernel, rfl⟩
theorem d_X12_isShip_12 : gd cX12_isShip 12 (.iconst 1) 1 13 := ⟨by decide +kernel, rfl⟩
theorem d_X12_isShip_13 : gd cX12_isShip 13 (.goto 4) 3 16 := ⟨by decide +kernel, rfl⟩
theorem d_X12_isShip_16 : gd cX12_isShip 16 (.iconst 0) 1 17 := ⟨by decide +kernel, rfl⟩
theorem d_X12_isShip_17 : gd cX12_isShip 17 .ireturn 1 18 := ⟨by decide +kernel, rfl⟩
def B_X12_isShip_16   (μ : gs_M) : Option (Int32 × gs_M) :=
  some ((0 : Int32), μ)
def D_X12_isShip (x1 : Int32) (μ : gs_M) : Option (Int32 × gs_M) :=
  if x1 < 0 then (B_X12_isShip_16 μ) else (if (gI μ 78 25) ≤ x1 then (B_X12_isShip_16 μ) else (some ((1 : Int32), μ)))
section S_X12_isShip
variable {p : Program} {l : Launch} {e : Env} {R : Room} {s : State} {m : MethodId} {args : Array Value} {below : List Frame} {meth : Method} {c : Code} {ad : Nat → Nat} {g : va_G} {tyc : Nat → ClassId}
set_option maxRecDepth 20000 in
theorem T_X12_isShip_16  (hK : KC p R s m args meth c ad g tyc RX12 cX12_isShip 2 (some .boolean) 0) {r : Int32} {μ2 : gs_M}    {μ : gs_M}  (hD : B_X12_isShip_16   μ = some (r, μ2)) : WJ p l e R s m args below meth c 0 0 (MQ below (gs_Q ad g tyc (some (.int r)) μ2) args s 0 0 (gs_A ad)) ad g tyc 2 16 [gs_J, gs_J] [] μ := by
  unfold B_X12_isShip_16 at hD
  refine r_iconst hK d_X12_isShip_16 ci_0 ?_
  cases hD
  exact r_zret hK (Or.inl rfl) d_X12_isShip_17
set_option maxRecDepth 20000 in
theorem C_X12_isShip  {x1 : Int32} {μ : gs_M} {r : Int32} {μ2 : gs_M}  (hD : D_X12_isShip x1 μ = some (r, μ2)) : CALL yX12_isShip cX12_isShip 2 (some .boolean) 0 [.ref 78, .int x1] μ (some (.int r)) μ2 := by
  unfold D_X12_isShip at hD
  refine gs_enter mf_X12_isShip (Nat.le_of_ble_eq_true rfl) (ls := [.ref 78, .int x1]) rfl (fun p l e R s m args below meth c ad g tyc hK => ?_)
  have hK : KC p R s m args meth c ad g tyc RX12 cX12_isShip 2 (some .boolean) 0 := hK
  refine r_iload_n hK d_X12_isShip_0 rfl rfl ?_
  refine r_if_lt (tgt := 16) hK d_X12_isShip_1 (by decide) (fun h1 => ?_) (fun h1 => ?_)
  · have hD := if_t hD h1
    refine r_junk [false, false] (ls2 := [gs_J, gs_J]) rfl ?_
    exact T_X12_isShip_16 hK   hD
  · have hD := if_f hD h1
    refine r_iload_n hK d_X12_isShip_4 rfl rfl ?_
    refine r_aload_n hK d_X12_isShip_5 rfl rfl ?_
    refine r_getI hK d_X12_isShip_6 fl_RX12_266_11 rfl kd_78 ?_
    refine r_icmp_ge (tgt := 16) hK d_X12_isShip_9 (by decide) (fun h2 => ?_) (fun h2 => ?_)
    · have hD := if_t hD h2
      refine r_junk [false, false] (ls2 := [gs_J, gs_J]) rfl ?_
      exact T_X12_isShip_16 hK   hD
    · have hD := if_f hD h2
      refine r_iconst hK d_X12_isShip_12 ci_1 ?_
      refine r_goto (tgt := 17) hK d_X12_isShip_13 (by decide) ?_
      cases hD
      exact r_zret hK (Or.inr rfl) d_X12_isShip_17
end S_X12_isShip
theorem d_X12_isPlan_0 : gd cX12_isPlan 0 (.iload_n 1) 1 1 := ⟨by decide +kernel, rfl⟩
theorem d_X12_isPlan_1 : gd cX12_isPlan 1 (.ifCond .lt 15) 3 4 := ⟨by decide +kernel, rfl⟩
theorem d_X12_isPlan_4 : gd cX12_isPlan 4 (.iload_n 1) 1 5 := ⟨by decide +kernel, rfl⟩
theorem d_X12_isPlan_5 : gd cX12_isPlan 5 (.aload_n 0) 1 6 := ⟨by decide +kernel, rfl⟩
theorem d_X12_isPlan_6 : gd cX12_isPlan 6 (.getfield 269) 3 9 := ⟨by decide +kernel, rfl⟩
theorem d_X12_isPlan_9 : gd cX12_isPlan 9 (.if_icmp .ge 7) 3 12 := ⟨by decide +kernel, rfl⟩
theorem d_X12_isPlan_12 : gd cX12_isPlan 12 (.iconst 1) 1 13 := ⟨by decide +kernel, rfl⟩
theorem d_X12_isPlan_13 : gd cX12_isPlan 13 (.goto 4) 3 16 := ⟨by decide +kernel, rfl⟩
theorem d_X12_isPlan_16 : gd cX12_isPlan 16 (.iconst 0) 1 17 := ⟨by decide +kernel, rfl⟩
theorem d_X12_isPlan_17 : gd cX12_isPlan 17 .ireturn 1 18 := ⟨by decide +kernel, rfl⟩
def B_X12_isPlan_16   (μ : gs_M) : Option (Int32 × gs_M) :=
  some ((0 : Int32), μ)
def D_X12_isPlan (x1 : Int32) (μ : gs_M) : Option (Int32 × gs_M) :=
  if x1 < 0 then (B_X12_isPlan_16 μ) else (if (gI μ 78 26) ≤ x1 then (B_X12_isPlan_16 μ) else (some ((1 : Int32), μ)))
section S_X12_isPlan
variable {p : Program} {l : Launch} {e : Env} {R : Room} {s : State} {m : MethodId} {args : Array Value} {below : List Frame} {meth : Method} {c : Code} {ad : Nat → Nat} {g : va_G} {tyc : Nat → ClassId}
set_option maxRecDepth 20000 in
theorem T_X12_isPlan_16  (hK : KC p R s m args meth c ad g tyc RX12 cX12_isPlan 2 (some .boolean) 0) {r : Int32} {μ2 : gs_M}    {μ : gs_M}  (hD : B_X12_isPlan_16   μ = some (r, μ2)) : WJ p l e R s m args below meth c 0 0 (MQ below (gs_Q ad g tyc (some (.int r)) μ2) args s 0 0 (gs_A ad)) ad g tyc 2 16 [gs_J, gs_J] [] μ := by
  unfold B_X12_isPlan_16 at hD
  refine r_iconst hK d_X12_isPlan_16 ci_0 ?_
  cases hD
  exact r_zret hK (Or.inl rfl) d_X12_isPlan_17
set_option maxRecDepth 20000 in
theorem C_X12_isPlan  {x1 : Int32} {μ : gs_M} {r : Int32} {μ2 : gs_M}  (hD : D_X12_isPlan x1 μ = some (r, μ2)) : CALL yX12_isPlan cX12_isPlan 2 (some .boolean) 0 [.ref 78, .int x1] μ (some (.int r)) μ2 := by
  unfold D_X12_isPlan at hD
  refine gs_enter mf_X12_isPlan (Nat.le_of_ble_eq_true rfl) (ls := [.ref 78, .int x1]) rfl (fun p l e R s m args below meth c ad g tyc hK => ?_)
  have hK : KC p R s m args meth c ad g tyc RX12 cX12_isPlan 2 (some .boolean) 0 := hK
  refine r_iload_n hK d_X12_isPlan_0 rfl rfl ?_
  refine r_if_lt (tgt := 16) hK d_X12_isPlan_1 (by decide) (fun h1 => ?_) (fun h1 => ?_)
  · have hD := if_t hD h1
    refine r_junk [false, false] (ls2 := [gs_J, gs_J]) rfl ?_
    exact T_X12_isPlan_16 hK   hD
  · have hD := if_f hD h1
    refine r_iload_n hK d_X12_isPlan_4 rfl rfl ?_
    refine r_aload_n hK d_X12_isPlan_5 rfl rfl ?_
    refine r_getI hK d_X12_isPlan_6 fl_RX12_269_11 rfl kd_78 ?_
    refine r_icmp_ge (tgt := 16) hK d_X12_isPlan_9 (by decide) (fun h2 => ?_) (fun h2 => ?_)
    · have hD := if_t hD h2
      refine r_junk [false, false] (ls2 := [gs_J, gs_J]) rfl ?_
      exact T_X12_isPlan_16 hK   hD
    · have hD := if_f hD h2
      refine r_iconst hK d_X12_isPlan_12 ci_1 ?_
      refine r_goto (tgt := 17) hK d_X12_isPlan_13 (by decide) ?_
      cases hD
      exact r_zret hK (Or.inr rfl) d_X12_isPlan_17
end S_X12_isPlan
theorem d_X12_partOf_0 : gd cX12_partOf 0 (.aload_n 0) 1 1 := ⟨by decide +kernel, rfl⟩
theorem d_X12_partOf_1 : gd cX12_partOf 1 (.getfield 37) 3 4 := ⟨by decide +kernel, rfl⟩
theorem d_X12_partOf_4 : gd cX12_partOf 4 (.iconst 5) 1 5 := ⟨by decide +kernel, rfl⟩
theorem d_X12_partOf_5 : gd cX12_partOf 5 (.iload_n 1) 1 6 := ⟨by decide +kernel, rfl⟩
theorem d_X12_partOf_6 : gd cX12_partOf 6 .imul 1 7 := ⟨by decide +kernel, rfl⟩
theorem d_X12_partOf_7 : gd cX12_partOf 7 (.iload_n 2) 1 8 := ⟨by decide +kernel, rfl⟩
theorem d_X12_partOf_8 : gd cX12_partOf 8 .iadd 1 9 := ⟨by decide +kernel, rfl⟩
theorem d_X12_partOf_9 : gd cX12_partOf 9 .iaload 1 10 := ⟨by decide +kernel, rfl⟩
theorem d_X12_partOf_10 : gd cX12_partOf 10 .ireturn 1 11 := ⟨by decide +kernel, rfl⟩
def D_X12_partOf (x1 : Int32) (x2 : Int32) (μ : gs_M) : Option (Int32 × gs_M) :=
  ck (inb (((5 : Int32) * x1) + x2) 35) (some (gI μ 83 (Int32.toNatClampNeg (((5 : Int32) * x1) + x2)), μ))
section S_X12_partOf
variable {p : Program} {l : Launch} {e : Env} {R : Room} {s : State} {m : MethodId} {args : Array Value} {below : List Frame} {meth : Method} {c : Code} {ad : Nat → Nat} {g : va_G} {tyc : Nat → ClassId}
set_option maxRecDepth 20000 in
theorem C_X12_partOf  {x1 : Int32} {x2 : Int32} {μ : gs_M} {r : Int32} {μ2 : gs_M}  (hD : D_X12_partOf x1 x2 μ = some (r, μ2)) : CALL yX12_partOf cX12_partOf 3 (some .int) 0 [.ref 78, .int x1, .int x2] μ (some (.int r)) μ2 := by
  unfold D_X12_partOf at hD
  refine gs_enter mf_X12_partOf (Nat.le_of_ble_eq_true rfl) (ls := [.ref 78, .int x1, .int x2]) rfl (fun p l e R s m args below meth c ad g tyc hK => ?_)
  have hK : KC p R s m args meth c ad g tyc RX12 cX12_partOf 3 (some .int) 0 := hK
  refine r_aload_n hK d_X12_partOf_0 rfl rfl ?_
  refine r_getR hK d_X12_partOf_1 fl_RX12_37_11 rfl kd_78 ?_
  refine r_ref (b := 83) R0_78_18 ?_
  refine r_iconst hK d_X12_partOf_4 ci_5 ?_
  refine r_iload_n hK d_X12_partOf_5 rfl rfl ?_
  refine r_imul hK d_X12_partOf_6 ?_
  refine r_iload_n hK d_X12_partOf_7 rfl rfl ?_
  refine r_iadd hK d_X12_partOf_8 ?_
  obtain ⟨h1, hD⟩ := ck_e hD
  refine r_iald hK d_X12_partOf_9 kd_83 ln_83 (inb_in h1) ?_
  cases hD
  exact r_iret hK d_X12_partOf_10
end S_X12_partOf
theorem d_X12_holdOf_0 : gd cX12_holdOf 0 (.aload_n 0) 1 1 := ⟨by decide +kernel, rfl⟩
theorem d_X12_holdOf_1 : gd cX12_holdOf 1 (.getfield 40) 3 4 := ⟨by decide +kernel, rfl⟩
theorem d_X12_holdOf_4 : gd cX12_holdOf 4 (.iconst 5) 1 5 := ⟨by decide +kernel, rfl⟩
theorem d_X12_holdOf_5 : gd cX12_holdOf 5 (.iconst 4) 1 6 := ⟨by decide +kernel, rfl⟩
theorem d_X12_holdOf_6 : gd cX12_holdOf 6 (.iload_n 1) 1 7 := ⟨by decide +kernel, rfl⟩
theorem d_X12_holdOf_7 : gd cX12_holdOf 7 .imul 1 8 := ⟨by decide +kernel, rfl⟩
theorem d_X12_holdOf_8 : gd cX12_holdOf 8 (.iload_n 2) 1 9 := ⟨by decide +kernel, rfl⟩
theorem d_X12_holdOf_9 : gd cX12_holdOf 9 .iadd 1 10 := ⟨by decide +kernel, rfl⟩
theorem d_X12_holdOf_10 : gd cX12_holdOf 10 .imul 1 11 := ⟨by decide +kernel, rfl⟩
theorem d_X12_holdOf_11 : gd cX12_holdOf 11 (.iload_n 3) 1 12 := ⟨by decide +kernel, rfl⟩
theorem d_X12_holdOf_12 : gd cX12_holdOf 12 .iadd 1 13 := ⟨by decide +kernel, rfl⟩
theorem d_X12_holdOf_13 : gd cX12_holdOf 13 .iaload 1 14 := ⟨by decide +kernel, rfl⟩
theorem d_X12_holdOf_14 : gd cX12_holdOf 14 .ireturn 1 15 := ⟨by decide +kernel, rfl⟩
def D_X12_holdOf (x1 : Int32) (x2 : Int32) (x3 : Int32) (μ : gs_M) : Option (Int32 × gs_M) :=
  ck (inb (((5 : Int32) * (((4 : Int32) * x1) + x2)) + x3) 80) (some (gI μ 84 (Int32.toNatClampNeg (((5 : Int32) * (((4 : Int32) * x1) + x2)) + x3)), μ))
section S_X12_holdOf
variable {p : Program} {l : Launch} {e : Env} {R : Room} {s : State} {m : MethodId} {args : Array Value} {below : List Frame} {meth : Method} {c : Code} {ad : Nat → Nat} {g : va_G} {tyc : Nat → ClassId}
set_option maxRecDepth 20000 in
theorem C_X12_holdOf  {x1 : Int32} {x2 : Int32} {x3 : Int32} {μ : gs_M} {r : Int32} {μ2 : gs_M}  (hD : D_X12_holdOf x1 x2 x3 μ = some (r, μ2)) : CALL yX12_holdOf cX12_holdOf 4 (some .int) 0 [.ref 78, .int x1, .int x2, .int x3] μ (some (.int r)) μ2 := by
  unfold D_X12_holdOf at hD
  refine gs_enter mf_X12_holdOf (Nat.le_of_ble_eq_true rfl) (ls := [.ref 78, .int x1, .int x2, .int x3]) rfl (fun p l e R s m args below meth c ad g tyc hK => ?_)
  have hK : KC p R s m args meth c ad g tyc RX12 cX12_holdOf 4 (some .int) 0 := hK
  refine r_aload_n hK d_X12_holdOf_0 rfl rfl ?_
  refine r_getR hK d_X12_holdOf_1 fl_RX12_40_11 rfl kd_78 ?_
  refine r_ref (b := 84) R0_78_19 ?_
  refine r_iconst hK d_X12_holdOf_4 ci_5 ?_
  refine r_iconst hK d_X12_holdOf_5 ci_4 ?_
  refine r_iload_n hK d_X12_holdOf_6 rfl rfl ?_
  refine r_imul hK d_X12_holdOf_7 ?_
  refine r_iload_n hK d_X12_holdOf_8 rfl rfl ?_
  refine r_iadd hK d_X12_holdOf_9 ?_
  refine r_imul hK d_X12_holdOf_10 ?_
  refine r_iload_n hK d_X12_holdOf_11 rfl rfl ?_
  refine r_iadd hK d_X12_holdOf_12 ?_
  obtain ⟨h1, hD⟩ := ck_e hD
  refine r_iald hK d_X12_holdOf_13 kd_84 ln_84 (inb_in h1) ?_
  cases hD
  exact r_iret hK d_X12_holdOf_14
end S_X12_holdOf
theorem d_X12_layingOf_0 : gd cX12_layingOf 0 (.aload_n 0) 1 1 := ⟨by decide +kernel, rfl⟩
theorem d_X12_layingOf_1 : gd cX12_layingOf 1 (.getfield 43) 3 4 := ⟨by decide +kernel, rfl⟩
theorem d_X12_layingOf_4 : gd cX12_layingOf 4 (.iconst 5) 1 5 := ⟨by decide +kernel, rfl⟩
theorem d_X12_layingOf_5 : gd cX12_layingOf 5 (.iconst 4) 1 6 := ⟨by decide +kernel, rfl⟩
theorem d_X12_layingOf_6 : gd cX12_layingOf 6 (.iload_n 1) 1 7 := ⟨by decide +kernel, rfl⟩
theorem d_X12_layingOf_7 : gd cX12_layingOf 7 .imul 1 8 := ⟨by decide +kernel, rfl⟩
theorem d_X12_layingOf_8 : gd cX12_layingOf 8 (.iload_n 2) 1 9 := ⟨by decide +kernel, rfl⟩
theorem d_X12_layingOf_9 : gd cX12_layingOf 9 .iadd 1 10 := ⟨by decide +kernel, rfl⟩
theorem d_X12_layingOf_10 : gd cX12_layingOf 10 .imul 1 11 := ⟨by decide +kernel, rfl⟩
theorem d_X12_layingOf_11 : gd cX12_layingOf 11 (.iload_n 3) 1 12 := ⟨by decide +kernel, rfl⟩
theorem d_X12_layingOf_12 : gd cX12_layingOf 12 .iadd 1 13 := ⟨by decide +kernel, rfl⟩
theorem d_X12_layingOf_13 : gd cX12_layingOf 13 .iaload 1 14 := ⟨by decide +kernel, rfl⟩
theorem d_X12_layingOf_14 : gd cX12_layingOf 14 .ireturn 1 15 := ⟨by decide +kernel, rfl⟩
def D_X12_layingOf (x1 : Int32) (x2 : Int32) (x3 : Int32) (μ : gs_M) : Option (Int32 × gs_M) :=
  ck (inb (((5 : Int32) * (((4 : Int32) * x1) + x2)) + x3) 140) (some (gI μ 85 (Int32.toNatClampNeg (((5 : Int32) * (((4 : Int32) * x1) + x2)) + x3)), μ))
section S_X12_layingOf
variable {p : Program} {l : Launch} {e : Env} {R : Room} {s : State} {m : MethodId} {args : Array Value} {below : List Frame} {meth : Method} {c : Code} {ad : Nat → Nat} {g : va_G} {tyc : Nat → ClassId}
set_option maxRecDepth 20000 in
theorem C_X12_layingOf  {x1 : Int32} {x2 : Int32} {x3 : Int32} {μ : gs_M} {r : Int32} {μ2 : gs_M}  (hD : D_X12_layingOf x1 x2 x3 μ = some (r, μ2)) : CALL yX12_layingOf cX12_layingOf 4 (some .int) 0 [.ref 78, .int x1, .int x2, .int x3] μ (some (.int r)) μ2 := by
  unfold D_X12_layingOf at hD
  refine gs_enter mf_X12_layingOf (Nat.le_of_ble_eq_true rfl) (ls := [.ref 78, .int x1, .int x2, .int x3]) rfl (fun p l e R s m args below meth c ad g tyc hK => ?_)
  have hK : KC p R s m args meth c ad g tyc RX12 cX12_layingOf 4 (some .int) 0 := hK
  refine r_aload_n hK d_X12_layingOf_0 rfl rfl ?_
  refine r_getR hK d_X12_layingOf_1 fl_RX12_43_11 rfl kd_78 ?_
  refine r_ref (b := 85) R0_78_20 ?_
  refine r_iconst hK d_X12_layingOf_4 ci_5 ?_
  refine r_iconst hK d_X12_layingOf_5 ci_4 ?_
  refine r_iload_n hK d_X12_layingOf_6 rfl rfl ?_
  refine r_imul hK d_X12_layingOf_7 ?_
  refine r_iload_n hK d_X12_layingOf_8 rfl rfl ?_
  refine r_iadd hK d_X12_layingOf_9 ?_
  refine r_imul hK d_X12_layingOf_10 ?_
  refine r_iload_n hK d_X12_layingOf_11 rfl rfl ?_
  refine r_iadd hK d_X12_layingOf_12 ?_
  obtain ⟨h1, hD⟩ := ck_e hD
  refine r_iald hK d_X12_layingOf_13 kd_85 ln_85 (inb_in h1) ?_
  cases hD
  exact r_iret hK d_X12_layingOf_14
end S_X12_layingOf
theorem d_X12_stuff_0 : gd cX12_stuff 0 (.aload_n 0) 1 1 := ⟨by decide +kernel, rfl⟩
theorem d_X12_stuff_1 : gd cX12_stuff 1 (.aload_n 0) 1 2 := ⟨by decide +kernel, rfl⟩
theorem d_X12_stuff_2 : gd cX12_stuff 2 (.iload_n 1) 1 3 := ⟨by decide +kernel, rfl⟩
theorem d_X12_stuff_3 : gd cX12_stuff 3 (.invokevirtual 277) 3 6 := ⟨by decide +kernel, rfl⟩
theorem d_X12_stuff_6 : gd cX12_stuff 6 (.ifCond .eq 16) 3 9 := ⟨by decide +kernel, rfl⟩
theorem d_X12_stuff_9 : gd cX12_stuff 9 (.iload_n 2) 1 10 := ⟨by decide +kernel, rfl⟩
theorem d_X12_stuff_10 : gd cX12_stuff 10 (.iconst 0) 1 11 := ⟨by decide +kernel, rfl⟩
theorem d_X12_stuff_11 : gd cX12_stuff 11 (.iconst 4) 1 12 := ⟨by decide +kernel, rfl⟩
theorem d_X12_stuff_12 : gd cX12_stuff 12 (.invokestatic 217) 3 15 := ⟨by decide +kernel, rfl⟩
theorem d_X12_stuff_15 : gd cX12_stuff 15 (.ifCond .eq 7) 3 18 := ⟨by decide +kernel, rfl⟩
theorem d_X12_stuff_18 : gd cX12_stuff 18 (.iconst 0) 1 19 := ⟨by decide +kernel, rfl⟩
theorem d_X12_stuff_19 : gd cX12_stuff 19 (.goto 4) 3 22 := ⟨by decide +kernel, rfl⟩
theorem d_X12_stuff_22 : gd cX12_stuff 22 (.iconst 1) 1 23 := ⟨by decide +kernel, rfl⟩
theorem d_X12_stuff_23 : gd cX12_stuff 23 (.putfield 98) 3 26 := ⟨by decide +kernel, rfl⟩
theorem d_X12_stuff_26 : gd cX12_stuff 26 (.aload_n 0) 1 27 := ⟨by decide +kernel, rfl⟩
theorem d_X12_stuff_27 : gd cX12_stuff 27 (.getfield 98) 3 30 := ⟨by decide +kernel, rfl⟩
theorem d_X12_stuff_30 : gd cX12_stuff 30 (.ifCond .le 7) 3 33 := ⟨by decide +kernel, rfl⟩
theorem d_X12_stuff_33 : gd cX12_stuff 33 (.iconst 0) 1 34 := ⟨by decide +kernel, rfl⟩
theorem d_X12_stuff_34 : gd cX12_stuff 34 (.goto 9) 3 37 := ⟨by decide +kernel, rfl⟩
theorem d_X12_stuff_37 : gd cX12_stuff 37 (.aload_n 0) 1 38 := ⟨by decide +kernel, rfl⟩
theorem d_X12_stuff_38 : gd cX12_stuff 38 (.iload_n 1) 1 39 := ⟨by decide +kernel, rfl⟩
theorem d_X12_stuff_39 : gd cX12_stuff 39 (.iload_n 2) 1 40 := ⟨by decide +kernel, rfl⟩
theorem d_X12_stuff_40 : gd cX12_stuff 40 (.invokevirtual 280) 3 43 := ⟨by decide +kernel, rfl⟩
theorem d_X12_stuff_43 : gd cX12_stuff 43 .ireturn 1 44 := ⟨by decide +kernel, rfl⟩
def B_X12_stuff_23  (x1 : Int32) (x2 : Int32) (xs1 : Int32) (μ : gs_M) : Option (Int32 × gs_M) :=
  lt1 (sI μ 78 0 xs1) (fun u1 => if (gI u1 78 0) ≤ 0 then (bd (D_X12_partOf x1 x2 u1) (fun v5 u4 => some (v5, u4))) else (some ((0 : Int32), u1)))
def B_X12_stuff_22  (x1 : Int32) (x2 : Int32) (μ : gs_M) : Option (Int32 × gs_M) :=
  B_X12_stuff_23 x1 x2 (1 : Int32) μ
def D_X12_stuff (x1 : Int32) (x2 : Int32) (μ : gs_M) : Option (Int32 × gs_M) :=
  bd (D_X12_isStuff x1 μ) (fun v3 u2 => if v3 = 0 then (B_X12_stuff_22 x1 x2 u2) else (bd (D_X12_isIn x2 (0 : Int32) (4 : Int32) u2) (fun v7 u6 => if v7 = 0 then (B_X12_stuff_22 x1 x2 u6) else (B_X12_stuff_23 x1 x2 (0 : Int32) u6))))
section S_X12_stuff
variable {p : Program} {l : Launch} {e : Env} {R : Room} {s : State} {m : MethodId} {args : Array Value} {below : List Frame} {meth : Method} {c : Code} {ad : Nat → Nat} {g : va_G} {tyc : Nat → ClassId}
set_option maxRecDepth 20000 in
theorem T_X12_stuff_23  (hK : KC p R s m args meth c ad g tyc RX12 cX12_stuff 3 (some .int) 1) {r : Int32} {μ2 : gs_M}   {x1 : Int32} {x2 : Int32} {xs1 : Int32} {μ : gs_M}  (hD : B_X12_stuff_23  x1 x2 xs1 μ = some (r, μ2)) : WJ p l e R s m args below meth c 0 0 (MQ below (gs_Q ad g tyc (some (.int r)) μ2) args s 0 0 (gs_A ad)) ad g tyc 3 23 [.ref 78, .int x1, .int x2] [.int xs1, .ref 78] μ := by
  unfold B_X12_stuff_23 at hD
  refine r_putI hK d_X12_stuff_23 fl_RX12_98_11 rfl rfl kd_78 ?_
  refine r_ltm hD (fun u1 hD => ?_)
  refine r_aload_n hK d_X12_stuff_26 rfl rfl ?_
  refine r_getI hK d_X12_stuff_27 fl_RX12_98_11 rfl kd_78 ?_
  refine r_if_le (tgt := 37) hK d_X12_stuff_30 (by decide) (fun h2 => ?_) (fun h2 => ?_)
  · have hD := if_t hD h2
    refine r_aload_n hK d_X12_stuff_37 rfl rfl ?_
    refine r_iload_n hK d_X12_stuff_38 rfl rfl ?_
    refine r_iload_n hK d_X12_stuff_39 rfl rfl ?_
    obtain ⟨v5, u4, e3, hD⟩ := bd_e hD
    refine r_callV (As := [.int x1, .int x2]) (st := []) (stk2 := [.int v5]) hK (C_X12_partOf  e3) d_X12_stuff_40 mf_X12_partOf ml_RX12_280 im_X12_partOf rfl se_11_RX12_X12_partOf kd_78 rfl (Nat.le_of_ble_eq_true rfl) (by decide) ⟨Nat.zero_le _, Nat.zero_le _⟩ rfl rfl ?_
    cases hD
    exact r_iret hK d_X12_stuff_43
  · have hD := if_f hD h2
    refine r_iconst hK d_X12_stuff_33 ci_0 ?_
    refine r_goto (tgt := 43) hK d_X12_stuff_34 (by decide) ?_
    cases hD
    exact r_iret hK d_X12_stuff_43
set_option maxRecDepth 20000 in
theorem T_X12_stuff_22  (hK : KC p R s m args meth c ad g tyc RX12 cX12_stuff 3 (some .int) 1) {r : Int32} {μ2 : gs_M}   {x1 : Int32} {x2 : Int32} {μ : gs_M}  (hD : B_X12_stuff_22  x1 x2 μ = some (r, μ2)) : WJ p l e R s m args below meth c 0 0 (MQ below (gs_Q ad g tyc (some (.int r)) μ2) args s 0 0 (gs_A ad)) ad g tyc 3 22 [.ref 78, .int x1, .int x2] [.ref 78] μ := by
  unfold B_X12_stuff_22 at hD
  refine r_iconst hK d_X12_stuff_22 ci_1 ?_
  exact T_X12_stuff_23 hK   hD
set_option maxRecDepth 20000 in
theorem C_X12_stuff  {x1 : Int32} {x2 : Int32} {μ : gs_M} {r : Int32} {μ2 : gs_M}  (hD : D_X12_stuff x1 x2 μ = some (r, μ2)) : CALL yX12_stuff cX12_stuff 3 (some .int) 1 [.ref 78, .int x1, .int x2] μ (some (.int r)) μ2 := by
  unfold D_X12_stuff at hD
  refine gs_enter mf_X12_stuff (Nat.le_of_ble_eq_true rfl) (ls := [.ref 78, .int x1, .int x2]) rfl (fun p l e R s m args below meth c ad g tyc hK => ?_)
  have hK : KC p R s m args meth c ad g tyc RX12 cX12_stuff 3 (some .int) 1 := hK
  refine r_aload_n hK d_X12_stuff_0 rfl rfl ?_
  refine r_aload_n hK d_X12_stuff_1 rfl rfl ?_
  refine r_iload_n hK d_X12_stuff_2 rfl rfl ?_
  obtain ⟨v3, u2, e1, hD⟩ := bd_e hD
  refine r_callV (As := [.int x1]) (st := [.ref 78]) (stk2 := [.int v3, .ref 78]) hK (C_X12_isStuff  e1) d_X12_stuff_3 mf_X12_isStuff ml_RX12_277 im_X12_isStuff rfl se_11_RX12_X12_isStuff kd_78 rfl (Nat.le_of_ble_eq_true rfl) (by decide) ⟨Nat.zero_le _, Nat.zero_le _⟩ rfl rfl ?_
  refine r_if_eq (tgt := 22) hK d_X12_stuff_6 (by decide) (fun h4 => ?_) (fun h4 => ?_)
  · have hD := if_t hD h4
    exact T_X12_stuff_22 hK   hD
  · have hD := if_f hD h4
    refine r_iload_n hK d_X12_stuff_9 rfl rfl ?_
    refine r_iconst hK d_X12_stuff_10 ci_0 ?_
    refine r_iconst hK d_X12_stuff_11 ci_4 ?_
    obtain ⟨v7, u6, e5, hD⟩ := bd_e hD
    refine r_callS (As := [.int x2, .int (0 : Int32), .int (4 : Int32)]) (st := [.ref 78]) (stk2 := [.int v7, .ref 78]) hK (C_X12_isIn  e5) d_X12_stuff_12 mf_X12_isIn ml_RX12_217 ss_X12_isIn rfl (Nat.le_of_ble_eq_true rfl) (by decide) ⟨Nat.zero_le _, Nat.zero_le _⟩ rfl rfl ?_
    refine r_if_eq (tgt := 22) hK d_X12_stuff_15 (by decide) (fun h8 => ?_) (fun h8 => ?_)
    · have hD := if_t hD h8
      exact T_X12_stuff_22 hK   hD
    · have hD := if_f hD h8
      refine r_iconst hK d_X12_stuff_18 ci_0 ?_
      refine r_goto (tgt := 23) hK d_X12_stuff_19 (by decide) ?_
      exact T_X12_stuff_23 hK   hD
end S_X12_stuff
theorem d_X12_ship_0 : gd cX12_ship 0 (.aload_n 0) 1 1 := ⟨by decide +kernel, rfl⟩
theorem d_X12_ship_1 : gd cX12_ship 1 (.iconst 0) 1 2 := ⟨by decide +kernel, rfl⟩
theorem d_X12_ship_2 : gd cX12_ship 2 (.putfield 98) 3 5 := ⟨by decide +kernel, rfl⟩
theorem d_X12_ship_5 : gd cX12_ship 5 (.aload_n 0) 1 6 := ⟨by decide +kernel, rfl⟩
theorem d_X12_ship_6 : gd cX12_ship 6 (.iload_n 1) 1 7 := ⟨by decide +kernel, rfl⟩
theorem d_X12_ship_7 : gd cX12_ship 7 (.invokevirtual 283) 3 10 := ⟨by decide +kernel, rfl⟩
theorem d_X12_ship_10 : gd cX12_ship 10 (.ifCond .eq 12) 3 13 := ⟨by decide +kernel, rfl⟩
theorem d_X12_ship_13 : gd cX12_ship 13 (.iload_n 3) 1 14 := ⟨by decide +kernel, rfl⟩
theorem d_X12_ship_14 : gd cX12_ship 14 (.iconst 0) 1 15 := ⟨by decide +kernel, rfl⟩
theorem d_X12_ship_15 : gd cX12_ship 15 (.iconst 1) 1 16 := ⟨by decide +kernel, rfl⟩
theorem d_X12_ship_16 : gd cX12_ship 16 (.invokestatic 217) 3 19 := ⟨by decide +kernel, rfl⟩
theorem d_X12_ship_19 : gd cX12_ship 19 (.ifCond .ne 5) 3 22 := ⟨by decide +kernel, rfl⟩
theorem d_X12_ship_22 : gd cX12_ship 22 (.iconst (-1)) 1 23 := ⟨by decide +kernel, rfl⟩
theorem d_X12_ship_23 : gd cX12_ship 23 .ireturn 1 24 := ⟨by decide +kernel, rfl⟩
theorem d_X12_ship_24 : gd cX12_ship 24 (.iload_n 2) 1 25 := ⟨by decide +kernel, rfl⟩
theorem d_X12_ship_25 : gd cX12_ship 25 (.iconst (-1)) 1 26 := ⟨by decide +kernel, rfl⟩
theorem d_X12_ship_26 : gd cX12_ship 26 (.if_icmp .ne 14) 3 29 := ⟨by decide +kernel, rfl⟩
theorem d_X12_ship_29 : gd cX12_ship 29 (.iload_n 3) 1 30 := ⟨by decide +kernel, rfl⟩
theorem d_X12_ship_30 : gd cX12_ship 30 (.ifCond .ne 10) 3 33 := ⟨by decide +kernel, rfl⟩
theorem d_X12_ship_33 : gd cX12_ship 33 (.aload_n 0) 1 34 := ⟨by decide +kernel, rfl⟩
theorem d_X12_ship_34 : gd cX12_ship 34 (.getfield 46) 3 37 := ⟨by decide +kernel, rfl⟩
theorem d_X12_ship_37 : gd cX12_ship 37 (.iload_n 1) 1 38 := ⟨by decide +kernel, rfl⟩
theorem d_X12_ship_38 : gd cX12_ship 38 .iaload 1 39 := ⟨by decide +kernel, rfl⟩
theorem d_X12_ship_39 : gd cX12_ship 39 .ireturn 1 40 := ⟨by decide +kernel, rfl⟩
theorem d_X12_ship_40 : gd cX12_ship 40 (.iload_n 2) 1 41 := ⟨by decide +kernel, rfl⟩
theorem d_X12_ship_41 : gd cX12_ship 41 (.iconst 0) 1 42 := ⟨by decide +kernel, rfl⟩
theorem d_X12_ship_42 : gd cX12_ship 42 (.aload_n 0) 1 43 := ⟨by decide +kernel, rfl⟩
theorem d_X12_ship_43 : gd cX12_ship 43 (.getfield 46) 3 46 := ⟨by decide +kernel, rfl⟩
theorem d_X12_ship_46 : gd cX12_ship 46 (.iload_n 1) 1 47 := ⟨by decide +kernel, rfl⟩
theorem d_X12_ship_47 : gd cX12_ship 47 .iaload 1 48 := ⟨by decide +kernel, rfl⟩
theorem d_X12_ship_48 : gd cX12_ship 48 (.iconst 1) 1 49 := ⟨by decide +kernel, rfl⟩
theorem d_X12_ship_49 : gd cX12_ship 49 .isub 1 50 := ⟨by decide +kernel, rfl⟩
theorem d_X12_ship_50 : gd cX12_ship 50 (.invokestatic 217) 3 53 := ⟨by decide +kernel, rfl⟩
theorem d_X12_ship_53 : gd cX12_ship 53 (.ifCond .eq 13) 3 56 := ⟨by decide +kernel, rfl⟩
theorem d_X12_ship_56 : gd cX12_ship 56 (.aload_n 0) 1 57 := ⟨by decide +kernel, rfl⟩
theorem d_X12_ship_57 : gd cX12_ship 57 (.iload_n 1) 1 58 := ⟨by decide +kernel, rfl⟩
theorem d_X12_ship_58 : gd cX12_ship 58 (.iload_n 2) 1 59 := ⟨by decide +kernel, rfl⟩
theorem d_X12_ship_59 : gd cX12_ship 59 (.iload_n 3) 1 60 := ⟨by decide +kernel, rfl⟩
theorem d_X12_ship_60 : gd cX12_ship 60 (.invokevirtual 286) 3 63 := ⟨by decide +kernel, rfl⟩
theorem d_X12_ship_63 : gd cX12_ship 63 (.goto 4) 3 66 := ⟨by decide +kernel, rfl⟩
theorem d_X12_ship_66 : gd cX12_ship 66 (.iconst (-1)) 1 67 := ⟨by decide +kernel, rfl⟩
theorem d_X12_ship_67 : gd cX12_ship 67 .ireturn 1 68 := ⟨by decide +kernel, rfl⟩
def B_X12_ship_40  (x1 : Int32) (x2 : Int32) (x3 : Int32) (μ : gs_M) : Option (Int32 × gs_M) :=
  ck (inb x1 4) (bd (D_X12_isIn x2 (0 : Int32) ((gI μ 86 (Int32.toNatClampNeg x1)) - (1 : Int32)) μ) (fun v4 u3 => if v4 = 0 then (some ((-1 : Int32), u3)) else (bd (D_X12_holdOf x1 x2 x3 u3) (fun v8 u7 => some (v8, u7)))))
def D_X12_ship (x1 : Int32) (x2 : Int32) (x3 : Int32) (μ : gs_M) : Option (Int32 × gs_M) :=
  lt1 (sI μ 78 0 (0 : Int32)) (fun u1 => bd (D_X12_isShip x1 u1) (fun v4 u3 => if v4 = 0 then (some ((-1 : Int32), u3)) else (bd (D_X12_isIn x3 (0 : Int32) (1 : Int32) u3) (fun v8 u7 => if v8 = 0 then (some ((-1 : Int32), u7)) else (if x2 = (-1 : Int32) then (if x3 = 0 then (ck (inb x1 4) (some (gI u7 86 (Int32.toNatClampNeg x1), u7))) else (B_X12_ship_40 x1 x2 x3 u7)) else (B_X12_ship_40 x1 x2 x3 u7))))))
section S_X12_ship
variable {p : Program} {l : Launch} {e : Env} {R : Room} {s : State} {m : MethodId} {args : Array Value} {below : List Frame} {meth : Method} {c : Code} {ad : Nat → Nat} {g : va_G} {tyc : Nat → ClassId}
set_option maxRecDepth 20000 in
theorem T_X12_ship_40  (hK : KC p R s m args meth c ad g tyc RX12 cX12_ship 4 (some .int) 1) {r : Int32} {μ2 : gs_M}   {x1 : Int32} {x2 : Int32} {x3 : Int32} {μ : gs_M}  (hD : B_X12_ship_40  x1 x2 x3 μ = some (r, μ2)) : WJ p l e R s m args below meth c 0 0 (MQ below (gs_Q ad g tyc (some (.int r)) μ2) args s 0 0 (gs_A ad)) ad g tyc 4 40 [.ref 78, .int x1, .int x2, .int x3] [] μ := by
  unfold B_X12_ship_40 at hD
  refine r_iload_n hK d_X12_ship_40 rfl rfl ?_
  refine r_iconst hK d_X12_ship_41 ci_0 ?_
  refine r_aload_n hK d_X12_ship_42 rfl rfl ?_
  refine r_getR hK d_X12_ship_43 fl_RX12_46_11 rfl kd_78 ?_
  refine r_ref (b := 86) R0_78_21 ?_
  refine r_iload_n hK d_X12_ship_46 rfl rfl ?_
  obtain ⟨h1, hD⟩ := ck_e hD
  refine r_iald hK d_X12_ship_47 kd_86 ln_86 (inb_in h1) ?_
  refine r_iconst hK d_X12_ship_48 ci_1 ?_
  refine r_isub hK d_X12_ship_49 ?_
  obtain ⟨v4, u3, e2, hD⟩ := bd_e hD
  refine r_callS (As := [.int x2, .int (0 : Int32), .int ((gI μ 86 (Int32.toNatClampNeg x1)) - (1 : Int32))]) (st := []) (stk2 := [.int v4]) hK (C_X12_isIn  e2) d_X12_ship_50 mf_X12_isIn ml_RX12_217 ss_X12_isIn rfl (Nat.le_of_ble_eq_true rfl) (by decide) ⟨Nat.zero_le _, Nat.zero_le _⟩ rfl rfl ?_
  refine r_if_eq (tgt := 66) hK d_X12_ship_53 (by decide) (fun h5 => ?_) (fun h5 => ?_)
  · have hD := if_t hD h5
    refine r_iconst hK d_X12_ship_66 ci_m1 ?_
    cases hD
    exact r_iret hK d_X12_ship_67
  · have hD := if_f hD h5
    refine r_aload_n hK d_X12_ship_56 rfl rfl ?_
    refine r_iload_n hK d_X12_ship_57 rfl rfl ?_
    refine r_iload_n hK d_X12_ship_58 rfl rfl ?_
    refine r_iload_n hK d_X12_ship_59 rfl rfl ?_
    obtain ⟨v8, u7, e6, hD⟩ := bd_e hD
    refine r_callV (As := [.int x1, .int x2, .int x3]) (st := []) (stk2 := [.int v8]) hK (C_X12_holdOf  e6) d_X12_ship_60 mf_X12_holdOf ml_RX12_286 im_X12_holdOf rfl se_11_RX12_X12_holdOf kd_78 rfl (Nat.le_of_ble_eq_true rfl) (by decide) ⟨Nat.zero_le _, Nat.zero_le _⟩ rfl rfl ?_
    refine r_goto (tgt := 67) hK d_X12_ship_63 (by decide) ?_
    cases hD
    exact r_iret hK d_X12_ship_67
set_option maxRecDepth 20000 in
theorem C_X12_ship  {x1 : Int32} {x2 : Int32} {x3 : Int32} {μ : gs_M} {r : Int32} {μ2 : gs_M}  (hD : D_X12_ship x1 x2 x3 μ = some (r, μ2)) : CALL yX12_ship cX12_ship 4 (some .int) 1 [.ref 78, .int x1, .int x2, .int x3] μ (some (.int r)) μ2 := by
  unfold D_X12_ship at hD
  refine gs_enter mf_X12_ship (Nat.le_of_ble_eq_true rfl) (ls := [.ref 78, .int x1, .int x2, .int x3]) rfl (fun p l e R s m args below meth c ad g tyc hK => ?_)
  have hK : KC p R s m args meth c ad g tyc RX12 cX12_ship 4 (some .int) 1 := hK
  refine r_aload_n hK d_X12_ship_0 rfl rfl ?_
  refine r_iconst hK d_X12_ship_1 ci_0 ?_
  refine r_putI hK d_X12_ship_2 fl_RX12_98_11 rfl rfl kd_78 ?_
  refine r_ltm hD (fun u1 hD => ?_)
  refine r_aload_n hK d_X12_ship_5 rfl rfl ?_
  refine r_iload_n hK d_X12_ship_6 rfl rfl ?_
  obtain ⟨v4, u3, e2, hD⟩ := bd_e hD
  refine r_callV (As := [.int x1]) (st := []) (stk2 := [.int v4]) hK (C_X12_isShip  e2) d_X12_ship_7 mf_X12_isShip ml_RX12_283 im_X12_isShip rfl se_11_RX12_X12_isShip kd_78 rfl (Nat.le_of_ble_eq_true rfl) (by decide) ⟨Nat.zero_le _, Nat.zero_le _⟩ rfl rfl ?_
  refine r_if_eq (tgt := 22) hK d_X12_ship_10 (by decide) (fun h5 => ?_) (fun h5 => ?_)
  · have hD := if_t hD h5
    refine r_iconst hK d_X12_ship_22 ci_m1 ?_
    cases hD
    exact r_iret hK d_X12_ship_23
  · have hD := if_f hD h5
    refine r_iload_n hK d_X12_ship_13 rfl rfl ?_
    refine r_iconst hK d_X12_ship_14 ci_0 ?_
    refine r_iconst hK d_X12_ship_15 ci_1 ?_
    obtain ⟨v8, u7, e6, hD⟩ := bd_e hD
    refine r_callS (As := [.int x3, .int (0 : Int32), .int (1 : Int32)]) (st := []) (stk2 := [.int v8]) hK (C_X12_isIn  e6) d_X12_ship_16 mf_X12_isIn ml_RX12_217 ss_X12_isIn rfl (Nat.le_of_ble_eq_true rfl) (by decide) ⟨Nat.zero_le _, Nat.zero_le _⟩ rfl rfl ?_
    refine r_if_ne (tgt := 24) hK d_X12_ship_19 (by decide) (fun h9 => ?_) (fun h9 => ?_)
    · have hD := if_f hD h9
      refine r_iload_n hK d_X12_ship_24 rfl rfl ?_
      refine r_iconst hK d_X12_ship_25 ci_m1 ?_
      refine r_icmp_ne (tgt := 40) hK d_X12_ship_26 (by decide) (fun h10 => ?_) (fun h10 => ?_)
      · have hD := if_f hD h10
        exact T_X12_ship_40 hK   hD
      · have hD := if_t hD h10
        refine r_iload_n hK d_X12_ship_29 rfl rfl ?_
        refine r_if_ne (tgt := 40) hK d_X12_ship_30 (by decide) (fun h11 => ?_) (fun h11 => ?_)
        · have hD := if_f hD h11
          exact T_X12_ship_40 hK   hD
        · have hD := if_t hD h11
          refine r_aload_n hK d_X12_ship_33 rfl rfl ?_
          refine r_getR hK d_X12_ship_34 fl_RX12_46_11 rfl kd_78 ?_
          refine r_ref (b := 86) R0_78_21 ?_
          refine r_iload_n hK d_X12_ship_37 rfl rfl ?_
          obtain ⟨h12, hD⟩ := ck_e hD
          refine r_iald hK d_X12_ship_38 kd_86 ln_86 (inb_in h12) ?_
          cases hD
          exact r_iret hK d_X12_ship_39
    · have hD := if_t hD h9
      refine r_iconst hK d_X12_ship_22 ci_m1 ?_
      cases hD
      exact r_iret hK d_X12_ship_23
end S_X12_ship
theorem d_X12_plan_0 : gd cX12_plan 0 (.aload_n 0) 1 1 := ⟨by decide +kernel, rfl⟩
theorem d_X12_plan_1 : gd cX12_plan 1 (.iconst 0) 1 2 := ⟨by decide +kernel, rfl⟩
theorem d_X12_plan_2 : gd cX12_plan 2 (.putfield 98) 3 5 := ⟨by decide +kernel, rfl⟩
theorem d_X12_plan_5 : gd cX12_plan 5 (.aload_n 0) 1 6 := ⟨by decide +kernel, rfl⟩
theorem d_X12_plan_6 : gd cX12_plan 6 (.iload_n 1) 1 7 := ⟨by decide +kernel, rfl⟩
theorem d_X12_plan_7 : gd cX12_plan 7 (.invokevirtual 290) 3 10 := ⟨by decide +kernel, rfl⟩
theorem d_X12_plan_10 : gd cX12_plan 10 (.ifCond .eq 12) 3 13 := ⟨by decide +kernel, rfl⟩
theorem d_X12_plan_13 : gd cX12_plan 13 (.iload_n 3) 1 14 := ⟨by decide +kernel, rfl⟩
theorem d_X12_plan_14 : gd cX12_plan 14 (.iconst 0) 1 15 := ⟨by decide +kernel, rfl⟩
theorem d_X12_plan_15 : gd cX12_plan 15 (.iconst 4) 1 16 := ⟨by decide +kernel, rfl⟩
theorem d_X12_plan_16 : gd cX12_plan 16 (.invokestatic 217) 3 19 := ⟨by decide +kernel, rfl⟩
theorem d_X12_plan_19 : gd cX12_plan 19 (.ifCond .ne 5) 3 22 := ⟨by decide +kernel, rfl⟩
theorem d_X12_plan_22 : gd cX12_plan 22 (.iconst (-1)) 1 23 := ⟨by decide +kernel, rfl⟩
theorem d_X12_plan_23 : gd cX12_plan 23 .ireturn 1 24 := ⟨by decide +kernel, rfl⟩
theorem d_X12_plan_24 : gd cX12_plan 24 (.iload_n 2) 1 25 := ⟨by decide +kernel, rfl⟩
theorem d_X12_plan_25 : gd cX12_plan 25 (.iconst (-1)) 1 26 := ⟨by decide +kernel, rfl⟩
theorem d_X12_plan_26 : gd cX12_plan 26 (.if_icmp .ne 14) 3 29 := ⟨by decide +kernel, rfl⟩
theorem d_X12_plan_29 : gd cX12_plan 29 (.iload_n 3) 1 30 := ⟨by decide +kernel, rfl⟩
theorem d_X12_plan_30 : gd cX12_plan 30 (.ifCond .ne 10) 3 33 := ⟨by decide +kernel, rfl⟩
theorem d_X12_plan_33 : gd cX12_plan 33 (.aload_n 0) 1 34 := ⟨by decide +kernel, rfl⟩
theorem d_X12_plan_34 : gd cX12_plan 34 (.getfield 49) 3 37 := ⟨by decide +kernel, rfl⟩
theorem d_X12_plan_37 : gd cX12_plan 37 (.iload_n 1) 1 38 := ⟨by decide +kernel, rfl⟩
theorem d_X12_plan_38 : gd cX12_plan 38 .iaload 1 39 := ⟨by decide +kernel, rfl⟩
theorem d_X12_plan_39 : gd cX12_plan 39 .ireturn 1 40 := ⟨by decide +kernel, rfl⟩
theorem d_X12_plan_40 : gd cX12_plan 40 (.iload_n 2) 1 41 := ⟨by decide +kernel, rfl⟩
theorem d_X12_plan_41 : gd cX12_plan 41 (.iconst 0) 1 42 := ⟨by decide +kernel, rfl⟩
theorem d_X12_plan_42 : gd cX12_plan 42 (.aload_n 0) 1 43 := ⟨by decide +kernel, rfl⟩
theorem d_X12_plan_43 : gd cX12_plan 43 (.getfield 49) 3 46 := ⟨by decide +kernel, rfl⟩
theorem d_X12_plan_46 : gd cX12_plan 46 (.iload_n 1) 1 47 := ⟨by decide +kernel, rfl⟩
theorem d_X12_plan_47 : gd cX12_plan 47 .iaload 1 48 := ⟨by decide +kernel, rfl⟩
theorem d_X12_plan_48 : gd cX12_plan 48 (.iconst 1) 1 49 := ⟨by decide +kernel, rfl⟩
theorem d_X12_plan_49 : gd cX12_plan 49 .isub 1 50 := ⟨by decide +kernel, rfl⟩
theorem d_X12_plan_50 : gd cX12_plan 50 (.invokestatic 217) 3 53 := ⟨by decide +kernel, rfl⟩
theorem d_X12_plan_53 : gd cX12_plan 53 (.ifCond .eq 13) 3 56 := ⟨by decide +kernel, rfl⟩
theorem d_X12_plan_56 : gd cX12_plan 56 (.aload_n 0) 1 57 := ⟨by decide +kernel, rfl⟩
theorem d_X12_plan_57 : gd cX12_plan 57 (.iload_n 1) 1 58 := ⟨by decide +kernel, rfl⟩
theorem d_X12_plan_58 : gd cX12_plan 58 (.iload_n 2) 1 59 := ⟨by decide +kernel, rfl⟩
theorem d_X12_plan_59 : gd cX12_plan 59 (.iload_n 3) 1 60 := ⟨by decide +kernel, rfl⟩
theorem d_X12_plan_60 : gd cX12_plan 60 (.invokevirtual 293) 3 63 := ⟨by decide +kernel, rfl⟩
theorem d_X12_plan_63 : gd cX12_plan 63 (.goto 4) 3 66 := ⟨by decide +kernel, rfl⟩
theorem d_X12_plan_66 : gd cX12_plan 66 (.iconst (-1)) 1 67 := ⟨by decide +kernel, rfl⟩
theorem d_X12_plan_67 : gd cX12_plan 67 .ireturn 1 68 := ⟨by decide +kernel, rfl⟩
def B_X12_plan_40  (x1 : Int32) (x2 : Int32) (x3 : Int32) (μ : gs_M) : Option (Int32 × gs_M) :=
  ck (inb x1 7) (bd (D_X12_isIn x2 (0 : Int32) ((gI μ 87 (Int32.toNatClampNeg x1)) - (1 : Int32)) μ) (fun v4 u3 => if v4 = 0 then (some ((-1 : Int32), u3)) else (bd (D_X12_layingOf x1 x2 x3 u3) (fun v8 u7 => some (v8, u7)))))
def D_X12_plan (x1 : Int32) (x2 : Int32) (x3 : Int32) (μ : gs_M) : Option (Int32 × gs_M) :=
  lt1 (sI μ 78 0 (0 : Int32)) (fun u1 => bd (D_X12_isPlan x1 u1) (fun v4 u3 => if v4 = 0 then (some ((-1 : Int32), u3)) else (bd (D_X12_isIn x3 (0 : Int32) (4 : Int32) u3) (fun v8 u7 => if v8 = 0 then (some ((-1 : Int32), u7)) else (if x2 = (-1 : Int32) then (if x3 = 0 then (ck (inb x1 7) (some (gI u7 87 (Int32.toNatClampNeg x1), u7))) else (B_X12_plan_40 x1 x2 x3 u7)) else (B_X12_plan_40 x1 x2 x3 u7))))))
section S_X12_plan
variable {p : Program} {l : Launch} {e : Env} {R : Room} {s : State} {m : MethodId} {args : Array Value} {below : List Frame} {meth : Method} {c : Code} {ad : Nat → Nat} {g : va_G} {tyc : Nat → ClassId}
set_option maxRecDepth 20000 in
theorem T_X12_plan_40  (hK : KC p R s m args meth c ad g tyc RX12 cX12_plan 4 (some .int) 1) {r : Int32} {μ2 : gs_M}   {x1 : Int32} {x2 : Int32} {x3 : Int32} {μ : gs_M}  (hD : B_X12_plan_40  x1 x2 x3 μ = some (r, μ2)) : WJ p l e R s m args below meth c 0 0 (MQ below (gs_Q ad g tyc (some (.int r)) μ2) args s 0 0 (gs_A ad)) ad g tyc 4 40 [.ref 78, .int x1, .int x2, .int x3] [] μ := by
  unfold B_X12_plan_40 at hD
  refine r_iload_n hK d_X12_plan_40 rfl rfl ?_
  refine r_iconst hK d_X12_plan_41 ci_0 ?_
  refine r_aload_n hK d_X12_plan_42 rfl rfl ?_
  refine r_getR hK d_X12_plan_43 fl_RX12_49_11 rfl kd_78 ?_
  refine r_ref (b := 87) R0_78_22 ?_
  refine r_iload_n hK d_X12_plan_46 rfl rfl ?_
  obtain ⟨h1, hD⟩ := ck_e hD
  refine r_iald hK d_X12_plan_47 kd_87 ln_87 (inb_in h1) ?_
  refine r_iconst hK d_X12_plan_48 ci_1 ?_
  refine r_isub hK d_X12_plan_49 ?_
  obtain ⟨v4, u3, e2, hD⟩ := bd_e hD
  refine r_callS (As := [.int x2, .int (0 : Int32), .int ((gI μ 87 (Int32.toNatClampNeg x1)) - (1 : Int32))]) (st := []) (stk2 := [.int v4]) hK (C_X12_isIn  e2) d_X12_plan_50 mf_X12_isIn ml_RX12_217 ss_X12_isIn rfl (Nat.le_of_ble_eq_true rfl) (by decide) ⟨Nat.zero_le _, Nat.zero_le _⟩ rfl rfl ?_
  refine r_if_eq (tgt := 66) hK d_X12_plan_53 (by decide) (fun h5 => ?_) (fun h5 => ?_)
  · have hD := if_t hD h5
    refine r_iconst hK d_X12_plan_66 ci_m1 ?_
    cases hD
    exact r_iret hK d_X12_plan_67
  · have hD := if_f hD h5
    refine r_aload_n hK d_X12_plan_56 rfl rfl ?_
    refine r_iload_n hK d_X12_plan_57 rfl rfl ?_
    refine r_iload_n hK d_X12_plan_58 rfl rfl ?_
    refine r_iload_n hK d_X12_plan_59 rfl rfl ?_
    obtain ⟨v8, u7, e6, hD⟩ := bd_e hD
    refine r_callV (As := [.int x1, .int x2, .int x3]) (st := []) (stk2 := [.int v8]) hK (C_X12_layingOf  e6) d_X12_plan_60 mf_X12_layingOf ml_RX12_293 im_X12_layingOf rfl se_11_RX12_X12_layingOf kd_78 rfl (Nat.le_of_ble_eq_true rfl) (by decide) ⟨Nat.zero_le _, Nat.zero_le _⟩ rfl rfl ?_
    refine r_goto (tgt := 67) hK d_X12_plan_63 (by decide) ?_
    cases hD
    exact r_iret hK d_X12_plan_67
set_option maxRecDepth 20000 in
theorem C_X12_plan  {x1 : Int32} {x2 : Int32} {x3 : Int32} {μ : gs_M} {r : Int32} {μ2 : gs_M}  (hD : D_X12_plan x1 x2 x3 μ = some (r, μ2)) : CALL yX12_plan cX12_plan 4 (some .int) 1 [.ref 78, .int x1, .int x2, .int x3] μ (some (.int r)) μ2 := by
  unfold D_X12_plan at hD
  refine gs_enter mf_X12_plan (Nat.le_of_ble_eq_true rfl) (ls := [.ref 78, .int x1, .int x2, .int x3]) rfl (fun p l e R s m args below meth c ad g tyc hK => ?_)
  have hK : KC p R s m args meth c ad g tyc RX12 cX12_plan 4 (some .int) 1 := hK
  refine r_aload_n hK d_X12_plan_0 rfl rfl ?_
  refine r_iconst hK d_X12_plan_1 ci_0 ?_
  refine r_putI hK d_X12_plan_2 fl_RX12_98_11 rfl rfl kd_78 ?_
  refine r_ltm hD (fun u1 hD => ?_)
  refine r_aload_n hK d_X12_plan_5 rfl rfl ?_
  refine r_iload_n hK d_X12_plan_6 rfl rfl ?_
  obtain ⟨v4, u3, e2, hD⟩ := bd_e hD
  refine r_callV (As := [.int x1]) (st := []) (stk2 := [.int v4]) hK (C_X12_isPlan  e2) d_X12_plan_7 mf_X12_isPlan ml_RX12_290 im_X12_isPlan rfl se_11_RX12_X12_isPlan kd_78 rfl (Nat.le_of_ble_eq_true rfl) (by decide) ⟨Nat.zero_le _, Nat.zero_le _⟩ rfl rfl ?_
  refine r_if_eq (tgt := 22) hK d_X12_plan_10 (by decide) (fun h5 => ?_) (fun h5 => ?_)
  · have hD := if_t hD h5
    refine r_iconst hK d_X12_plan_22 ci_m1 ?_
    cases hD
    exact r_iret hK d_X12_plan_23
  · have hD := if_f hD h5
    refine r_iload_n hK d_X12_plan_13 rfl rfl ?_
    refine r_iconst hK d_X12_plan_14 ci_0 ?_
    refine r_iconst hK d_X12_plan_15 ci_4 ?_
    obtain ⟨v8, u7, e6, hD⟩ := bd_e hD
    refine r_callS (As := [.int x3, .int (0 : Int32), .int (4 : Int32)]) (st := []) (stk2 := [.int v8]) hK (C_X12_isIn  e6) d_X12_plan_16 mf_X12_isIn ml_RX12_217 ss_X12_isIn rfl (Nat.le_of_ble_eq_true rfl) (by decide) ⟨Nat.zero_le _, Nat.zero_le _⟩ rfl rfl ?_
    refine r_if_ne (tgt := 24) hK d_X12_plan_19 (by decide) (fun h9 => ?_) (fun h9 => ?_)
    · have hD := if_f hD h9
      refine r_iload_n hK d_X12_plan_24 rfl rfl ?_
      refine r_iconst hK d_X12_plan_25 ci_m1 ?_
      refine r_icmp_ne (tgt := 40) hK d_X12_plan_26 (by decide) (fun h10 => ?_) (fun h10 => ?_)
      · have hD := if_f hD h10
        exact T_X12_plan_40 hK   hD
      · have hD := if_t hD h10
        refine r_iload_n hK d_X12_plan_29 rfl rfl ?_
        refine r_if_ne (tgt := 40) hK d_X12_plan_30 (by decide) (fun h11 => ?_) (fun h11 => ?_)
        · have hD := if_f hD h11
          exact T_X12_plan_40 hK   hD
        · have hD := if_t hD h11
          refine r_aload_n hK d_X12_plan_33 rfl rfl ?_
          refine r_getR hK d_X12_plan_34 fl_RX12_49_11 rfl kd_78 ?_
          refine r_ref (b := 87) R0_78_22 ?_
          refine r_iload_n hK d_X12_plan_37 rfl rfl ?_
          obtain ⟨h12, hD⟩ := ck_e hD
          refine r_iald hK d_X12_plan_38 kd_87 ln_87 (inb_in h12) ?_
          cases hD
          exact r_iret hK d_X12_plan_39
    · have hD := if_t hD h9
      refine r_iconst hK d_X12_plan_22 ci_m1 ?_
      cases hD
      exact r_iret hK d_X12_plan_23
end S_X12_plan
theorem d_X12_set_0 : gd cX12_set 0 (.aload_n 0) 1 1 := ⟨by decide +kernel, rfl⟩
theorem d_X12_set_1 : gd cX12_set 1 (.iconst 0) 1 2 := ⟨by decide +kernel, rfl⟩
theorem d_X12_set_2 : gd cX12_set 2 (.putfield 98) 3 5 := ⟨by decide +kernel, rfl⟩
theorem d_X12_set_5 : gd cX12_set 5 (.iload_n 1) 1 6 := ⟨by decide +kernel, rfl⟩
theorem d_X12_set_6 : gd cX12_set 6 (.iconst 0) 1 7 := ⟨by decide +kernel, rfl⟩
theorem d_X12_set_7 : gd cX12_set 7 (.iconst 2) 1 8 := ⟨by decide +kernel, rfl⟩
theorem d_X12_set_8 : gd cX12_set 8 (.invokestatic 217) 3 11 := ⟨by decide +kernel, rfl⟩
theorem d_X12_set_11 : gd cX12_set 11 (.ifCond .eq 45) 3 14 := ⟨by decide +kernel, rfl⟩
theorem d_X12_set_14 : gd cX12_set 14 (.iload_n 2) 1 15 := ⟨by decide +kernel, rfl⟩
theorem d_X12_set_15 : gd cX12_set 15 (.iload_n 1) 1 16 := ⟨by decide +kernel, rfl⟩
theorem d_X12_set_16 : gd cX12_set 16 (.iconst 1) 1 17 := ⟨by decide +kernel, rfl⟩
theorem d_X12_set_17 : gd cX12_set 17 (.if_icmp .ne 9) 3 20 := ⟨by decide +kernel, rfl⟩
theorem d_X12_set_20 : gd cX12_set 20 (.sipush (-999)) 3 23 := ⟨by decide +kernel, rfl⟩
theorem d_X12_set_23 : gd cX12_set 23 (.goto 4) 3 26 := ⟨by decide +kernel, rfl⟩
theorem d_X12_set_26 : gd cX12_set 26 (.iconst 1) 1 27 := ⟨by decide +kernel, rfl⟩
theorem d_X12_set_27 : gd cX12_set 27 (.iload_n 1) 1 28 := ⟨by decide +kernel, rfl⟩
theorem d_X12_set_28 : gd cX12_set 28 (.ifCond .ne 9) 3 31 := ⟨by decide +kernel, rfl⟩
theorem d_X12_set_31 : gd cX12_set 31 (.sipush 9999) 3 34 := ⟨by decide +kernel, rfl⟩
theorem d_X12_set_34 : gd cX12_set 34 (.goto 16) 3 37 := ⟨by decide +kernel, rfl⟩
theorem d_X12_set_37 : gd cX12_set 37 (.iload_n 1) 1 38 := ⟨by decide +kernel, rfl⟩
theorem d_X12_set_38 : gd cX12_set 38 (.iconst 1) 1 39 := ⟨by decide +kernel, rfl⟩
theorem d_X12_set_39 : gd cX12_set 39 (.if_icmp .ne 9) 3 42 := ⟨by decide +kernel, rfl⟩
theorem d_X12_set_42 : gd cX12_set 42 (.sipush 999) 3 45 := ⟨by decide +kernel, rfl⟩
theorem d_X12_set_45 : gd cX12_set 45 (.goto 5) 3 48 := ⟨by decide +kernel, rfl⟩
theorem d_X12_set_48 : gd cX12_set 48 (.bipush 60) 2 50 := ⟨by decide +kernel, rfl⟩
theorem d_X12_set_50 : gd cX12_set 50 (.invokestatic 217) 3 53 := ⟨by decide +kernel, rfl⟩
theorem d_X12_set_53 : gd cX12_set 53 (.ifCond .ne 5) 3 56 := ⟨by decide +kernel, rfl⟩
theorem d_X12_set_56 : gd cX12_set 56 (.iconst 0) 1 57 := ⟨by decide +kernel, rfl⟩
theorem d_X12_set_57 : gd cX12_set 57 .ireturn 1 58 := ⟨by decide +kernel, rfl⟩
theorem d_X12_set_58 : gd cX12_set 58 (.iload_n 1) 1 59 := ⟨by decide +kernel, rfl⟩
theorem d_X12_set_59 : gd cX12_set 59 (.ifCond .ne 8) 3 62 := ⟨by decide +kernel, rfl⟩
theorem d_X12_set_62 : gd cX12_set 62 (.aload_n 0) 1 63 := ⟨by decide +kernel, rfl⟩
theorem d_X12_set_63 : gd cX12_set 63 (.iload_n 2) 1 64 := ⟨by decide +kernel, rfl⟩
theorem d_X12_set_64 : gd cX12_set 64 (.putfield 64) 3 67 := ⟨by decide +kernel, rfl⟩
theorem d_X12_set_67 : gd cX12_set 67 (.iload_n 1) 1 68 := ⟨by decide +kernel, rfl⟩
theorem d_X12_set_68 : gd cX12_set 68 (.iconst 1) 1 69 := ⟨by decide +kernel, rfl⟩
theorem d_X12_set_69 : gd cX12_set 69 (.if_icmp .ne 8) 3 72 := ⟨by decide +kernel, rfl⟩
theorem d_X12_set_72 : gd cX12_set 72 (.aload_n 0) 1 73 := ⟨by decide +kernel, rfl⟩
theorem d_X12_set_73 : gd cX12_set 73 (.iload_n 2) 1 74 := ⟨by decide +kernel, rfl⟩
theorem d_X12_set_74 : gd cX12_set 74 (.putfield 296) 3 77 := ⟨by decide +kernel, rfl⟩
theorem d_X12_set_77 : gd cX12_set 77 (.iload_n 1) 1 78 := ⟨by decide +kernel, rfl⟩
theorem d_X12_set_78 : gd cX12_set 78 (.iconst 2) 1 79 := ⟨by decide +kernel, rfl⟩
theorem d_X12_set_79 : gd cX12_set 79 (.if_icmp .ne 8) 3 82 := ⟨by decide +kernel, rfl⟩
theorem d_X12_set_82 : gd cX12_set 82 (.aload_n 0) 1 83 := ⟨by decide +kernel, rfl⟩
theorem d_X12_set_83 : gd cX12_set 83 (.iload_n 2) 1 84 := ⟨by decide +kernel, rfl⟩
theorem d_X12_set_84 : gd cX12_set 84 (.putfield 68) 3 87 := ⟨by decide +kernel, rfl⟩
theorem d_X12_set_87 : gd cX12_set 87 (.iconst 1) 1 88 := ⟨by decide +kernel, rfl⟩
theorem d_X12_set_88 : gd cX12_set 88 .ireturn 1 89 := ⟨by decide +kernel, rfl⟩
def B_X12_set_77  (x1 : Int32) (x2 : Int32) (μ : gs_M) : Option (Int32 × gs_M) :=
  if x1 = (2 : Int32) then (lt1 (sI μ 78 29 x2) (fun u2 => some ((1 : Int32), u2))) else (some ((1 : Int32), μ))
def B_X12_set_67  (x1 : Int32) (x2 : Int32) (μ : gs_M) : Option (Int32 × gs_M) :=
  if x1 = (1 : Int32) then (lt1 (sI μ 78 28 x2) (fun u2 => B_X12_set_77 x1 x2 u2)) else (B_X12_set_77 x1 x2 μ)
def B_X12_set_50  (x1 : Int32) (x2 : Int32) (xs0 : Int32) (xs1 : Int32) (xs2 : Int32) (μ : gs_M) : Option (Int32 × gs_M) :=
  bd (D_X12_isIn xs0 xs1 xs2 μ) (fun v3 u2 => if v3 = 0 then (some ((0 : Int32), u2)) else (if x1 = 0 then (lt1 (sI u2 78 27 x2) (fun u6 => B_X12_set_67 x1 x2 u6)) else (B_X12_set_67 x1 x2 u2)))
def B_X12_set_27  (x1 : Int32) (x2 : Int32) (xs0 : Int32) (xs1 : Int32) (μ : gs_M) : Option (Int32 × gs_M) :=
  if x1 = 0 then (B_X12_set_50 x1 x2 xs0 xs1 (9999 : Int32) μ) else (if x1 = (1 : Int32) then (B_X12_set_50 x1 x2 xs0 xs1 (999 : Int32) μ) else (B_X12_set_50 x1 x2 xs0 xs1 (60 : Int32) μ))
def D_X12_set (x1 : Int32) (x2 : Int32) (μ : gs_M) : Option (Int32 × gs_M) :=
  lt1 (sI μ 78 0 (0 : Int32)) (fun u1 => bd (D_X12_isIn x1 (0 : Int32) (2 : Int32) u1) (fun v4 u3 => if v4 = 0 then (some ((0 : Int32), u3)) else (if x1 = (1 : Int32) then (B_X12_set_27 x1 x2 x2 (-999 : Int32) u3) else (B_X12_set_27 x1 x2 x2 (1 : Int32) u3))))
section S_X12_set
variable {p : Program} {l : Launch} {e : Env} {R : Room} {s : State} {m : MethodId} {args : Array Value} {below : List Frame} {meth : Method} {c : Code} {ad : Nat → Nat} {g : va_G} {tyc : Nat → ClassId}
set_option maxRecDepth 20000 in
theorem T_X12_set_77  (hK : KC p R s m args meth c ad g tyc RX12 cX12_set 3 (some .boolean) 1) {r : Int32} {μ2 : gs_M}   {x1 : Int32} {x2 : Int32} {μ : gs_M}  (hD : B_X12_set_77  x1 x2 μ = some (r, μ2)) : WJ p l e R s m args below meth c 0 0 (MQ below (gs_Q ad g tyc (some (.int r)) μ2) args s 0 0 (gs_A ad)) ad g tyc 3 77 [.ref 78, .int x1, .int x2] [] μ := by
  unfold B_X12_set_77 at hD
  refine r_iload_n hK d_X12_set_77 rfl rfl ?_
  refine r_iconst hK d_X12_set_78 ci_2 ?_
  refine r_icmp_ne (tgt := 87) hK d_X12_set_79 (by decide) (fun h1 => ?_) (fun h1 => ?_)
  · have hD := if_f hD h1
    refine r_iconst hK d_X12_set_87 ci_1 ?_
    cases hD
    exact r_zret hK (Or.inr rfl) d_X12_set_88
  · have hD := if_t hD h1
    refine r_aload_n hK d_X12_set_82 rfl rfl ?_
    refine r_iload_n hK d_X12_set_83 rfl rfl ?_
    refine r_putI hK d_X12_set_84 fl_RX12_68_11 rfl rfl kd_78 ?_
    refine r_ltm hD (fun u2 hD => ?_)
    refine r_iconst hK d_X12_set_87 ci_1 ?_
    cases hD
    exact r_zret hK (Or.inr rfl) d_X12_set_88
set_option maxRecDepth 20000 in
theorem T_X12_set_67  (hK : KC p R s m args meth c ad g tyc RX12 cX12_set 3 (some .boolean) 1) {r : Int32} {μ2 : gs_M}   {x1 : Int32} {x2 : Int32} {μ : gs_M}  (hD : B_X12_set_67  x1 x2 μ = some (r, μ2)) : WJ p l e R s m args below meth c 0 0 (MQ below (gs_Q ad g tyc (some (.int r)) μ2) args s 0 0 (gs_A ad)) ad g tyc 3 67 [.ref 78, .int x1, .int x2] [] μ := by
  unfold B_X12_set_67 at hD
  refine r_iload_n hK d_X12_set_67 rfl rfl ?_
  refine r_iconst hK d_X12_set_68 ci_1 ?_
  refine r_icmp_ne (tgt := 77) hK d_X12_set_69 (by decide) (fun h1 => ?_) (fun h1 => ?_)
  · have hD := if_f hD h1
    exact T_X12_set_77 hK   hD
  · have hD := if_t hD h1
    refine r_aload_n hK d_X12_set_72 rfl rfl ?_
    refine r_iload_n hK d_X12_set_73 rfl rfl ?_
    refine r_putI hK d_X12_set_74 fl_RX12_296_11 rfl rfl kd_78 ?_
    refine r_ltm hD (fun u2 hD => ?_)
    exact T_X12_set_77 hK   hD
set_option maxRecDepth 20000 in
theorem T_X12_set_50  (hK : KC p R s m args meth c ad g tyc RX12 cX12_set 3 (some .boolean) 1) {r : Int32} {μ2 : gs_M}   {x1 : Int32} {x2 : Int32} {xs0 : Int32} {xs1 : Int32} {xs2 : Int32} {μ : gs_M}  (hD : B_X12_set_50  x1 x2 xs0 xs1 xs2 μ = some (r, μ2)) : WJ p l e R s m args below meth c 0 0 (MQ below (gs_Q ad g tyc (some (.int r)) μ2) args s 0 0 (gs_A ad)) ad g tyc 3 50 [.ref 78, .int x1, .int x2] [.int xs2, .int xs1, .int xs0] μ := by
  unfold B_X12_set_50 at hD
  obtain ⟨v3, u2, e1, hD⟩ := bd_e hD
  refine r_callS (As := [.int xs0, .int xs1, .int xs2]) (st := []) (stk2 := [.int v3]) hK (C_X12_isIn  e1) d_X12_set_50 mf_X12_isIn ml_RX12_217 ss_X12_isIn rfl (Nat.le_of_ble_eq_true rfl) (by decide) ⟨Nat.zero_le _, Nat.zero_le _⟩ rfl rfl ?_
  refine r_if_ne (tgt := 58) hK d_X12_set_53 (by decide) (fun h4 => ?_) (fun h4 => ?_)
  · have hD := if_f hD h4
    refine r_iload_n hK d_X12_set_58 rfl rfl ?_
    refine r_if_ne (tgt := 67) hK d_X12_set_59 (by decide) (fun h5 => ?_) (fun h5 => ?_)
    · have hD := if_f hD h5
      exact T_X12_set_67 hK   hD
    · have hD := if_t hD h5
      refine r_aload_n hK d_X12_set_62 rfl rfl ?_
      refine r_iload_n hK d_X12_set_63 rfl rfl ?_
      refine r_putI hK d_X12_set_64 fl_RX12_64_11 rfl rfl kd_78 ?_
      refine r_ltm hD (fun u6 hD => ?_)
      exact T_X12_set_67 hK   hD
  · have hD := if_t hD h4
    refine r_iconst hK d_X12_set_56 ci_0 ?_
    cases hD
    exact r_zret hK (Or.inl rfl) d_X12_set_57
set_option maxRecDepth 20000 in
theorem T_X12_set_27  (hK : KC p R s m args meth c ad g tyc RX12 cX12_set 3 (some .boolean) 1) {r : Int32} {μ2 : gs_M}   {x1 : Int32} {x2 : Int32} {xs0 : Int32} {xs1 : Int32} {μ : gs_M}  (hD : B_X12_set_27  x1 x2 xs0 xs1 μ = some (r, μ2)) : WJ p l e R s m args below meth c 0 0 (MQ below (gs_Q ad g tyc (some (.int r)) μ2) args s 0 0 (gs_A ad)) ad g tyc 3 27 [.ref 78, .int x1, .int x2] [.int xs1, .int xs0] μ := by
  unfold B_X12_set_27 at hD
  refine r_iload_n hK d_X12_set_27 rfl rfl ?_
  refine r_if_ne (tgt := 37) hK d_X12_set_28 (by decide) (fun h1 => ?_) (fun h1 => ?_)
  · have hD := if_f hD h1
    refine r_iload_n hK d_X12_set_37 rfl rfl ?_
    refine r_iconst hK d_X12_set_38 ci_1 ?_
    refine r_icmp_ne (tgt := 48) hK d_X12_set_39 (by decide) (fun h2 => ?_) (fun h2 => ?_)
    · have hD := if_f hD h2
      refine r_bipush hK d_X12_set_48 cb_60 ?_
      exact T_X12_set_50 hK   hD
    · have hD := if_t hD h2
      refine r_sipush hK d_X12_set_42 cs_999 ?_
      refine r_goto (tgt := 50) hK d_X12_set_45 (by decide) ?_
      exact T_X12_set_50 hK   hD
  · have hD := if_t hD h1
    refine r_sipush hK d_X12_set_31 cs_9999 ?_
    refine r_goto (tgt := 50) hK d_X12_set_34 (by decide) ?_
    exact T_X12_set_50 hK   hD
set_option maxRecDepth 20000 in
theorem C_X12_set  {x1 : Int32} {x2 : Int32} {μ : gs_M} {r : Int32} {μ2 : gs_M}  (hD : D_X12_set x1 x2 μ = some (r, μ2)) : CALL yX12_set cX12_set 3 (some .boolean) 1 [.ref 78, .int x1, .int x2] μ (some (.int r)) μ2 := by
  unfold D_X12_set at hD
  refine gs_enter mf_X12_set (Nat.le_of_ble_eq_true rfl) (ls := [.ref 78, .int x1, .int x2]) rfl (fun p l e R s m args below meth c ad g tyc hK => ?_)
  have hK : KC p R s m args meth c ad g tyc RX12 cX12_set 3 (some .boolean) 1 := hK
  refine r_aload_n hK d_X12_set_0 rfl rfl ?_
  refine r_iconst hK d_X12_set_1 ci_0 ?_
  refine r_putI hK d_X12_set_2 fl_RX12_98_11 rfl rfl kd_78 ?_
  refine r_ltm hD (fun u1 hD => ?_)
  refine r_iload_n hK d_X12_set_5 rfl rfl ?_
  refine r_iconst hK d_X12_set_6 ci_0 ?_
  refine r_iconst hK d_X12_set_7 ci_2 ?_
  obtain ⟨v4, u3, e2, hD⟩ := bd_e hD
  refine r_callS (As := [.int x1, .int (0 : Int32), .int (2 : Int32)]) (st := []) (stk2 := [.int v4]) hK (C_X12_isIn  e2) d_X12_set_8 mf_X12_isIn ml_RX12_217 ss_X12_isIn rfl (Nat.le_of_ble_eq_true rfl) (by decide) ⟨Nat.zero_le _, Nat.zero_le _⟩ rfl rfl ?_
  refine r_if_eq (tgt := 56) hK d_X12_set_11 (by decide) (fun h5 => ?_) (fun h5 => ?_)
  · have hD := if_t hD h5
    refine r_iconst hK d_X12_set_56 ci_0 ?_
    cases hD
    exact r_zret hK (Or.inl rfl) d_X12_set_57
  · have hD := if_f hD h5
    refine r_iload_n hK d_X12_set_14 rfl rfl ?_
    refine r_iload_n hK d_X12_set_15 rfl rfl ?_
    refine r_iconst hK d_X12_set_16 ci_1 ?_
    refine r_icmp_ne (tgt := 26) hK d_X12_set_17 (by decide) (fun h6 => ?_) (fun h6 => ?_)
    · have hD := if_f hD h6
      refine r_iconst hK d_X12_set_26 ci_1 ?_
      exact T_X12_set_27 hK   hD
    · have hD := if_t hD h6
      refine r_sipush hK d_X12_set_20 cs_m999 ?_
      refine r_goto (tgt := 27) hK d_X12_set_23 (by decide) ?_
      exact T_X12_set_27 hK   hD
end S_X12_set
theorem d_X12_copy_0 : gd cX12_copy 0 (.iconst 0) 1 1 := ⟨by decide +kernel, rfl⟩
theorem d_X12_copy_1 : gd cX12_copy 1 (.istore_n 2) 1 2 := ⟨by decide +kernel, rfl⟩
theorem d_X12_copy_2 : gd cX12_copy 2 (.iload_n 2) 1 3 := ⟨by decide +kernel, rfl⟩
theorem d_X12_copy_3 : gd cX12_copy 3 (.aload_n 1) 1 4 := ⟨by decide +kernel, rfl⟩
theorem d_X12_copy_4 : gd cX12_copy 4 .arraylength 1 5 := ⟨by decide +kernel, rfl⟩
theorem d_X12_copy_5 : gd cX12_copy 5 (.if_icmp .ge 15) 3 8 := ⟨by decide +kernel, rfl⟩
theorem d_X12_copy_8 : gd cX12_copy 8 (.aload_n 1) 1 9 := ⟨by decide +kernel, rfl⟩
theorem d_X12_copy_9 : gd cX12_copy 9 (.iload_n 2) 1 10 := ⟨by decide +kernel, rfl⟩
theorem d_X12_copy_10 : gd cX12_copy 10 (.aload_n 0) 1 11 := ⟨by decide +kernel, rfl⟩
theorem d_X12_copy_11 : gd cX12_copy 11 (.iload_n 2) 1 12 := ⟨by decide +kernel, rfl⟩
theorem d_X12_copy_12 : gd cX12_copy 12 .iaload 1 13 := ⟨by decide +kernel, rfl⟩
theorem d_X12_copy_13 : gd cX12_copy 13 .iastore 1 14 := ⟨by decide +kernel, rfl⟩
theorem d_X12_copy_14 : gd cX12_copy 14 (.iinc 2 1) 3 17 := ⟨by decide +kernel, rfl⟩
theorem d_X12_copy_17 : gd cX12_copy 17 (.goto (-15)) 3 20 := ⟨by decide +kernel, rfl⟩
theorem d_X12_copy_20 : gd cX12_copy 20 .return_ 1 21 := ⟨by decide +kernel, rfl⟩
def Bo_X12_copy_2 (q2 : Nat → Nat → Int32 → gs_M → Option (gs_M)) (a0 : Nat) (a1 : Nat) (x2 : Int32) (μ : gs_M) : Option (gs_M) :=
  if (Int32.ofNat (ln a1)) ≤ x2 then (some μ) else (ck (inb x2 (ln a0)) (ck (inb x2 (ln a1)) (lt1 (sI μ a1 (Int32.toNatClampNeg x2) (gI μ a0 (Int32.toNatClampNeg x2))) (fun u4 => q2 a0 a1 (x2 + (1 : Int32)) u4))))
def L_X12_copy_2  : Nat → Nat → Nat → Int32 → gs_M → Option (gs_M)
  | 0 => fun _ _ _ _ => none
  | n + 1 => fun a0 a1 x2 μ => Bo_X12_copy_2  (L_X12_copy_2  n) a0 a1 x2 μ
def D_X12_copy (a0 : Nat) (a1 : Nat) (μ : gs_M) : Option (gs_M) :=
  L_X12_copy_2 4096 a0 a1 (0 : Int32) μ
section S_X12_copy
variable {p : Program} {l : Launch} {e : Env} {R : Room} {s : State} {m : MethodId} {args : Array Value} {below : List Frame} {meth : Method} {c : Code} {ad : Nat → Nat} {g : va_G} {tyc : Nat → ClassId}
set_option maxRecDepth 20000 in
theorem To_X12_copy_2  (hK : KC p R s m args meth c ad g tyc RX12 cX12_copy 3 none 0) {μ2 : gs_M} {q2 : Nat → Nat → Int32 → gs_M → Option (gs_M)} (hq2 : ∀ (a0 : Nat) (a1 : Nat) (x2 : Int32) (μ : gs_M), kd a0 = 20 → kd a1 = 20 → q2 a0 a1 x2 μ = some μ2 → WJ p l e R s m args below meth c 0 0 (MQ below (gs_Q ad g tyc none μ2) args s 0 0 (gs_A ad)) ad g tyc 3 2 [.ref a0, .ref a1, .int x2] [] μ) {a0 : Nat} {a1 : Nat} {x2 : Int32} {μ : gs_M} (hk0 : kd a0 = 20) (hk1 : kd a1 = 20) (hD : Bo_X12_copy_2 q2 a0 a1 x2 μ = some μ2) : WJ p l e R s m args below meth c 0 0 (MQ below (gs_Q ad g tyc none μ2) args s 0 0 (gs_A ad)) ad g tyc 3 2 [.ref a0, .ref a1, .int x2] [] μ := by
  unfold Bo_X12_copy_2 at hD
  refine r_iload_n hK d_X12_copy_2 rfl rfl ?_
  refine r_aload_n hK d_X12_copy_3 rfl rfl ?_
  refine r_alen hK d_X12_copy_4 hk1 rfl rfl ?_
  refine r_icmp_ge (tgt := 20) hK d_X12_copy_5 (by decide) (fun h1 => ?_) (fun h1 => ?_)
  · have hD := if_t hD h1
    cases hD
    exact r_vret hK d_X12_copy_20
  · have hD := if_f hD h1
    refine r_aload_n hK d_X12_copy_8 rfl rfl ?_
    refine r_iload_n hK d_X12_copy_9 rfl rfl ?_
    refine r_aload_n hK d_X12_copy_10 rfl rfl ?_
    refine r_iload_n hK d_X12_copy_11 rfl rfl ?_
    obtain ⟨h2, hD⟩ := ck_e hD
    refine r_iald hK d_X12_copy_12 hk0 rfl (inb_in h2) ?_
    obtain ⟨h3, hD⟩ := ck_e hD
    refine r_iast hK d_X12_copy_13 hk1 rfl (inb_in h3) ?_
    refine r_ltm hD (fun u4 hD => ?_)
    refine r_iinc hK d_X12_copy_14 rfl (v := x2 + (1 : Int32)) (by rw [ci_1]) (by decide) (ls2 := [.ref a0, .ref a1, .int (x2 + (1 : Int32))]) rfl ?_
    refine r_goto (tgt := 2) hK d_X12_copy_17 (by decide) ?_
    exact hq2 _ _ _ _ hk0 hk1 hD
set_option maxRecDepth 20000 in
theorem TL_X12_copy_2  (hK : KC p R s m args meth c ad g tyc RX12 cX12_copy 3 none 0) {μ2 : gs_M}   : ∀ (n : Nat) (a0 : Nat) (a1 : Nat) (x2 : Int32) (μ : gs_M), kd a0 = 20 → kd a1 = 20 → L_X12_copy_2  n a0 a1 x2 μ = some μ2 → WJ p l e R s m args below meth c 0 0 (MQ below (gs_Q ad g tyc none μ2) args s 0 0 (gs_A ad)) ad g tyc 3 2 [.ref a0, .ref a1, .int x2] [] μ := by
  intro n
  induction n with
  | zero => intro a0 a1 x2 μ hk0 hk1 hD; cases hD
  | succ n ih => intro a0 a1 x2 μ hk0 hk1 hD; exact To_X12_copy_2 hK  ih hk0 hk1 hD
set_option maxRecDepth 20000 in
theorem C_X12_copy  {a0 : Nat} {a1 : Nat} {μ : gs_M} {μ2 : gs_M} (hk0 : kd a0 = 20) (hk1 : kd a1 = 20) (hD : D_X12_copy a0 a1 μ = some μ2) : CALL yX12_copy cX12_copy 3 none 0 [.ref a0, .ref a1] μ none μ2 := by
  unfold D_X12_copy at hD
  refine gs_enter mf_X12_copy (Nat.le_of_ble_eq_true rfl) (ls := [.ref a0, .ref a1, gs_J]) rfl (fun p l e R s m args below meth c ad g tyc hK => ?_)
  have hK : KC p R s m args meth c ad g tyc RX12 cX12_copy 3 none 0 := hK
  refine r_iconst hK d_X12_copy_0 ci_0 ?_
  refine r_istore_n hK d_X12_copy_1 rfl (by decide) (ls2 := [.ref a0, .ref a1, .int (0 : Int32)]) rfl ?_
  exact TL_X12_copy_2 hK  _ _ _ _ _ hk0 hk1 hD
end S_X12_copy
theorem d_X12_now_0 : gd cX12_now 0 (.aload_n 0) 1 1 := ⟨by decide +kernel, rfl⟩
theorem d_X12_now_1 : gd cX12_now 1 (.getfield 71) 3 4 := ⟨by decide +kernel, rfl⟩
theorem d_X12_now_4 : gd cX12_now 4 (.iload_n 1) 1 5 := ⟨by decide +kernel, rfl⟩
theorem d_X12_now_5 : gd cX12_now 5 .iaload 1 6 := ⟨by decide +kernel, rfl⟩
theorem d_X12_now_6 : gd cX12_now 6 .ireturn 1 7 := ⟨by decide +kernel, rfl⟩
def D_X12_now (x1 : Int32) (μ : gs_M) : Option (Int32 × gs_M) :=
  ck (inb x1 81) (some (gI μ 89 (Int32.toNatClampNeg x1), μ))
section S_X12_now
variable {p : Program} {l : Launch} {e : Env} {R : Room} {s : State} {m : MethodId} {args : Array Value} {below : List Frame} {meth : Method} {c : Code} {ad : Nat → Nat} {g : va_G} {tyc : Nat → ClassId}
set_option maxRecDepth 20000 in
theorem C_X12_now  {x1 : Int32} {μ : gs_M} {r : Int32} {μ2 : gs_M}  (hD : D_X12_now x1 μ = some (r, μ2)) : CALL yX12_now cX12_now 2 (some .int) 0 [.ref 78, .int x1] μ (some (.int r)) μ2 := by
  unfold D_X12_now at hD
  refine gs_enter mf_X12_now (Nat.le_of_ble_eq_true rfl) (ls := [.ref 78, .int x1]) rfl (fun p l e R s m args below meth c ad g tyc hK => ?_)
  have hK : KC p R s m args meth c ad g tyc RX12 cX12_now 2 (some .int) 0 := hK
  refine r_aload_n hK d_X12_now_0 rfl rfl ?_
  refine r_getR hK d_X12_now_1 fl_RX12_71_11 rfl kd_78 ?_
  refine r_ref (b := 89) R0_78_30 ?_
  refine r_iload_n hK d_X12_now_4 rfl rfl ?_
  obtain ⟨h1, hD⟩ := ck_e hD
  refine r_iald hK d_X12_now_5 kd_89 ln_89 (inb_in h1) ?_
  cases hD
  exact r_iret hK d_X12_now_6
end S_X12_now
theorem d_X12_of_0 : gd cX12_of 0 (.aload_n 0) 1 1 := ⟨by decide +kernel, rfl⟩
theorem d_X12_of_1 : gd cX12_of 1 (.getfield 71) 3 4 := ⟨by decide +kernel, rfl⟩
theorem d_X12_of_4 : gd cX12_of 4 (.bipush 7) 2 6 := ⟨by decide +kernel, rfl⟩
theorem d_X12_of_6 : gd cX12_of 6 (.iload_n 1) 1 7 := ⟨by decide +kernel, rfl⟩
theorem d_X12_of_7 : gd cX12_of 7 .imul 1 8 := ⟨by decide +kernel, rfl⟩
theorem d_X12_of_8 : gd cX12_of 8 (.iload_n 2) 1 9 := ⟨by decide +kernel, rfl⟩
theorem d_X12_of_9 : gd cX12_of 9 .iadd 1 10 := ⟨by decide +kernel, rfl⟩
theorem d_X12_of_10 : gd cX12_of 10 .iaload 1 11 := ⟨by decide +kernel, rfl⟩
theorem d_X12_of_11 : gd cX12_of 11 .ireturn 1 12 := ⟨by decide +kernel, rfl⟩
def D_X12_of (x1 : Int32) (x2 : Int32) (μ : gs_M) : Option (Int32 × gs_M) :=
  ck (inb (((7 : Int32) * x1) + x2) 81) (some (gI μ 89 (Int32.toNatClampNeg (((7 : Int32) * x1) + x2)), μ))
section S_X12_of
variable {p : Program} {l : Launch} {e : Env} {R : Room} {s : State} {m : MethodId} {args : Array Value} {below : List Frame} {meth : Method} {c : Code} {ad : Nat → Nat} {g : va_G} {tyc : Nat → ClassId}
set_option maxRecDepth 20000 in
theorem C_X12_of  {x1 : Int32} {x2 : Int32} {μ : gs_M} {r : Int32} {μ2 : gs_M}  (hD : D_X12_of x1 x2 μ = some (r, μ2)) : CALL yX12_of cX12_of 3 (some .int) 0 [.ref 78, .int x1, .int x2] μ (some (.int r)) μ2 := by
  unfold D_X12_of at hD
  refine gs_enter mf_X12_of (Nat.le_of_ble_eq_true rfl) (ls := [.ref 78, .int x1, .int x2]) rfl (fun p l e R s m args below meth c ad g tyc hK => ?_)
  have hK : KC p R s m args meth c ad g tyc RX12 cX12_of 3 (some .int) 0 := hK
  refine r_aload_n hK d_X12_of_0 rfl rfl ?_
  refine r_getR hK d_X12_of_1 fl_RX12_71_11 rfl kd_78 ?_
  refine r_ref (b := 89) R0_78_30 ?_
  refine r_bipush hK d_X12_of_4 cb_7 ?_
  refine r_iload_n hK d_X12_of_6 rfl rfl ?_
  refine r_imul hK d_X12_of_7 ?_
  refine r_iload_n hK d_X12_of_8 rfl rfl ?_
  refine r_iadd hK d_X12_of_9 ?_
  obtain ⟨h1, hD⟩ := ck_e hD
  refine r_iald hK d_X12_of_10 kd_89 ln_89 (inb_in h1) ?_
  cases hD
  exact r_iret hK d_X12_of_11
end S_X12_of
theorem d_X12_placeIn_0 : gd cX12_placeIn 0 (.bipush 28) 2 2 := ⟨by decide +kernel, rfl⟩
theorem d_X12_placeIn_2 : gd cX12_placeIn 2 (.bipush 12) 2 4 := ⟨by decide +kernel, rfl⟩
theorem d_X12_placeIn_4 : gd cX12_placeIn 4 (.iload_n 1) 1 5 := ⟨by decide +kernel, rfl⟩
theorem d_X12_placeIn_5 : gd cX12_placeIn 5 .imul 1 6 := ⟨by decide +kernel, rfl⟩
theorem d_X12_placeIn_6 : gd cX12_placeIn 6 .iadd 1 7 := ⟨by decide +kernel, rfl⟩
theorem d_X12_placeIn_7 : gd cX12_placeIn 7 (.iload_n 2) 1 8 := ⟨by decide +kernel, rfl⟩
theorem d_X12_placeIn_8 : gd cX12_placeIn 8 .iadd 1 9 := ⟨by decide +kernel, rfl⟩
theorem d_X12_placeIn_9 : gd cX12_placeIn 9 .ireturn 1 10 := ⟨by decide +kernel, rfl⟩
def D_X12_placeIn (x1 : Int32) (x2 : Int32) (μ : gs_M) : Option (Int32 × gs_M) :=
  some (((28 : Int32) + ((12 : Int32) * x1)) + x2, μ)
section S_X12_placeIn
variable {p : Program} {l : Launch} {e : Env} {R : Room} {s : State} {m : MethodId} {args : Array Value} {below : List Frame} {meth : Method} {c : Code} {ad : Nat → Nat} {g : va_G} {tyc : Nat → ClassId}
set_option maxRecDepth 20000 in
theorem C_X12_placeIn  {x1 : Int32} {x2 : Int32} {μ : gs_M} {r : Int32} {μ2 : gs_M}  (hD : D_X12_placeIn x1 x2 μ = some (r, μ2)) : CALL yX12_placeIn cX12_placeIn 3 (some .int) 0 [.ref 78, .int x1, .int x2] μ (some (.int r)) μ2 := by
  unfold D_X12_placeIn at hD
  refine gs_enter mf_X12_placeIn (Nat.le_of_ble_eq_true rfl) (ls := [.ref 78, .int x1, .int x2]) rfl (fun p l e R s m args below meth c ad g tyc hK => ?_)
  have hK : KC p R s m args meth c ad g tyc RX12 cX12_placeIn 3 (some .int) 0 := hK
  refine r_bipush hK d_X12_placeIn_0 cb_28 ?_
  refine r_bipush hK d_X12_placeIn_2 cb_12 ?_
  refine r_iload_n hK d_X12_placeIn_4 rfl rfl ?_
  refine r_imul hK d_X12_placeIn_5 ?_
  refine r_iadd hK d_X12_placeIn_6 ?_
  refine r_iload_n hK d_X12_placeIn_7 rfl rfl ?_
  refine r_iadd hK d_X12_placeIn_8 ?_
  cases hD
  exact r_iret hK d_X12_placeIn_9
end S_X12_placeIn
theorem d_X12_units_0 : gd cX12_units 0 (.aload_n 0) 1 1 := ⟨by decide +kernel, rfl⟩
theorem d_X12_units_1 : gd cX12_units 1 (.getfield 71) 3 4 := ⟨by decide +kernel, rfl⟩
theorem d_X12_units_4 : gd cX12_units 4 (.aload_n 0) 1 5 := ⟨by decide +kernel, rfl⟩
theorem d_X12_units_5 : gd cX12_units 5 (.iload_n 1) 1 6 := ⟨by decide +kernel, rfl⟩
theorem d_X12_units_6 : gd cX12_units 6 (.iload_n 2) 1 7 := ⟨by decide +kernel, rfl⟩
theorem d_X12_units_7 : gd cX12_units 7 (.invokevirtual 299) 3 10 := ⟨by decide +kernel, rfl⟩
theorem d_X12_units_10 : gd cX12_units 10 .iaload 1 11 := ⟨by decide +kernel, rfl⟩
theorem d_X12_units_11 : gd cX12_units 11 .ireturn 1 12 := ⟨by decide +kernel, rfl⟩
def D_X12_units (x1 : Int32) (x2 : Int32) (μ : gs_M) : Option (Int32 × gs_M) :=
  bd (D_X12_placeIn x1 x2 μ) (fun v3 u2 => ck (inb v3 81) (some (gI u2 89 (Int32.toNatClampNeg v3), u2)))
section S_X12_units
variable {p : Program} {l : Launch} {e : Env} {R : Room} {s : State} {m : MethodId} {args : Array Value} {below : List Frame} {meth : Method} {c : Code} {ad : Nat → Nat} {g : va_G} {tyc : Nat → ClassId}
set_option maxRecDepth 20000 in
theorem C_X12_units  {x1 : Int32} {x2 : Int32} {μ : gs_M} {r : Int32} {μ2 : gs_M}  (hD : D_X12_units x1 x2 μ = some (r, μ2)) : CALL yX12_units cX12_units 3 (some .int) 1 [.ref 78, .int x1, .int x2] μ (some (.int r)) μ2 := by
  unfold D_X12_units at hD
  refine gs_enter mf_X12_units (Nat.le_of_ble_eq_true rfl) (ls := [.ref 78, .int x1, .int x2]) rfl (fun p l e R s m args below meth c ad g tyc hK => ?_)
  have hK : KC p R s m args meth c ad g tyc RX12 cX12_units 3 (some .int) 1 := hK
  refine r_aload_n hK d_X12_units_0 rfl rfl ?_
  refine r_getR hK d_X12_units_1 fl_RX12_71_11 rfl kd_78 ?_
  refine r_ref (b := 89) R0_78_30 ?_
  refine r_aload_n hK d_X12_units_4 rfl rfl ?_
  refine r_iload_n hK d_X12_units_5 rfl rfl ?_
  refine r_iload_n hK d_X12_units_6 rfl rfl ?_
  obtain ⟨v3, u2, e1, hD⟩ := bd_e hD
  refine r_callV (As := [.int x1, .int x2]) (st := [.ref 89]) (stk2 := [.int v3, .ref 89]) hK (C_X12_placeIn  e1) d_X12_units_7 mf_X12_placeIn ml_RX12_299 im_X12_placeIn rfl se_11_RX12_X12_placeIn kd_78 rfl (Nat.le_of_ble_eq_true rfl) (by decide) ⟨Nat.zero_le _, Nat.zero_le _⟩ rfl rfl ?_
  obtain ⟨h4, hD⟩ := ck_e hD
  refine r_iald hK d_X12_units_10 kd_89 ln_89 (inb_in h4) ?_
  cases hD
  exact r_iret hK d_X12_units_11
end S_X12_units
theorem d_X12_tallBy_0 : gd cX12_tallBy 0 (.iload_n 2) 1 1 := ⟨by decide +kernel, rfl⟩
theorem d_X12_tallBy_1 : gd cX12_tallBy 1 (.bipush 100) 2 3 := ⟨by decide +kernel, rfl⟩
theorem d_X12_tallBy_3 : gd cX12_tallBy 3 (.aload_n 0) 1 4 := ⟨by decide +kernel, rfl⟩
theorem d_X12_tallBy_4 : gd cX12_tallBy 4 (.iload_n 1) 1 5 := ⟨by decide +kernel, rfl⟩
theorem d_X12_tallBy_5 : gd cX12_tallBy 5 (.iconst 5) 1 6 := ⟨by decide +kernel, rfl⟩
theorem d_X12_tallBy_6 : gd cX12_tallBy 6 (.invokevirtual 302) 3 9 := ⟨by decide +kernel, rfl⟩
theorem d_X12_tallBy_9 : gd cX12_tallBy 9 .isub 1 10 := ⟨by decide +kernel, rfl⟩
theorem d_X12_tallBy_10 : gd cX12_tallBy 10 .imul 1 11 := ⟨by decide +kernel, rfl⟩
theorem d_X12_tallBy_11 : gd cX12_tallBy 11 (.bipush 10) 2 13 := ⟨by decide +kernel, rfl⟩
theorem d_X12_tallBy_13 : gd cX12_tallBy 13 .idiv 1 14 := ⟨by decide +kernel, rfl⟩
theorem d_X12_tallBy_14 : gd cX12_tallBy 14 .ireturn 1 15 := ⟨by decide +kernel, rfl⟩
def D_X12_tallBy (x1 : Int32) (x2 : Int32) (μ : gs_M) : Option (Int32 × gs_M) :=
  bd (D_X12_of x1 (5 : Int32) μ) (fun v3 u2 => some ((x2 * ((100 : Int32) - v3)) / (10 : Int32), u2))
section S_X12_tallBy
variable {p : Program} {l : Launch} {e : Env} {R : Room} {s : State} {m : MethodId} {args : Array Value} {below : List Frame} {meth : Method} {c : Code} {ad : Nat → Nat} {g : va_G} {tyc : Nat → ClassId}
set_option maxRecDepth 20000 in
theorem C_X12_tallBy  {x1 : Int32} {x2 : Int32} {μ : gs_M} {r : Int32} {μ2 : gs_M}  (hD : D_X12_tallBy x1 x2 μ = some (r, μ2)) : CALL yX12_tallBy cX12_tallBy 3 (some .int) 1 [.ref 78, .int x1, .int x2] μ (some (.int r)) μ2 := by
  unfold D_X12_tallBy at hD
  refine gs_enter mf_X12_tallBy (Nat.le_of_ble_eq_true rfl) (ls := [.ref 78, .int x1, .int x2]) rfl (fun p l e R s m args below meth c ad g tyc hK => ?_)
  have hK : KC p R s m args meth c ad g tyc RX12 cX12_tallBy 3 (some .int) 1 := hK
  refine r_iload_n hK d_X12_tallBy_0 rfl rfl ?_
  refine r_bipush hK d_X12_tallBy_1 cb_100 ?_
  refine r_aload_n hK d_X12_tallBy_3 rfl rfl ?_
  refine r_iload_n hK d_X12_tallBy_4 rfl rfl ?_
  refine r_iconst hK d_X12_tallBy_5 ci_5 ?_
  obtain ⟨v3, u2, e1, hD⟩ := bd_e hD
  refine r_callV (As := [.int x1, .int (5 : Int32)]) (st := [.int (100 : Int32), .int x2]) (stk2 := [.int v3, .int (100 : Int32), .int x2]) hK (C_X12_of  e1) d_X12_tallBy_6 mf_X12_of ml_RX12_302 im_X12_of rfl se_11_RX12_X12_of kd_78 rfl (Nat.le_of_ble_eq_true rfl) (by decide) ⟨Nat.zero_le _, Nat.zero_le _⟩ rfl rfl ?_
  refine r_isub hK d_X12_tallBy_9 ?_
  refine r_imul hK d_X12_tallBy_10 ?_
  refine r_bipush hK d_X12_tallBy_11 cb_10 ?_
  refine r_idiv hK d_X12_tallBy_13 (by decide) ?_
  cases hD
  exact r_iret hK d_X12_tallBy_14
end S_X12_tallBy
theorem d_X12_tall_0 : gd cX12_tall 0 (.aload_n 0) 1 1 := ⟨by decide +kernel, rfl⟩
theorem d_X12_tall_1 : gd cX12_tall 1 (.iload_n 1) 1 2 := ⟨by decide +kernel, rfl⟩
theorem d_X12_tall_2 : gd cX12_tall 2 (.aload_n 0) 1 3 := ⟨by decide +kernel, rfl⟩
theorem d_X12_tall_3 : gd cX12_tall 3 (.iload_n 1) 1 4 := ⟨by decide +kernel, rfl⟩
theorem d_X12_tall_4 : gd cX12_tall 4 (.iload_n 2) 1 5 := ⟨by decide +kernel, rfl⟩
theorem d_X12_tall_5 : gd cX12_tall 5 (.invokevirtual 305) 3 8 := ⟨by decide +kernel, rfl⟩
theorem d_X12_tall_8 : gd cX12_tall 8 (.invokevirtual 308) 3 11 := ⟨by decide +kernel, rfl⟩
theorem d_X12_tall_11 : gd cX12_tall 11 .ireturn 1 12 := ⟨by decide +kernel, rfl⟩
def D_X12_tall (x1 : Int32) (x2 : Int32) (μ : gs_M) : Option (Int32 × gs_M) :=
  bd (D_X12_units x1 x2 μ) (fun v3 u2 => bd (D_X12_tallBy x1 v3 u2) (fun v6 u5 => some (v6, u5)))
section S_X12_tall
variable {p : Program} {l : Launch} {e : Env} {R : Room} {s : State} {m : MethodId} {args : Array Value} {below : List Frame} {meth : Method} {c : Code} {ad : Nat → Nat} {g : va_G} {tyc : Nat → ClassId}
set_option maxRecDepth 20000 in
theorem C_X12_tall  {x1 : Int32} {x2 : Int32} {μ : gs_M} {r : Int32} {μ2 : gs_M}  (hD : D_X12_tall x1 x2 μ = some (r, μ2)) : CALL yX12_tall cX12_tall 3 (some .int) 2 [.ref 78, .int x1, .int x2] μ (some (.int r)) μ2 := by
  unfold D_X12_tall at hD
  refine gs_enter mf_X12_tall (Nat.le_of_ble_eq_true rfl) (ls := [.ref 78, .int x1, .int x2]) rfl (fun p l e R s m args below meth c ad g tyc hK => ?_)
  have hK : KC p R s m args meth c ad g tyc RX12 cX12_tall 3 (some .int) 2 := hK
  refine r_aload_n hK d_X12_tall_0 rfl rfl ?_
  refine r_iload_n hK d_X12_tall_1 rfl rfl ?_
  refine r_aload_n hK d_X12_tall_2 rfl rfl ?_
  refine r_iload_n hK d_X12_tall_3 rfl rfl ?_
  refine r_iload_n hK d_X12_tall_4 rfl rfl ?_
  obtain ⟨v3, u2, e1, hD⟩ := bd_e hD
  refine r_callV (As := [.int x1, .int x2]) (st := [.int x1, .ref 78]) (stk2 := [.int v3, .int x1, .ref 78]) hK (C_X12_units  e1) d_X12_tall_5 mf_X12_units ml_RX12_305 im_X12_units rfl se_11_RX12_X12_units kd_78 rfl (Nat.le_of_ble_eq_true rfl) (by decide) ⟨Nat.zero_le _, Nat.zero_le _⟩ rfl rfl ?_
  obtain ⟨v6, u5, e4, hD⟩ := bd_e hD
  refine r_callV (As := [.int x1, .int v3]) (st := []) (stk2 := [.int v6]) hK (C_X12_tallBy  e4) d_X12_tall_8 mf_X12_tallBy ml_RX12_308 im_X12_tallBy rfl se_11_RX12_X12_tallBy kd_78 rfl (Nat.le_of_ble_eq_true rfl) (by decide) ⟨Nat.zero_le _, Nat.zero_le _⟩ rfl rfl ?_
  cases hD
  exact r_iret hK d_X12_tall_11
end S_X12_tall
theorem d_X12_isSoup_0 : gd cX12_isSoup 0 (.aload_n 0) 1 1 := ⟨by decide +kernel, rfl⟩
theorem d_X12_isSoup_1 : gd cX12_isSoup 1 (.iload_n 1) 1 2 := ⟨by decide +kernel, rfl⟩
theorem d_X12_isSoup_2 : gd cX12_isSoup 2 (.bipush 6) 2 4 := ⟨by decide +kernel, rfl⟩
theorem d_X12_isSoup_4 : gd cX12_isSoup 4 (.invokevirtual 302) 3 7 := ⟨by decide +kernel, rfl⟩
theorem d_X12_isSoup_7 : gd cX12_isSoup 7 (.aload_n 0) 1 8 := ⟨by decide +kernel, rfl⟩
theorem d_X12_isSoup_8 : gd cX12_isSoup 8 (.aload_n 0) 1 9 := ⟨by decide +kernel, rfl⟩
theorem d_X12_isSoup_9 : gd cX12_isSoup 9 (.iload_n 1) 1 10 := ⟨by decide +kernel, rfl⟩
theorem d_X12_isSoup_10 : gd cX12_isSoup 10 (.iconst 2) 1 11 := ⟨by decide +kernel, rfl⟩
theorem d_X12_isSoup_11 : gd cX12_isSoup 11 (.invokevirtual 302) 3 14 := ⟨by decide +kernel, rfl⟩
theorem d_X12_isSoup_14 : gd cX12_isSoup 14 (.iconst 2) 1 15 := ⟨by decide +kernel, rfl⟩
theorem d_X12_isSoup_15 : gd cX12_isSoup 15 (.invokevirtual 280) 3 18 := ⟨by decide +kernel, rfl⟩
theorem d_X12_isSoup_18 : gd cX12_isSoup 18 .imul 1 19 := ⟨by decide +kernel, rfl⟩
theorem d_X12_isSoup_19 : gd cX12_isSoup 19 (.aload_n 0) 1 20 := ⟨by decide +kernel, rfl⟩
theorem d_X12_isSoup_20 : gd cX12_isSoup 20 (.aload_n 0) 1 21 := ⟨by decide +kernel, rfl⟩
theorem d_X12_isSoup_21 : gd cX12_isSoup 21 (.iload_n 1) 1 22 := ⟨by decide +kernel, rfl⟩
theorem d_X12_isSoup_22 : gd cX12_isSoup 22 (.iconst 2) 1 23 := ⟨by decide +kernel, rfl⟩
theorem d_X12_isSoup_23 : gd cX12_isSoup 23 (.invokevirtual 302) 3 26 := ⟨by decide +kernel, rfl⟩
theorem d_X12_isSoup_26 : gd cX12_isSoup 26 (.iconst 3) 1 27 := ⟨by decide +kernel, rfl⟩
theorem d_X12_isSoup_27 : gd cX12_isSoup 27 (.invokevirtual 280) 3 30 := ⟨by decide +kernel, rfl⟩
theorem d_X12_isSoup_30 : gd cX12_isSoup 30 (.if_icmp .le 7) 3 33 := ⟨by decide +kernel, rfl⟩
theorem d_X12_isSoup_33 : gd cX12_isSoup 33 (.iconst 1) 1 34 := ⟨by decide +kernel, rfl⟩
theorem d_X12_isSoup_34 : gd cX12_isSoup 34 (.goto 4) 3 37 := ⟨by decide +kernel, rfl⟩
theorem d_X12_isSoup_37 : gd cX12_isSoup 37 (.iconst 0) 1 38 := ⟨by decide +kernel, rfl⟩
theorem d_X12_isSoup_38 : gd cX12_isSoup 38 .ireturn 1 39 := ⟨by decide +kernel, rfl⟩
def D_X12_isSoup (x1 : Int32) (μ : gs_M) : Option (Int32 × gs_M) :=
  bd (D_X12_of x1 (6 : Int32) μ) (fun v3 u2 => bd (D_X12_of x1 (2 : Int32) u2) (fun v6 u5 => bd (D_X12_partOf v6 (2 : Int32) u5) (fun v9 u8 => bd (D_X12_of x1 (2 : Int32) u8) (fun v12 u11 => bd (D_X12_partOf v12 (3 : Int32) u11) (fun v15 u14 => if (v3 * v9) ≤ v15 then (some ((0 : Int32), u14)) else (some ((1 : Int32), u14)))))))
section S_X12_isSoup
variable {p : Program} {l : Launch} {e : Env} {R : Room} {s : State} {m : MethodId} {args : Array Value} {below : List Frame} {meth : Method} {c : Code} {ad : Nat → Nat} {g : va_G} {tyc : Nat → ClassId}
set_option maxRecDepth 20000 in
theorem C_X12_isSoup  {x1 : Int32} {μ : gs_M} {r : Int32} {μ2 : gs_M}  (hD : D_X12_isSoup x1 μ = some (r, μ2)) : CALL yX12_isSoup cX12_isSoup 2 (some .boolean) 1 [.ref 78, .int x1] μ (some (.int r)) μ2 := by
  unfold D_X12_isSoup at hD
  refine gs_enter mf_X12_isSoup (Nat.le_of_ble_eq_true rfl) (ls := [.ref 78, .int x1]) rfl (fun p l e R s m args below meth c ad g tyc hK => ?_)
  have hK : KC p R s m args meth c ad g tyc RX12 cX12_isSoup 2 (some .boolean) 1 := hK
  refine r_aload_n hK d_X12_isSoup_0 rfl rfl ?_
  refine r_iload_n hK d_X12_isSoup_1 rfl rfl ?_
  refine r_bipush hK d_X12_isSoup_2 cb_6 ?_
  obtain ⟨v3, u2, e1, hD⟩ := bd_e hD
  refine r_callV (As := [.int x1, .int (6 : Int32)]) (st := []) (stk2 := [.int v3]) hK (C_X12_of  e1) d_X12_isSoup_4 mf_X12_of ml_RX12_302 im_X12_of rfl se_11_RX12_X12_of kd_78 rfl (Nat.le_of_ble_eq_true rfl) (by decide) ⟨Nat.zero_le _, Nat.zero_le _⟩ rfl rfl ?_
  refine r_aload_n hK d_X12_isSoup_7 rfl rfl ?_
  refine r_aload_n hK d_X12_isSoup_8 rfl rfl ?_
  refine r_iload_n hK d_X12_isSoup_9 rfl rfl ?_
  refine r_iconst hK d_X12_isSoup_10 ci_2 ?_
  obtain ⟨v6, u5, e4, hD⟩ := bd_e hD
  refine r_callV (As := [.int x1, .int (2 : Int32)]) (st := [.ref 78, .int v3]) (stk2 := [.int v6, .ref 78, .int v3]) hK (C_X12_of  e4) d_X12_isSoup_11 mf_X12_of ml_RX12_302 im_X12_of rfl se_11_RX12_X12_of kd_78 rfl (Nat.le_of_ble_eq_true rfl) (by decide) ⟨Nat.zero_le _, Nat.zero_le _⟩ rfl rfl ?_
  refine r_iconst hK d_X12_isSoup_14 ci_2 ?_
  obtain ⟨v9, u8, e7, hD⟩ := bd_e hD
  refine r_callV (As := [.int v6, .int (2 : Int32)]) (st := [.int v3]) (stk2 := [.int v9, .int v3]) hK (C_X12_partOf  e7) d_X12_isSoup_15 mf_X12_partOf ml_RX12_280 im_X12_partOf rfl se_11_RX12_X12_partOf kd_78 rfl (Nat.le_of_ble_eq_true rfl) (by decide) ⟨Nat.zero_le _, Nat.zero_le _⟩ rfl rfl ?_
  refine r_imul hK d_X12_isSoup_18 ?_
  refine r_aload_n hK d_X12_isSoup_19 rfl rfl ?_
  refine r_aload_n hK d_X12_isSoup_20 rfl rfl ?_
  refine r_iload_n hK d_X12_isSoup_21 rfl rfl ?_
  refine r_iconst hK d_X12_isSoup_22 ci_2 ?_
  obtain ⟨v12, u11, e10, hD⟩ := bd_e hD
  refine r_callV (As := [.int x1, .int (2 : Int32)]) (st := [.ref 78, .int (v3 * v9)]) (stk2 := [.int v12, .ref 78, .int (v3 * v9)]) hK (C_X12_of  e10) d_X12_isSoup_23 mf_X12_of ml_RX12_302 im_X12_of rfl se_11_RX12_X12_of kd_78 rfl (Nat.le_of_ble_eq_true rfl) (by decide) ⟨Nat.zero_le _, Nat.zero_le _⟩ rfl rfl ?_
  refine r_iconst hK d_X12_isSoup_26 ci_3 ?_
  obtain ⟨v15, u14, e13, hD⟩ := bd_e hD
  refine r_callV (As := [.int v12, .int (3 : Int32)]) (st := [.int (v3 * v9)]) (stk2 := [.int v15, .int (v3 * v9)]) hK (C_X12_partOf  e13) d_X12_isSoup_27 mf_X12_partOf ml_RX12_280 im_X12_partOf rfl se_11_RX12_X12_partOf kd_78 rfl (Nat.le_of_ble_eq_true rfl) (by decide) ⟨Nat.zero_le _, Nat.zero_le _⟩ rfl rfl ?_
  refine r_icmp_le (tgt := 37) hK d_X12_isSoup_30 (by decide) (fun h16 => ?_) (fun h16 => ?_)
  · have hD := if_t hD h16
    refine r_iconst hK d_X12_isSoup_37 ci_0 ?_
    cases hD
    exact r_zret hK (Or.inl rfl) d_X12_isSoup_38
  · have hD := if_f hD h16
    refine r_iconst hK d_X12_isSoup_33 ci_1 ?_
    refine r_goto (tgt := 38) hK d_X12_isSoup_34 (by decide) ?_
    cases hD
    exact r_zret hK (Or.inr rfl) d_X12_isSoup_38
end S_X12_isSoup
theorem d_X12_fast_0 : gd cX12_fast 0 (.aload_n 0) 1 1 := ⟨by decide +kernel, rfl⟩
theorem d_X12_fast_1 : gd cX12_fast 1 (.iload_n 1) 1 2 := ⟨by decide +kernel, rfl⟩
theorem d_X12_fast_2 : gd cX12_fast 2 (.invokevirtual 311) 3 5 := ⟨by decide +kernel, rfl⟩
theorem d_X12_fast_5 : gd cX12_fast 5 (.ifCond .eq 7) 3 8 := ⟨by decide +kernel, rfl⟩
theorem d_X12_fast_8 : gd cX12_fast 8 (.iconst 0) 1 9 := ⟨by decide +kernel, rfl⟩
theorem d_X12_fast_9 : gd cX12_fast 9 (.goto 26) 3 12 := ⟨by decide +kernel, rfl⟩
theorem d_X12_fast_12 : gd cX12_fast 12 (.bipush 10) 2 14 := ⟨by decide +kernel, rfl⟩
theorem d_X12_fast_14 : gd cX12_fast 14 (.aload_n 0) 1 15 := ⟨by decide +kernel, rfl⟩
theorem d_X12_fast_15 : gd cX12_fast 15 (.aload_n 0) 1 16 := ⟨by decide +kernel, rfl⟩
theorem d_X12_fast_16 : gd cX12_fast 16 (.iload_n 1) 1 17 := ⟨by decide +kernel, rfl⟩
theorem d_X12_fast_17 : gd cX12_fast 17 (.iconst 2) 1 18 := ⟨by decide +kernel, rfl⟩
theorem d_X12_fast_18 : gd cX12_fast 18 (.invokevirtual 302) 3 21 := ⟨by decide +kernel, rfl⟩
theorem d_X12_fast_21 : gd cX12_fast 21 (.iconst 0) 1 22 := ⟨by decide +kernel, rfl⟩
theorem d_X12_fast_22 : gd cX12_fast 22 (.invokevirtual 280) 3 25 := ⟨by decide +kernel, rfl⟩
theorem d_X12_fast_25 : gd cX12_fast 25 (.iconst 3) 1 26 := ⟨by decide +kernel, rfl⟩
theorem d_X12_fast_26 : gd cX12_fast 26 (.aload_n 0) 1 27 := ⟨by decide +kernel, rfl⟩
theorem d_X12_fast_27 : gd cX12_fast 27 (.iload_n 1) 1 28 := ⟨by decide +kernel, rfl⟩
theorem d_X12_fast_28 : gd cX12_fast 28 (.iconst 4) 1 29 := ⟨by decide +kernel, rfl⟩
theorem d_X12_fast_29 : gd cX12_fast 29 (.invokevirtual 302) 3 32 := ⟨by decide +kernel, rfl⟩
theorem d_X12_fast_32 : gd cX12_fast 32 .imul 1 33 := ⟨by decide +kernel, rfl⟩
theorem d_X12_fast_33 : gd cX12_fast 33 .iadd 1 34 := ⟨by decide +kernel, rfl⟩
theorem d_X12_fast_34 : gd cX12_fast 34 .imul 1 35 := ⟨by decide +kernel, rfl⟩
theorem d_X12_fast_35 : gd cX12_fast 35 .ireturn 1 36 := ⟨by decide +kernel, rfl⟩
def D_X12_fast (x1 : Int32) (μ : gs_M) : Option (Int32 × gs_M) :=
  bd (D_X12_isSoup x1 μ) (fun v3 u2 => if v3 = 0 then (bd (D_X12_of x1 (2 : Int32) u2) (fun v7 u6 => bd (D_X12_partOf v7 (0 : Int32) u6) (fun v10 u9 => bd (D_X12_of x1 (4 : Int32) u9) (fun v13 u12 => some ((10 : Int32) * (v10 + ((3 : Int32) * v13)), u12))))) else (some ((0 : Int32), u2)))
section S_X12_fast
variable {p : Program} {l : Launch} {e : Env} {R : Room} {s : State} {m : MethodId} {args : Array Value} {below : List Frame} {meth : Method} {c : Code} {ad : Nat → Nat} {g : va_G} {tyc : Nat → ClassId}
set_option maxRecDepth 20000 in
theorem C_X12_fast  {x1 : Int32} {μ : gs_M} {r : Int32} {μ2 : gs_M}  (hD : D_X12_fast x1 μ = some (r, μ2)) : CALL yX12_fast cX12_fast 2 (some .int) 2 [.ref 78, .int x1] μ (some (.int r)) μ2 := by
  unfold D_X12_fast at hD
  refine gs_enter mf_X12_fast (Nat.le_of_ble_eq_true rfl) (ls := [.ref 78, .int x1]) rfl (fun p l e R s m args below meth c ad g tyc hK => ?_)
  have hK : KC p R s m args meth c ad g tyc RX12 cX12_fast 2 (some .int) 2 := hK
  refine r_aload_n hK d_X12_fast_0 rfl rfl ?_
  refine r_iload_n hK d_X12_fast_1 rfl rfl ?_
  obtain ⟨v3, u2, e1, hD⟩ := bd_e hD
  refine r_callV (As := [.int x1]) (st := []) (stk2 := [.int v3]) hK (C_X12_isSoup  e1) d_X12_fast_2 mf_X12_isSoup ml_RX12_311 im_X12_isSoup rfl se_11_RX12_X12_isSoup kd_78 rfl (Nat.le_of_ble_eq_true rfl) (by decide) ⟨Nat.zero_le _, Nat.zero_le _⟩ rfl rfl ?_
  refine r_if_eq (tgt := 12) hK d_X12_fast_5 (by decide) (fun h4 => ?_) (fun h4 => ?_)
  · have hD := if_t hD h4
    refine r_bipush hK d_X12_fast_12 cb_10 ?_
    refine r_aload_n hK d_X12_fast_14 rfl rfl ?_
    refine r_aload_n hK d_X12_fast_15 rfl rfl ?_
    refine r_iload_n hK d_X12_fast_16 rfl rfl ?_
    refine r_iconst hK d_X12_fast_17 ci_2 ?_
    obtain ⟨v7, u6, e5, hD⟩ := bd_e hD
    refine r_callV (As := [.int x1, .int (2 : Int32)]) (st := [.ref 78, .int (10 : Int32)]) (stk2 := [.int v7, .ref 78, .int (10 : Int32)]) hK (C_X12_of  e5) d_X12_fast_18 mf_X12_of ml_RX12_302 im_X12_of rfl se_11_RX12_X12_of kd_78 rfl (Nat.le_of_ble_eq_true rfl) (by decide) ⟨Nat.zero_le _, Nat.zero_le _⟩ rfl rfl ?_
    refine r_iconst hK d_X12_fast_21 ci_0 ?_
    obtain ⟨v10, u9, e8, hD⟩ := bd_e hD
    refine r_callV (As := [.int v7, .int (0 : Int32)]) (st := [.int (10 : Int32)]) (stk2 := [.int v10, .int (10 : Int32)]) hK (C_X12_partOf  e8) d_X12_fast_22 mf_X12_partOf ml_RX12_280 im_X12_partOf rfl se_11_RX12_X12_partOf kd_78 rfl (Nat.le_of_ble_eq_true rfl) (by decide) ⟨Nat.zero_le _, Nat.zero_le _⟩ rfl rfl ?_
    refine r_iconst hK d_X12_fast_25 ci_3 ?_
    refine r_aload_n hK d_X12_fast_26 rfl rfl ?_
    refine r_iload_n hK d_X12_fast_27 rfl rfl ?_
    refine r_iconst hK d_X12_fast_28 ci_4 ?_
    obtain ⟨v13, u12, e11, hD⟩ := bd_e hD
    refine r_callV (As := [.int x1, .int (4 : Int32)]) (st := [.int (3 : Int32), .int v10, .int (10 : Int32)]) (stk2 := [.int v13, .int (3 : Int32), .int v10, .int (10 : Int32)]) hK (C_X12_of  e11) d_X12_fast_29 mf_X12_of ml_RX12_302 im_X12_of rfl se_11_RX12_X12_of kd_78 rfl (Nat.le_of_ble_eq_true rfl) (by decide) ⟨Nat.zero_le _, Nat.zero_le _⟩ rfl rfl ?_
    refine r_imul hK d_X12_fast_32 ?_
    refine r_iadd hK d_X12_fast_33 ?_
    refine r_imul hK d_X12_fast_34 ?_
    cases hD
    exact r_iret hK d_X12_fast_35
  · have hD := if_f hD h4
    refine r_iconst hK d_X12_fast_8 ci_0 ?_
    refine r_goto (tgt := 35) hK d_X12_fast_9 (by decide) ?_
    cases hD
    exact r_iret hK d_X12_fast_35
end S_X12_fast
