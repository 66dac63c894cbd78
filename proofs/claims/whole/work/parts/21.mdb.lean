theorem mm_RX12_314 : Cond.methodLink RX12 314 Lib.Math.min.name ∈ gs_tbl := gs_t 1560 (by decide +kernel) (by decide +kernel)
theorem mm_RX12_316 : Cond.methodLink RX12 316 Lib.Math.max.name ∈ gs_tbl := gs_t 1561 (by decide +kernel) (by decide +kernel)
theorem mf_X12_may : gs_MF yX12_may cX12_may 8 (some .int) 4 := ⟨gs_t 1585 (by decide +kernel) (by decide +kernel), gs_t 13 (by decide +kernel) (by decide +kernel), by decide, by decide, by decide +kernel, by decide, by decide⟩
theorem se_11_RX12_X12_may : Cond.selects RX12 yX12_may yX12_may ∈ gs_tbl := gs_s 82 (by decide +kernel) (by decide +kernel)
theorem ml_RX12_318 : Cond.methodLink RX12 318 yX12_may ∈ gs_tbl := gs_t 1582 (by decide +kernel) (by decide +kernel)
theorem im_X12_may : Cond.instanceMethod yX12_may ∈ gs_tbl := gs_t 1584 (by decide +kernel) (by decide +kernel)
theorem fl_RX12_325_11 : gs_FL RX12 325 "GrainShiftModel" 11 38 (RX12, TX12, 52) := ⟨rfl, by decide, gs_t 1162 (by decide +kernel) (by decide +kernel), Or.inl rfl⟩
theorem fl_RX12_322_11 : gs_FL RX12 322 "GrainShiftModel" 11 37 (RX12, TX12, 52) := ⟨rfl, by decide, gs_t 1161 (by decide +kernel) (by decide +kernel), Or.inl rfl⟩
theorem mf_X12_moves : gs_MF yX12_moves cX12_moves 6 (some .int) 4 := ⟨gs_t 1581 (by decide +kernel) (by decide +kernel), gs_t 13 (by decide +kernel) (by decide +kernel), by decide, by decide, by decide +kernel, by decide, by decide⟩
theorem se_11_RX12_X12_tall : Cond.selects RX12 yX12_tall yX12_tall ∈ gs_tbl := gs_s 77 (by decide +kernel) (by decide +kernel)
theorem ml_RX12_328 : Cond.methodLink RX12 328 yX12_tall ∈ gs_tbl := gs_t 1562 (by decide +kernel) (by decide +kernel)
theorem im_X12_tall : Cond.instanceMethod yX12_tall ∈ gs_tbl := gs_t 1564 (by decide +kernel) (by decide +kernel)
theorem se_11_RX12_X12_fast : Cond.selects RX12 yX12_fast yX12_fast ∈ gs_tbl := gs_s 79 (by decide +kernel) (by decide +kernel)
theorem ml_RX12_331 : Cond.methodLink RX12 331 yX12_fast ∈ gs_tbl := gs_t 1570 (by decide +kernel) (by decide +kernel)
theorem im_X12_fast : Cond.instanceMethod yX12_fast ∈ gs_tbl := gs_t 1572 (by decide +kernel) (by decide +kernel)
theorem se_11_RX12_X12_moves : Cond.selects RX12 yX12_moves yX12_moves ∈ gs_tbl := gs_s 81 (by decide +kernel) (by decide +kernel)
theorem ml_RX12_334 : Cond.methodLink RX12 334 yX12_moves ∈ gs_tbl := gs_t 1578 (by decide +kernel) (by decide +kernel)
theorem im_X12_moves : Cond.instanceMethod yX12_moves ∈ gs_tbl := gs_t 1580 (by decide +kernel) (by decide +kernel)
theorem mf_X12_rests : gs_MF yX12_rests cX12_rests 10 none 2 := ⟨gs_t 1559 (by decide +kernel) (by decide +kernel), gs_t 13 (by decide +kernel) (by decide +kernel), by decide, by decide, by decide +kernel, by decide, by decide⟩
theorem mf_X12_momentOf : gs_MF yX12_momentOf cX12_momentOf 4 (some .int) 1 := ⟨gs_t 1609 (by decide +kernel) (by decide +kernel), gs_t 13 (by decide +kernel) (by decide +kernel), by decide, by decide, by decide +kernel, by decide, by decide⟩
theorem se_11_RX12_X12_now : Cond.selects RX12 yX12_now yX12_now ∈ gs_tbl := gs_s 70 (by decide +kernel) (by decide +kernel)
theorem ml_RX12_337 : Cond.methodLink RX12 337 yX12_now ∈ gs_tbl := gs_t 1532 (by decide +kernel) (by decide +kernel)
theorem im_X12_now : Cond.instanceMethod yX12_now ∈ gs_tbl := gs_t 1534 (by decide +kernel) (by decide +kernel)
theorem se_11_RX12_X12_momentOf : Cond.selects RX12 yX12_momentOf yX12_momentOf ∈ gs_tbl := gs_s 87 (by decide +kernel) (by decide +kernel)
theorem ml_RX12_340 : Cond.methodLink RX12 340 yX12_momentOf ∈ gs_tbl := gs_t 1606 (by decide +kernel) (by decide +kernel)
theorem im_X12_momentOf : Cond.instanceMethod yX12_momentOf ∈ gs_tbl := gs_t 1608 (by decide +kernel) (by decide +kernel)
theorem mf_X12_moments : gs_MF yX12_moments cX12_moments 3 (some .int) 0 := ⟨gs_t 1605 (by decide +kernel) (by decide +kernel), gs_t 13 (by decide +kernel) (by decide +kernel), by decide, by decide, by decide +kernel, by decide, by decide⟩
theorem se_11_RX12_X12_moments : Cond.selects RX12 yX12_moments yX12_moments ∈ gs_tbl := gs_s 86 (by decide +kernel) (by decide +kernel)
theorem ml_RX12_343 : Cond.methodLink RX12 343 yX12_moments ∈ gs_tbl := gs_t 1602 (by decide +kernel) (by decide +kernel)
theorem im_X12_moments : Cond.instanceMethod yX12_moments ∈ gs_tbl := gs_t 1604 (by decide +kernel) (by decide +kernel)
theorem mf_X12_lean : gs_MF yX12_lean cX12_lean 1 (some .int) 0 := ⟨gs_t 1601 (by decide +kernel) (by decide +kernel), gs_t 13 (by decide +kernel) (by decide +kernel), by decide, by decide, by decide +kernel, by decide, by decide⟩
theorem mf_X12_canLoad : gs_MF yX12_canLoad cX12_canLoad 4 (some .boolean) 2 := ⟨gs_t 1527 (by decide +kernel) (by decide +kernel), gs_t 13 (by decide +kernel) (by decide +kernel), by decide, by decide, by decide +kernel, by decide, by decide⟩
theorem mf_X12_nearest : gs_MF yX12_nearest cX12_nearest 6 (some .int) 2 := ⟨gs_t 1547 (by decide +kernel) (by decide +kernel), gs_t 13 (by decide +kernel) (by decide +kernel), by decide, by decide, by decide +kernel, by decide, by decide⟩
theorem se_11_RX12_X12_rests : Cond.selects RX12 yX12_rests yX12_rests ∈ gs_tbl := gs_s 76 (by decide +kernel) (by decide +kernel)
theorem ml_RX12_349 : Cond.methodLink RX12 349 yX12_rests ∈ gs_tbl := gs_t 1556 (by decide +kernel) (by decide +kernel)
theorem im_X12_rests : Cond.instanceMethod yX12_rests ∈ gs_tbl := gs_t 1558 (by decide +kernel) (by decide +kernel)
theorem se_11_RX12_X12_nearest : Cond.selects RX12 yX12_nearest yX12_nearest ∈ gs_tbl := gs_s 73 (by decide +kernel) (by decide +kernel)
theorem ml_RX12_346 : Cond.methodLink RX12 346 yX12_nearest ∈ gs_tbl := gs_t 1544 (by decide +kernel) (by decide +kernel)
theorem im_X12_nearest : Cond.instanceMethod yX12_nearest ∈ gs_tbl := gs_t 1546 (by decide +kernel) (by decide +kernel)
theorem mf_X12_pours : gs_MF yX12_pours cX12_pours 7 none 3 := ⟨gs_t 1539 (by decide +kernel) (by decide +kernel), gs_t 13 (by decide +kernel) (by decide +kernel), by decide, by decide, by decide +kernel, by decide, by decide⟩
theorem fl_RX12_352_11 : gs_FL RX12 352 "GrainShiftModel" 11 33 (RX12, TX12, 52) := ⟨rfl, by decide, gs_t 1157 (by decide +kernel) (by decide +kernel), Or.inl rfl⟩
theorem se_11_RX12_X12_pours : Cond.selects RX12 yX12_pours yX12_pours ∈ gs_tbl := gs_s 71 (by decide +kernel) (by decide +kernel)
theorem ml_RX12_356 : Cond.methodLink RX12 356 yX12_pours ∈ gs_tbl := gs_t 1536 (by decide +kernel) (by decide +kernel)
theorem im_X12_pours : Cond.instanceMethod yX12_pours ∈ gs_tbl := gs_t 1538 (by decide +kernel) (by decide +kernel)
theorem mf_X12_loads : gs_MF yX12_loads cX12_loads 9 none 6 := ⟨gs_t 1531 (by decide +kernel) (by decide +kernel), gs_t 13 (by decide +kernel) (by decide +kernel), by decide, by decide, by decide +kernel, by decide, by decide⟩
theorem se_11_RX12_X12_canLoad : Cond.selects RX12 yX12_canLoad yX12_canLoad ∈ gs_tbl := gs_s 68 (by decide +kernel) (by decide +kernel)
theorem ml_RX12_360 : Cond.methodLink RX12 360 yX12_canLoad ∈ gs_tbl := gs_t 1524 (by decide +kernel) (by decide +kernel)
theorem im_X12_canLoad : Cond.instanceMethod yX12_canLoad ∈ gs_tbl := gs_t 1526 (by decide +kernel) (by decide +kernel)
theorem se_11_RX12_X12_loads : Cond.selects RX12 yX12_loads yX12_loads ∈ gs_tbl := gs_s 69 (by decide +kernel) (by decide +kernel)
theorem ml_RX12_363 : Cond.methodLink RX12 363 yX12_loads ∈ gs_tbl := gs_t 1528 (by decide +kernel) (by decide +kernel)
theorem im_X12_loads : Cond.instanceMethod yX12_loads ∈ gs_tbl := gs_t 1530 (by decide +kernel) (by decide +kernel)
theorem mf_X12_load : gs_MF yX12_load cX12_load 5 (some .boolean) 3 := ⟨gs_t 1523 (by decide +kernel) (by decide +kernel), gs_t 13 (by decide +kernel) (by decide +kernel), by decide, by decide, by decide +kernel, by decide, by decide⟩
theorem mf_X12_isAfloat : gs_MF yX12_isAfloat cX12_isAfloat 1 (some .boolean) 0 := ⟨gs_t 1593 (by decide +kernel) (by decide +kernel), gs_t 13 (by decide +kernel) (by decide +kernel), by decide, by decide, by decide +kernel, by decide, by decide⟩
theorem se_11_RX12_X12_lean : Cond.selects RX12 yX12_lean yX12_lean ∈ gs_tbl := gs_s 85 (by decide +kernel) (by decide +kernel)
theorem ml_RX12_367 : Cond.methodLink RX12 367 yX12_lean ∈ gs_tbl := gs_t 1598 (by decide +kernel) (by decide +kernel)
theorem im_X12_lean : Cond.instanceMethod yX12_lean ∈ gs_tbl := gs_t 1600 (by decide +kernel) (by decide +kernel)
theorem mm_RX12_370 : Cond.methodLink RX12 370 Lib.Math.abs.name ∈ gs_tbl := gs_t 1610 (by decide +kernel) (by decide +kernel)
theorem mf_X12_rolls : gs_MF yX12_rolls cX12_rolls 5 none 1 := ⟨gs_t 1597 (by decide +kernel) (by decide +kernel), gs_t 13 (by decide +kernel) (by decide +kernel), by decide, by decide, by decide +kernel, by decide, by decide⟩
theorem se_11_RX12_X12_isAfloat : Cond.selects RX12 yX12_isAfloat yX12_isAfloat ∈ gs_tbl := gs_s 83 (by decide +kernel) (by decide +kernel)
theorem ml_RX12_373 : Cond.methodLink RX12 373 yX12_isAfloat ∈ gs_tbl := gs_t 1590 (by decide +kernel) (by decide +kernel)
theorem im_X12_isAfloat : Cond.instanceMethod yX12_isAfloat ∈ gs_tbl := gs_t 1592 (by decide +kernel) (by decide +kernel)
theorem se_11_RX12_X12_rolls : Cond.selects RX12 yX12_rolls yX12_rolls ∈ gs_tbl := gs_s 84 (by decide +kernel) (by decide +kernel)
theorem ml_RX12_376 : Cond.methodLink RX12 376 yX12_rolls ∈ gs_tbl := gs_t 1594 (by decide +kernel) (by decide +kernel)
theorem im_X12_rolls : Cond.instanceMethod yX12_rolls ∈ gs_tbl := gs_t 1596 (by decide +kernel) (by decide +kernel)
theorem mf_X12_roll : gs_MF yX12_roll cX12_roll 2 (some .int) 1 := ⟨gs_t 1589 (by decide +kernel) (by decide +kernel), gs_t 13 (by decide +kernel) (by decide +kernel), by decide, by decide, by decide +kernel, by decide, by decide⟩
theorem kl_RX12_379 : Cond.constantLong RX12 379 (6364136223846793005) ∈ gs_tbl := gs_t 1623 (by decide +kernel) (by decide +kernel)
theorem kl_RX12_381 : Cond.constantLong RX12 381 (1442695040888963407) ∈ gs_tbl := gs_t 1624 (by decide +kernel) (by decide +kernel)
theorem kl_RX12_383 : Cond.constantLong RX12 383 (6) ∈ gs_tbl := gs_t 1625 (by decide +kernel) (by decide +kernel)
theorem mf_X12_draw : gs_MF yX12_draw cX12_draw 1 (some .int) 0 := ⟨gs_t 1622 (by decide +kernel) (by decide +kernel), gs_t 13 (by decide +kernel) (by decide +kernel), by decide, by decide, by decide +kernel, by decide, by decide⟩
theorem se_11_RX12_X12_draw : Cond.selects RX12 yX12_draw yX12_draw ∈ gs_tbl := gs_s 89 (by decide +kernel) (by decide +kernel)
theorem ml_RX12_385 : Cond.methodLink RX12 385 yX12_draw ∈ gs_tbl := gs_t 1619 (by decide +kernel) (by decide +kernel)
theorem im_X12_draw : Cond.instanceMethod yX12_draw ∈ gs_tbl := gs_t 1621 (by decide +kernel) (by decide +kernel)
theorem mf_X12_days : gs_MF yX12_days cX12_days 3 none 1 := ⟨gs_t 1618 (by decide +kernel) (by decide +kernel), gs_t 13 (by decide +kernel) (by decide +kernel), by decide, by decide, by decide +kernel, by decide, by decide⟩
theorem se_11_RX12_X12_days : Cond.selects RX12 yX12_days yX12_days ∈ gs_tbl := gs_s 88 (by decide +kernel) (by decide +kernel)
theorem ml_RX12_388 : Cond.methodLink RX12 388 yX12_days ∈ gs_tbl := gs_t 1615 (by decide +kernel) (by decide +kernel)
theorem im_X12_days : Cond.instanceMethod yX12_days ∈ gs_tbl := gs_t 1617 (by decide +kernel) (by decide +kernel)
theorem mf_X12_day : gs_MF yX12_day cX12_day 2 (some .int) 1 := ⟨gs_t 1614 (by decide +kernel) (by decide +kernel), gs_t 13 (by decide +kernel) (by decide +kernel), by decide, by decide, by decide +kernel, by decide, by decide⟩
theorem mf_X12_isHold : gs_MF yX12_isHold cX12_isHold 2 (some .boolean) 1 := ⟨gs_t 1633 (by decide +kernel) (by decide +kernel), gs_t 13 (by decide +kernel) (by decide +kernel), by decide, by decide, by decide +kernel, by decide, by decide⟩
theorem se_11_RX12_X12_isHold : Cond.selects RX12 yX12_isHold yX12_isHold ∈ gs_tbl := gs_s 90 (by decide +kernel) (by decide +kernel)
theorem ml_RX12_391 : Cond.methodLink RX12 391 yX12_isHold ∈ gs_tbl := gs_t 1630 (by decide +kernel) (by decide +kernel)
theorem im_X12_isHold : Cond.instanceMethod yX12_isHold ∈ gs_tbl := gs_t 1632 (by decide +kernel) (by decide +kernel)
theorem mf_X12_column : gs_MF yX12_column cX12_column 4 (some .int) 3 := ⟨gs_t 1629 (by decide +kernel) (by decide +kernel), gs_t 13 (by decide +kernel) (by decide +kernel), by decide, by decide, by decide +kernel, by decide, by decide⟩
theorem kc_RX12_394 : Cond.constant RX12 394 (-1000000) ∈ gs_tbl := gs_t 1638 (by decide +kernel) (by decide +kernel)
theorem mf_X12_hold : gs_MF yX12_hold cX12_hold 6 (some .int) 2 := ⟨gs_t 1637 (by decide +kernel) (by decide +kernel), gs_t 13 (by decide +kernel) (by decide +kernel), by decide, by decide, by decide +kernel, by decide, by decide⟩
theorem mf_X12_about : gs_MF yX12_about cX12_about 2 (some .int) 1 := ⟨gs_t 1642 (by decide +kernel) (by decide +kernel), gs_t 13 (by decide +kernel) (by decide +kernel), by decide, by decide, by decide +kernel, by decide, by decide⟩
theorem fl_RX12_74_11 : gs_FL RX12 74 "GrainShiftModel" 11 31 (RX12, TX12, 52) := ⟨rfl, by decide, gs_t 1155 (by decide +kernel) (by decide +kernel), Or.inl rfl⟩
theorem ml_RX12_395 : Cond.methodLink RX12 395 yX12_copy ∈ gs_tbl := gs_t 1651 (by decide +kernel) (by decide +kernel)
theorem ss_X12_copy : Cond.static yX12_copy ∈ gs_tbl := gs_t 1652 (by decide +kernel) (by decide +kernel)
theorem fl_RX12_399_11 : gs_FL RX12 399 "GrainShiftModel" 11 34 (RX12, TX12, 52) := ⟨rfl, by decide, gs_t 1158 (by decide +kernel) (by decide +kernel), Or.inl rfl⟩
theorem mf_X12_keeps : gs_MF yX12_keeps cX12_keeps 1 none 0 := ⟨gs_t 1650 (by decide +kernel) (by decide +kernel), gs_t 13 (by decide +kernel) (by decide +kernel), by decide, by decide, by decide +kernel, by decide, by decide⟩
theorem mf_X12_putBack : gs_MF yX12_putBack cX12_putBack 1 none 0 := ⟨gs_t 1657 (by decide +kernel) (by decide +kernel), gs_t 13 (by decide +kernel) (by decide +kernel), by decide, by decide, by decide +kernel, by decide, by decide⟩
theorem se_11_RX12_X12_keeps : Cond.selects RX12 yX12_keeps yX12_keeps ∈ gs_tbl := gs_s 91 (by decide +kernel) (by decide +kernel)
theorem ml_RX12_402 : Cond.methodLink RX12 402 yX12_keeps ∈ gs_tbl := gs_t 1647 (by decide +kernel) (by decide +kernel)
theorem im_X12_keeps : Cond.instanceMethod yX12_keeps ∈ gs_tbl := gs_t 1649 (by decide +kernel) (by decide +kernel)
theorem se_11_RX12_X12_putBack : Cond.selects RX12 yX12_putBack yX12_putBack ∈ gs_tbl := gs_s 92 (by decide +kernel) (by decide +kernel)
theorem ml_RX12_405 : Cond.methodLink RX12 405 yX12_putBack ∈ gs_tbl := gs_t 1654 (by decide +kernel) (by decide +kernel)
theorem im_X12_putBack : Cond.instanceMethod yX12_putBack ∈ gs_tbl := gs_t 1656 (by decide +kernel) (by decide +kernel)
theorem mf_X12_goes : gs_MF yX12_goes cX12_goes 4 (some .int) 2 := ⟨gs_t 1646 (by decide +kernel) (by decide +kernel), gs_t 13 (by decide +kernel) (by decide +kernel), by decide, by decide, by decide +kernel, by decide, by decide⟩
theorem mf_X12_least : gs_MF yX12_least cX12_least 3 (some .int) 0 := ⟨gs_t 1661 (by decide +kernel) (by decide +kernel), gs_t 13 (by decide +kernel) (by decide +kernel), by decide, by decide, by decide +kernel, by decide, by decide⟩
theorem mf_X12_runs : gs_MF yX12_runs cX12_runs 6 (some .int) 2 := ⟨gs_t 1665 (by decide +kernel) (by decide +kernel), gs_t 13 (by decide +kernel) (by decide +kernel), by decide, by decide, by decide +kernel, by decide, by decide⟩
theorem mf_X12_leanBy : gs_MF yX12_leanBy cX12_leanBy 5 (some .int) 2 := ⟨gs_t 1673 (by decide +kernel) (by decide +kernel), gs_t 13 (by decide +kernel) (by decide +kernel), by decide, by decide, by decide +kernel, by decide, by decide⟩
theorem mf_X12_isNearer : gs_MF yX12_isNearer cX12_isNearer 2 (some .boolean) 2 := ⟨gs_t 1676 (by decide +kernel) (by decide +kernel), gs_t 13 (by decide +kernel) (by decide +kernel), by decide, by decide, by decide +kernel, by decide, by decide⟩
theorem se_11_RX12_X12_leanBy : Cond.selects RX12 yX12_leanBy yX12_leanBy ∈ gs_tbl := gs_s 93 (by decide +kernel) (by decide +kernel)
theorem ml_RX12_408 : Cond.methodLink RX12 408 yX12_leanBy ∈ gs_tbl := gs_t 1670 (by decide +kernel) (by decide +kernel)
theorem im_X12_leanBy : Cond.instanceMethod yX12_leanBy ∈ gs_tbl := gs_t 1672 (by decide +kernel) (by decide +kernel)
theorem ml_RX12_411 : Cond.methodLink RX12 411 yX12_isNearer ∈ gs_tbl := gs_t 1674 (by decide +kernel) (by decide +kernel)
theorem ss_X12_isNearer : Cond.static yX12_isNearer ∈ gs_tbl := gs_t 1675 (by decide +kernel) (by decide +kernel)
theorem mf_X12_ballast : gs_MF yX12_ballast cX12_ballast 6 (some .int) 1 := ⟨gs_t 1669 (by decide +kernel) (by decide +kernel), gs_t 13 (by decide +kernel) (by decide +kernel), by decide, by decide, by decide +kernel, by decide, by decide⟩
theorem fl_RX12_414_11 : gs_FL RX12 414 "GrainShiftModel" 11 41 (RX12, TX12, 52) := ⟨rfl, by decide, gs_t 1165 (by decide +kernel) (by decide +kernel), Or.inl rfl⟩
theorem fl_RX12_80_11 : gs_FL RX12 80 "GrainShiftModel" 11 39 (RX12, TX12, 52) := ⟨rfl, by decide, gs_t 1163 (by decide +kernel) (by decide +kernel), Or.inl rfl⟩
theorem fl_RX12_83_11 : gs_FL RX12 83 "GrainShiftModel" 11 40 (RX12, TX12, 52) := ⟨rfl, by decide, gs_t 1164 (by decide +kernel) (by decide +kernel), Or.inl rfl⟩
theorem mf_X12_course : gs_MF yX12_course cX12_course 3 (some .int) 2 := ⟨gs_t 1680 (by decide +kernel) (by decide +kernel), gs_t 13 (by decide +kernel) (by decide +kernel), by decide, by decide, by decide +kernel, by decide, by decide⟩
theorem mf_X12_voyage : gs_MF yX12_voyage cX12_voyage 4 none 2 := ⟨gs_t 1688 (by decide +kernel) (by decide +kernel), gs_t 13 (by decide +kernel) (by decide +kernel), by decide, by decide, by decide +kernel, by decide, by decide⟩
theorem se_11_RX12_X12_voyage : Cond.selects RX12 yX12_voyage yX12_voyage ∈ gs_tbl := gs_s 94 (by decide +kernel) (by decide +kernel)
theorem ml_RX12_417 : Cond.methodLink RX12 417 yX12_voyage ∈ gs_tbl := gs_t 1685 (by decide +kernel) (by decide +kernel)
theorem im_X12_voyage : Cond.instanceMethod yX12_voyage ∈ gs_tbl := gs_t 1687 (by decide +kernel) (by decide +kernel)
theorem mf_X12_best : gs_MF yX12_best cX12_best 7 (some .int) 1 := ⟨gs_t 1684 (by decide +kernel) (by decide +kernel), gs_t 13 (by decide +kernel) (by decide +kernel), by decide, by decide, by decide +kernel, by decide, by decide⟩
theorem mf_X12_costOf : gs_MF yX12_costOf cX12_costOf 8 (some .int) 5 := ⟨gs_t 1696 (by decide +kernel) (by decide +kernel), gs_t 13 (by decide +kernel) (by decide +kernel), by decide, by decide, by decide +kernel, by decide, by decide⟩
theorem se_11_RX12_X12_costOf : Cond.selects RX12 yX12_costOf yX12_costOf ∈ gs_tbl := gs_s 95 (by decide +kernel) (by decide +kernel)
theorem ml_RX12_420 : Cond.methodLink RX12 420 yX12_costOf ∈ gs_tbl := gs_t 1693 (by decide +kernel) (by decide +kernel)
theorem im_X12_costOf : Cond.instanceMethod yX12_costOf ∈ gs_tbl := gs_t 1695 (by decide +kernel) (by decide +kernel)
theorem mf_X12_cost : gs_MF yX12_cost cX12_cost 3 (some .int) 2 := ⟨gs_t 1692 (by decide +kernel) (by decide +kernel), gs_t 13 (by decide +kernel) (by decide +kernel), by decide, by decide, by decide +kernel, by decide, by decide⟩
theorem mf_X12_safeBy : gs_MF yX12_safeBy cX12_safeBy 11 (some .int) 8 := ⟨gs_t 1707 (by decide +kernel) (by decide +kernel), gs_t 13 (by decide +kernel) (by decide +kernel), by decide, by decide, by decide +kernel, by decide, by decide⟩
theorem mf_X12_isVoyage : gs_MF yX12_isVoyage cX12_isVoyage 3 (some .boolean) 3 := ⟨gs_t 1703 (by decide +kernel) (by decide +kernel), gs_t 13 (by decide +kernel) (by decide +kernel), by decide, by decide, by decide +kernel, by decide, by decide⟩
theorem ml_RX12_424 : Cond.methodLink RX12 424 yX12_isVoyage ∈ gs_tbl := gs_t 1701 (by decide +kernel) (by decide +kernel)
theorem ss_X12_isVoyage : Cond.static yX12_isVoyage ∈ gs_tbl := gs_t 1702 (by decide +kernel) (by decide +kernel)
theorem se_11_RX12_X12_safeBy : Cond.selects RX12 yX12_safeBy yX12_safeBy ∈ gs_tbl := gs_s 96 (by decide +kernel) (by decide +kernel)
theorem ml_RX12_427 : Cond.methodLink RX12 427 yX12_safeBy ∈ gs_tbl := gs_t 1704 (by decide +kernel) (by decide +kernel)
theorem im_X12_safeBy : Cond.instanceMethod yX12_safeBy ∈ gs_tbl := gs_t 1706 (by decide +kernel) (by decide +kernel)
theorem mf_X12_safe : gs_MF yX12_safe cX12_safe 6 (some .int) 5 := ⟨gs_t 1700 (by decide +kernel) (by decide +kernel), gs_t 13 (by decide +kernel) (by decide +kernel), by decide, by decide, by decide +kernel, by decide, by decide⟩
theorem mf_X12_cheapest : gs_MF yX12_cheapest cX12_cheapest 10 (some .int) 5 := ⟨gs_t 1711 (by decide +kernel) (by decide +kernel), gs_t 13 (by decide +kernel) (by decide +kernel), by decide, by decide, by decide +kernel, by decide, by decide⟩
theorem mf_X12_fitted : gs_MF yX12_fitted cX12_fitted 13 (some .int) 7 := ⟨gs_t 1715 (by decide +kernel) (by decide +kernel), gs_t 13 (by decide +kernel) (by decide +kernel), by decide, by decide, by decide +kernel, by decide, by decide⟩
theorem fl_RX12_431_11 : gs_FL RX12 431 "GrainShiftModel" 11 43 (RX12, TX12, 52) := ⟨rfl, by decide, gs_t 1167 (by decide +kernel) (by decide +kernel), Or.inl rfl⟩
theorem fl_RX12_86_11 : gs_FL RX12 86 "GrainShiftModel" 11 42 (RX12, TX12, 52) := ⟨rfl, by decide, gs_t 1166 (by decide +kernel) (by decide +kernel), Or.inl rfl⟩
theorem mf_X12_log : gs_MF yX12_log cX12_log 2 (some .int) 1 := ⟨gs_t 1719 (by decide +kernel) (by decide +kernel), gs_t 13 (by decide +kernel) (by decide +kernel), by decide, by decide, by decide +kernel, by decide, by decide⟩
theorem mf_X12_agree : gs_MF yX12_agree cX12_agree 8 (some .int) 3 := ⟨gs_t 1723 (by decide +kernel) (by decide +kernel), gs_t 13 (by decide +kernel) (by decide +kernel), by decide, by decide, by decide +kernel, by decide, by decide⟩
theorem fl_RX12_434_11 : gs_FL RX12 434 "GrainShiftModel" 11 45 (RX12, TX12, 52) := ⟨rfl, by decide, gs_t 1169 (by decide +kernel) (by decide +kernel), Or.inl rfl⟩
theorem fl_RX12_89_11 : gs_FL RX12 89 "GrainShiftModel" 11 44 (RX12, TX12, 52) := ⟨rfl, by decide, gs_t 1168 (by decide +kernel) (by decide +kernel), Or.inl rfl⟩
theorem mf_X12_heap : gs_MF yX12_heap cX12_heap 2 (some .int) 1 := ⟨gs_t 1727 (by decide +kernel) (by decide +kernel), gs_t 13 (by decide +kernel) (by decide +kernel), by decide, by decide, by decide +kernel, by decide, by decide⟩
theorem mf_X12_choose : gs_MF yX12_choose cX12_choose 5 (some .long) 2 := ⟨gs_t 1746 (by decide +kernel) (by decide +kernel), gs_t 13 (by decide +kernel) (by decide +kernel), by decide, by decide, by decide +kernel, by decide, by decide⟩
theorem mf_X12_dry : gs_MF yX12_dry cX12_dry 4 (some .int) 1 := ⟨gs_t 1743 (by decide +kernel) (by decide +kernel), gs_t 13 (by decide +kernel) (by decide +kernel), by decide, by decide, by decide +kernel, by decide, by decide⟩
theorem mf_X12_areCans : gs_MF yX12_areCans cX12_areCans 3 (some .boolean) 2 := ⟨gs_t 1735 (by decide +kernel) (by decide +kernel), gs_t 13 (by decide +kernel) (by decide +kernel), by decide, by decide, by decide +kernel, by decide, by decide⟩
theorem se_11_RX12_X12_dry : Cond.selects RX12 yX12_dry yX12_dry ∈ gs_tbl := gs_s 99 (by decide +kernel) (by decide +kernel)
theorem ml_RX12_437 : Cond.methodLink RX12 437 yX12_dry ∈ gs_tbl := gs_t 1740 (by decide +kernel) (by decide +kernel)
theorem im_X12_dry : Cond.instanceMethod yX12_dry ∈ gs_tbl := gs_t 1742 (by decide +kernel) (by decide +kernel)
theorem ml_RX12_440 : Cond.methodLink RX12 440 yX12_choose ∈ gs_tbl := gs_t 1744 (by decide +kernel) (by decide +kernel)
theorem ss_X12_choose : Cond.static yX12_choose ∈ gs_tbl := gs_t 1745 (by decide +kernel) (by decide +kernel)
theorem mf_X12_missOf : gs_MF yX12_missOf cX12_missOf 3 (some .int) 2 := ⟨gs_t 1739 (by decide +kernel) (by decide +kernel), gs_t 13 (by decide +kernel) (by decide +kernel), by decide, by decide, by decide +kernel, by decide, by decide⟩
theorem se_11_RX12_X12_areCans : Cond.selects RX12 yX12_areCans yX12_areCans ∈ gs_tbl := gs_s 97 (by decide +kernel) (by decide +kernel)
theorem ml_RX12_444 : Cond.methodLink RX12 444 yX12_areCans ∈ gs_tbl := gs_t 1732 (by decide +kernel) (by decide +kernel)
theorem im_X12_areCans : Cond.instanceMethod yX12_areCans ∈ gs_tbl := gs_t 1734 (by decide +kernel) (by decide +kernel)
theorem se_11_RX12_X12_missOf : Cond.selects RX12 yX12_missOf yX12_missOf ∈ gs_tbl := gs_s 98 (by decide +kernel) (by decide +kernel)
theorem ml_RX12_447 : Cond.methodLink RX12 447 yX12_missOf ∈ gs_tbl := gs_t 1736 (by decide +kernel) (by decide +kernel)
theorem im_X12_missOf : Cond.instanceMethod yX12_missOf ∈ gs_tbl := gs_t 1738 (by decide +kernel) (by decide +kernel)
theorem mf_X12_miss : gs_MF yX12_miss cX12_miss 3 (some .int) 2 := ⟨gs_t 1731 (by decide +kernel) (by decide +kernel), gs_t 13 (by decide +kernel) (by decide +kernel), by decide, by decide, by decide +kernel, by decide, by decide⟩
theorem kc_RX12_450 : Cond.constant RX12 450 (1000000) ∈ gs_tbl := gs_t 1751 (by decide +kernel) (by decide +kernel)
theorem mf_X12_enough : gs_MF yX12_enough cX12_enough 4 (some .int) 2 := ⟨gs_t 1750 (by decide +kernel) (by decide +kernel), gs_t 13 (by decide +kernel) (by decide +kernel), by decide, by decide, by decide +kernel, by decide, by decide⟩
theorem kc_RX12_451 : Cond.constant RX12 451 (99999) ∈ gs_tbl := gs_t 1756 (by decide +kernel) (by decide +kernel)
theorem mf_X12_refuse : gs_MF yX12_refuse cX12_refuse 5 (some .int) 4 := ⟨gs_t 1755 (by decide +kernel) (by decide +kernel), gs_t 13 (by decide +kernel) (by decide +kernel), by decide, by decide, by decide +kernel, by decide, by decide⟩
theorem mf_X12_isOpen : gs_MF yX12_isOpen cX12_isOpen 2 (some .boolean) 1 := ⟨gs_t 1764 (by decide +kernel) (by decide +kernel), gs_t 13 (by decide +kernel) (by decide +kernel), by decide, by decide, by decide +kernel, by decide, by decide⟩
theorem se_11_RX12_X12_isOpen : Cond.selects RX12 yX12_isOpen yX12_isOpen ∈ gs_tbl := gs_s 100 (by decide +kernel) (by decide +kernel)
theorem ml_RX12_452 : Cond.methodLink RX12 452 yX12_isOpen ∈ gs_tbl := gs_t 1761 (by decide +kernel) (by decide +kernel)
theorem im_X12_isOpen : Cond.instanceMethod yX12_isOpen ∈ gs_tbl := gs_t 1763 (by decide +kernel) (by decide +kernel)
theorem mf_X12_isColumn : gs_MF yX12_isColumn cX12_isColumn 3 (some .boolean) 2 := ⟨gs_t 1772 (by decide +kernel) (by decide +kernel), gs_t 13 (by decide +kernel) (by decide +kernel), by decide, by decide, by decide +kernel, by decide, by decide⟩
theorem mf_X12_trim : gs_MF yX12_trim cX12_trim 7 (some .int) 2 := ⟨gs_t 1760 (by decide +kernel) (by decide +kernel), gs_t 13 (by decide +kernel) (by decide +kernel), by decide, by decide, by decide +kernel, by decide, by decide⟩
theorem se_11_RX12_X12_isColumn : Cond.selects RX12 yX12_isColumn yX12_isColumn ∈ gs_tbl := gs_s 101 (by decide +kernel) (by decide +kernel)
theorem ml_RX12_455 : Cond.methodLink RX12 455 yX12_isColumn ∈ gs_tbl := gs_t 1769 (by decide +kernel) (by decide +kernel)
theorem im_X12_isColumn : Cond.instanceMethod yX12_isColumn ∈ gs_tbl := gs_t 1771 (by decide +kernel) (by decide +kernel)
theorem mf_X12_pour : gs_MF yX12_pour cX12_pour 5 (some .int) 3 := ⟨gs_t 1768 (by decide +kernel) (by decide +kernel), gs_t 13 (by decide +kernel) (by decide +kernel), by decide, by decide, by decide +kernel, by decide, by decide⟩
theorem mf_X12_take : gs_MF yX12_take cX12_take 5 (some .int) 3 := ⟨gs_t 1776 (by decide +kernel) (by decide +kernel), gs_t 13 (by decide +kernel) (by decide +kernel), by decide, by decide, by decide +kernel, by decide, by decide⟩
theorem mf_X12_heel : gs_MF yX12_heel cX12_heel 4 (some .int) 1 := ⟨gs_t 1780 (by decide +kernel) (by decide +kernel), gs_t 13 (by decide +kernel) (by decide +kernel), by decide, by decide, by decide +kernel, by decide, by decide⟩
theorem mf_X12_tilt : gs_MF yX12_tilt cX12_tilt 5 (some .int) 3 := ⟨gs_t 1784 (by decide +kernel) (by decide +kernel), gs_t 13 (by decide +kernel) (by decide +kernel), by decide, by decide, by decide +kernel, by decide, by decide⟩
theorem mf_X12_ripens : gs_MF yX12_ripens cX12_ripens 4 (some .int) 2 := ⟨gs_t 1788 (by decide +kernel) (by decide +kernel), gs_t 13 (by decide +kernel) (by decide +kernel), by decide, by decide, by decide +kernel, by decide, by decide⟩
theorem mf_X12_slide : gs_MF yX12_slide cX12_slide 5 (some .int) 2 := ⟨gs_t 1792 (by decide +kernel) (by decide +kernel), gs_t 13 (by decide +kernel) (by decide +kernel), by decide, by decide, by decide +kernel, by decide, by decide⟩
theorem fl_RX12_458_11 : gs_FL RX12 458 "GrainShiftModel" 11 48 (RX12, TX12, 52) := ⟨rfl, by decide, gs_t 1172 (by decide +kernel) (by decide +kernel), Or.inl rfl⟩
theorem fl_RX12_92_11 : gs_FL RX12 92 "GrainShiftModel" 11 46 (RX12, TX12, 52) := ⟨rfl, by decide, gs_t 1170 (by decide +kernel) (by decide +kernel), Or.inl rfl⟩
theorem fl_RX12_95_11 : gs_FL RX12 95 "GrainShiftModel" 11 47 (RX12, TX12, 52) := ⟨rfl, by decide, gs_t 1171 (by decide +kernel) (by decide +kernel), Or.inl rfl⟩
theorem mf_X12_port : gs_MF yX12_port cX12_port 3 (some .int) 2 := ⟨gs_t 1796 (by decide +kernel) (by decide +kernel), gs_t 13 (by decide +kernel) (by decide +kernel), by decide, by decide, by decide +kernel, by decide, by decide⟩
theorem mf_X12_isReached : gs_MF yX12_isReached cX12_isReached 4 (some .boolean) 2 := ⟨gs_t 1804 (by decide +kernel) (by decide +kernel), gs_t 13 (by decide +kernel) (by decide +kernel), by decide, by decide, by decide +kernel, by decide, by decide⟩
theorem se_11_RX12_X12_isReached : Cond.selects RX12 yX12_isReached yX12_isReached ∈ gs_tbl := gs_s 102 (by decide +kernel) (by decide +kernel)
theorem ml_RX12_461 : Cond.methodLink RX12 461 yX12_isReached ∈ gs_tbl := gs_t 1801 (by decide +kernel) (by decide +kernel)
theorem im_X12_isReached : Cond.instanceMethod yX12_isReached ∈ gs_tbl := gs_t 1803 (by decide +kernel) (by decide +kernel)
theorem mf_X12_reach : gs_MF yX12_reach cX12_reach 6 (some .int) 2 := ⟨gs_t 1800 (by decide +kernel) (by decide +kernel), gs_t 13 (by decide +kernel) (by decide +kernel), by decide, by decide, by decide +kernel, by decide, by decide⟩
theorem mf_X12_over : gs_MF yX12_over cX12_over 9 (some .int) 4 := ⟨gs_t 1808 (by decide +kernel) (by decide +kernel), gs_t 13 (by decide +kernel) (by decide +kernel), by decide, by decide, by decide +kernel, by decide, by decide⟩
theorem mf_X12_soonest : gs_MF yX12_soonest cX12_soonest 4 (some .int) 1 := ⟨gs_t 1812 (by decide +kernel) (by decide +kernel), gs_t 13 (by decide +kernel) (by decide +kernel), by decide, by decide, by decide +kernel, by decide, by decide⟩
theorem mf_X12_offBy : gs_MF yX12_offBy cX12_offBy 6 (some .int) 1 := ⟨gs_t 1820 (by decide +kernel) (by decide +kernel), gs_t 13 (by decide +kernel) (by decide +kernel), by decide, by decide, by decide +kernel, by decide, by decide⟩
theorem se_11_RX12_X12_offBy : Cond.selects RX12 yX12_offBy yX12_offBy ∈ gs_tbl := gs_s 103 (by decide +kernel) (by decide +kernel)
theorem ml_RX12_464 : Cond.methodLink RX12 464 yX12_offBy ∈ gs_tbl := gs_t 1817 (by decide +kernel) (by decide +kernel)
theorem im_X12_offBy : Cond.instanceMethod yX12_offBy ∈ gs_tbl := gs_t 1819 (by decide +kernel) (by decide +kernel)
theorem mf_X12_book : gs_MF yX12_book cX12_book 6 (some .int) 1 := ⟨gs_t 1816 (by decide +kernel) (by decide +kernel), gs_t 13 (by decide +kernel) (by decide +kernel), by decide, by decide, by decide +kernel, by decide, by decide⟩
theorem mf_X12_isFollowed : gs_MF yX12_isFollowed cX12_isFollowed 4 (some .boolean) 3 := ⟨gs_t 1828 (by decide +kernel) (by decide +kernel), gs_t 13 (by decide +kernel) (by decide +kernel), by decide, by decide, by decide +kernel, by decide, by decide⟩
theorem fl_RX12_274_11 : gs_FL RX12 274 "GrainShiftModel" 11 7 (RX12, TX12, 52) := ⟨rfl, by decide, gs_t 1131 (by decide +kernel) (by decide +kernel), Or.inl rfl⟩
theorem mf_X12_rules : gs_MF yX12_rules cX12_rules 1 (some .int) 0 := ⟨gs_t 1844 (by decide +kernel) (by decide +kernel), gs_t 13 (by decide +kernel) (by decide +kernel), by decide, by decide, by decide +kernel, by decide, by decide⟩
theorem fl_RX12_77_11 : gs_FL RX12 77 "GrainShiftModel" 11 32 (RX12, TX12, 52) := ⟨rfl, by decide, gs_t 1156 (by decide +kernel) (by decide +kernel), Or.inl rfl⟩
theorem fl_RX12_486_11 : gs_FL RX12 486 "GrainShiftModel" 11 35 (RX12, TX12, 52) := ⟨rfl, by decide, gs_t 1159 (by decide +kernel) (by decide +kernel), Or.inl rfl⟩
theorem fl_RX12_489_11 : gs_FL RX12 489 "GrainShiftModel" 11 36 (RX12, TX12, 52) := ⟨rfl, by decide, gs_t 1160 (by decide +kernel) (by decide +kernel), Or.inl rfl⟩
theorem mf_X12_image : gs_MF yX12_image cX12_image 1 (some .int) 0 := ⟨gs_t 1848 (by decide +kernel) (by decide +kernel), gs_t 13 (by decide +kernel) (by decide +kernel), by decide, by decide, by decide +kernel, by decide, by decide⟩
theorem mf_X12_back : gs_MF yX12_back cX12_back 1 (some .int) 0 := ⟨gs_t 1852 (by decide +kernel) (by decide +kernel), gs_t 13 (by decide +kernel) (by decide +kernel), by decide, by decide, by decide +kernel, by decide, by decide⟩
theorem mf_X12_count : gs_MF yX12_count cX12_count 2 (some .int) 1 := ⟨gs_t 1856 (by decide +kernel) (by decide +kernel), gs_t 13 (by decide +kernel) (by decide +kernel), by decide, by decide, by decide +kernel, by decide, by decide⟩
theorem d_X12_may_0 : gd cX12_may 0 (.iload 4) 2 2 := ⟨by decide +kernel, rfl⟩
theorem d_X12_may_2 : gd cX12_may 2 (.aload_n 0) 1 3 := ⟨by decide +kernel, rfl⟩
theorem d_X12_may_3 : gd cX12_may 3 (.iload_n 1) 1 4 := ⟨by decide +kernel, rfl⟩
theorem d_X12_may_4 : gd cX12_may 4 (.iload_n 2) 1 5 := ⟨by decide +kernel, rfl⟩
theorem d_X12_may_5 : gd cX12_may 5 (.invokevirtual 305) 3 8 := ⟨by decide +kernel, rfl⟩
theorem d_X12_may_8 : gd cX12_may 8 (.invokestatic 314) 3 11 := ⟨by decide +kernel, rfl⟩
theorem d_X12_may_11 : gd cX12_may 11 (.istore 5) 2 13 := ⟨by decide +kernel, rfl⟩
theorem d_X12_may_13 : gd cX12_may 13 (.aload_n 0) 1 14 := ⟨by decide +kernel, rfl⟩
theorem d_X12_may_14 : gd cX12_may 14 (.iload_n 1) 1 15 := ⟨by decide +kernel, rfl⟩
theorem d_X12_may_15 : gd cX12_may 15 (.iconst 0) 1 16 := ⟨by decide +kernel, rfl⟩
theorem d_X12_may_16 : gd cX12_may 16 (.invokevirtual 302) 3 19 := ⟨by decide +kernel, rfl⟩
theorem d_X12_may_19 : gd cX12_may 19 (.istore 6) 2 21 := ⟨by decide +kernel, rfl⟩
theorem d_X12_may_21 : gd cX12_may 21 (.iload_n 2) 1 22 := ⟨by decide +kernel, rfl⟩
theorem d_X12_may_22 : gd cX12_may 22 (.iload_n 3) 1 23 := ⟨by decide +kernel, rfl⟩
theorem d_X12_may_23 : gd cX12_may 23 (.invokestatic 314) 3 26 := ⟨by decide +kernel, rfl⟩
theorem d_X12_may_26 : gd cX12_may 26 (.iload 6) 2 28 := ⟨by decide +kernel, rfl⟩
theorem d_X12_may_28 : gd cX12_may 28 (.iconst 2) 1 29 := ⟨by decide +kernel, rfl⟩
theorem d_X12_may_29 : gd cX12_may 29 .idiv 1 30 := ⟨by decide +kernel, rfl⟩
theorem d_X12_may_30 : gd cX12_may 30 (.iconst 1) 1 31 := ⟨by decide +kernel, rfl⟩
theorem d_X12_may_31 : gd cX12_may 31 .isub 1 32 := ⟨by decide +kernel, rfl⟩
theorem d_X12_may_32 : gd cX12_may 32 (.if_icmp .ne 14) 3 35 := ⟨by decide +kernel, rfl⟩
theorem d_X12_may_35 : gd cX12_may 35 (.iload 6) 2 37 := ⟨by decide +kernel, rfl⟩
theorem d_X12_may_37 : gd cX12_may 37 (.iconst 2) 1 38 := ⟨by decide +kernel, rfl⟩
theorem d_X12_may_38 : gd cX12_may 38 .irem 1 39 := ⟨by decide +kernel, rfl⟩
theorem d_X12_may_39 : gd cX12_may 39 (.ifCond .ne 7) 3 42 := ⟨by decide +kernel, rfl⟩
theorem d_X12_may_42 : gd cX12_may 42 (.iconst 1) 1 43 := ⟨by decide +kernel, rfl⟩
theorem d_X12_may_43 : gd cX12_may 43 (.goto 4) 3 46 := ⟨by decide +kernel, rfl⟩
theorem d_X12_may_46 : gd cX12_may 46 (.iconst 0) 1 47 := ⟨by decide +kernel, rfl⟩
theorem d_X12_may_47 : gd cX12_may 47 (.istore 7) 2 49 := ⟨by decide +kernel, rfl⟩
theorem d_X12_may_49 : gd cX12_may 49 (.iload 7) 2 51 := ⟨by decide +kernel, rfl⟩
theorem d_X12_may_51 : gd cX12_may 51 (.ifCond .eq 36) 3 54 := ⟨by decide +kernel, rfl⟩
theorem d_X12_may_54 : gd cX12_may 54 (.aload_n 0) 1 55 := ⟨by decide +kernel, rfl⟩
theorem d_X12_may_55 : gd cX12_may 55 (.iload_n 1) 1 56 := ⟨by decide +kernel, rfl⟩
theorem d_X12_may_56 : gd cX12_may 56 (.iconst 3) 1 57 := ⟨by decide +kernel, rfl⟩
theorem d_X12_may_57 : gd cX12_may 57 (.invokevirtual 302) 3 60 := ⟨by decide +kernel, rfl⟩
theorem d_X12_may_60 : gd cX12_may 60 (.ifCond .le 27) 3 63 := ⟨by decide +kernel, rfl⟩
theorem d_X12_may_63 : gd cX12_may 63 (.iload 5) 2 65 := ⟨by decide +kernel, rfl⟩
theorem d_X12_may_65 : gd cX12_may 65 (.iconst 0) 1 66 := ⟨by decide +kernel, rfl⟩
theorem d_X12_may_66 : gd cX12_may 66 (.aload_n 0) 1 67 := ⟨by decide +kernel, rfl⟩
theorem d_X12_may_67 : gd cX12_may 67 (.iload_n 1) 1 68 := ⟨by decide +kernel, rfl⟩
theorem d_X12_may_68 : gd cX12_may 68 (.iload_n 2) 1 69 := ⟨by decide +kernel, rfl⟩
theorem d_X12_may_69 : gd cX12_may 69 (.invokevirtual 305) 3 72 := ⟨by decide +kernel, rfl⟩
theorem d_X12_may_72 : gd cX12_may 72 (.aload_n 0) 1 73 := ⟨by decide +kernel, rfl⟩
theorem d_X12_may_73 : gd cX12_may 73 (.iload_n 1) 1 74 := ⟨by decide +kernel, rfl⟩
theorem d_X12_may_74 : gd cX12_may 74 (.iconst 3) 1 75 := ⟨by decide +kernel, rfl⟩
theorem d_X12_may_75 : gd cX12_may 75 (.invokevirtual 302) 3 78 := ⟨by decide +kernel, rfl⟩
theorem d_X12_may_78 : gd cX12_may 78 .isub 1 79 := ⟨by decide +kernel, rfl⟩
theorem d_X12_may_79 : gd cX12_may 79 (.invokestatic 316) 3 82 := ⟨by decide +kernel, rfl⟩
theorem d_X12_may_82 : gd cX12_may 82 (.invokestatic 314) 3 85 := ⟨by decide +kernel, rfl⟩
theorem d_X12_may_85 : gd cX12_may 85 (.istore 5) 2 87 := ⟨by decide +kernel, rfl⟩
theorem d_X12_may_87 : gd cX12_may 87 (.iload 5) 2 89 := ⟨by decide +kernel, rfl⟩
theorem d_X12_may_89 : gd cX12_may 89 (.ifCond .le 35) 3 92 := ⟨by decide +kernel, rfl⟩
theorem d_X12_may_92 : gd cX12_may 92 (.aload_n 0) 1 93 := ⟨by decide +kernel, rfl⟩
theorem d_X12_may_93 : gd cX12_may 93 (.iload_n 1) 1 94 := ⟨by decide +kernel, rfl⟩
theorem d_X12_may_94 : gd cX12_may 94 (.aload_n 0) 1 95 := ⟨by decide +kernel, rfl⟩
theorem d_X12_may_95 : gd cX12_may 95 (.iload_n 1) 1 96 := ⟨by decide +kernel, rfl⟩
theorem d_X12_may_96 : gd cX12_may 96 (.iload_n 3) 1 97 := ⟨by decide +kernel, rfl⟩
theorem d_X12_may_97 : gd cX12_may 97 (.invokevirtual 305) 3 100 := ⟨by decide +kernel, rfl⟩
theorem d_X12_may_100 : gd cX12_may 100 (.iload 5) 2 102 := ⟨by decide +kernel, rfl⟩
theorem d_X12_may_102 : gd cX12_may 102 .iadd 1 103 := ⟨by decide +kernel, rfl⟩
theorem d_X12_may_103 : gd cX12_may 103 (.invokevirtual 308) 3 106 := ⟨by decide +kernel, rfl⟩
theorem d_X12_may_106 : gd cX12_may 106 (.bipush 10) 2 108 := ⟨by decide +kernel, rfl⟩
theorem d_X12_may_108 : gd cX12_may 108 (.aload_n 0) 1 109 := ⟨by decide +kernel, rfl⟩
theorem d_X12_may_109 : gd cX12_may 109 (.iload_n 1) 1 110 := ⟨by decide +kernel, rfl⟩
theorem d_X12_may_110 : gd cX12_may 110 (.iconst 1) 1 111 := ⟨by decide +kernel, rfl⟩
theorem d_X12_may_111 : gd cX12_may 111 (.invokevirtual 302) 3 114 := ⟨by decide +kernel, rfl⟩
theorem d_X12_may_114 : gd cX12_may 114 .imul 1 115 := ⟨by decide +kernel, rfl⟩
theorem d_X12_may_115 : gd cX12_may 115 (.if_icmp .le 9) 3 118 := ⟨by decide +kernel, rfl⟩
theorem d_X12_may_118 : gd cX12_may 118 (.iinc 5 (-1)) 3 121 := ⟨by decide +kernel, rfl⟩
theorem d_X12_may_121 : gd cX12_may 121 (.goto (-34)) 3 124 := ⟨by decide +kernel, rfl⟩
theorem d_X12_may_124 : gd cX12_may 124 (.iload 5) 2 126 := ⟨by decide +kernel, rfl⟩
theorem d_X12_may_126 : gd cX12_may 126 .ireturn 1 127 := ⟨by decide +kernel, rfl⟩
def Bo_X12_may_87 (q87 : Int32 → Int32 → Int32 → gs_M → Option (Int32 × gs_M)) (x1 : Int32) (x3 : Int32) (x5 : Int32) (μ : gs_M) : Option (Int32 × gs_M) :=
  if x5 ≤ 0 then (some (x5, μ)) else (bd (D_X12_units x1 x3 μ) (fun v4 u3 => bd (D_X12_tallBy x1 (v4 + x5) u3) (fun v7 u6 => bd (D_X12_of x1 (1 : Int32) u6) (fun v10 u9 => if v7 ≤ ((10 : Int32) * v10) then (some (x5, u9)) else (q87 x1 x3 (x5 + (-1 : Int32)) u9)))))
def L_X12_may_87  : Nat → Int32 → Int32 → Int32 → gs_M → Option (Int32 × gs_M)
  | 0 => fun _ _ _ _ => none
  | n + 1 => fun x1 x3 x5 μ => Bo_X12_may_87  (L_X12_may_87  n) x1 x3 x5 μ
def B_X12_may_47  (x1 : Int32) (x2 : Int32) (x3 : Int32) (x5 : Int32) (xs0 : Int32) (μ : gs_M) : Option (Int32 × gs_M) :=
  if xs0 = 0 then (L_X12_may_87 4096 x1 x3 x5 μ) else (bd (D_X12_of x1 (3 : Int32) μ) (fun v4 u3 => if v4 ≤ 0 then (L_X12_may_87 4096 x1 x3 x5 u3) else (bd (D_X12_units x1 x2 u3) (fun v8 u7 => bd (D_X12_of x1 (3 : Int32) u7) (fun v11 u10 => lt1 (if (0 : Int32) < (v8 - v11) then (v8 - v11) else (0 : Int32)) (fun v12 => lt1 (if v12 < x5 then v12 else x5) (fun v13 => L_X12_may_87 4096 x1 x3 v13 u10)))))))
def B_X12_may_46  (x1 : Int32) (x2 : Int32) (x3 : Int32) (x5 : Int32) (μ : gs_M) : Option (Int32 × gs_M) :=
  B_X12_may_47 x1 x2 x3 x5 (0 : Int32) μ
def D_X12_may (x1 : Int32) (x2 : Int32) (x3 : Int32) (x4 : Int32) (μ : gs_M) : Option (Int32 × gs_M) :=
  bd (D_X12_units x1 x2 μ) (fun v3 u2 => lt1 (if v3 < x4 then v3 else x4) (fun v4 => bd (D_X12_of x1 (0 : Int32) u2) (fun v7 u6 => lt1 (if x3 < x2 then x3 else x2) (fun v8 => if v8 = ((v7 / (2 : Int32)) - (1 : Int32)) then (if (v7 - v7 / (2 : Int32) * (2 : Int32)) = 0 then (B_X12_may_47 x1 x2 x3 v4 (1 : Int32) u6) else (B_X12_may_46 x1 x2 x3 v4 u6)) else (B_X12_may_46 x1 x2 x3 v4 u6)))))
section S_X12_may
variable {p : Program} {l : Launch} {e : Env} {R : Room} {s : State} {m : MethodId} {args : Array Value} {below : List Frame} {meth : Method} {c : Code} {ad : Nat → Nat} {g : va_G} {tyc : Nat → ClassId}
set_option maxRecDepth 20000 in
theorem To_X12_may_87  (hK : KC p R s m args meth c ad g tyc RX12 cX12_may 8 (some .int) 2) {r : Int32} {μ2 : gs_M} {q87 : Int32 → Int32 → Int32 → gs_M → Option (Int32 × gs_M)} (hq87 : ∀ (x1 : Int32) (x3 : Int32) (x5 : Int32) (μ : gs_M), q87 x1 x3 x5 μ = some (r, μ2) → WJ p l e R s m args below meth c 0 0 (MQ below (gs_Q ad g tyc (some (.int r)) μ2) args s 0 0 (gs_A ad)) ad g tyc 8 87 [.ref 78, .int x1, gs_J, .int x3, gs_J, .int x5, gs_J, gs_J] [] μ) {x1 : Int32} {x3 : Int32} {x5 : Int32} {μ : gs_M}  (hD : Bo_X12_may_87 q87 x1 x3 x5 μ = some (r, μ2)) : WJ p l e R s m args below meth c 0 0 (MQ below (gs_Q ad g tyc (some (.int r)) μ2) args s 0 0 (gs_A ad)) ad g tyc 8 87 [.ref 78, .int x1, gs_J, .int x3, gs_J, .int x5, gs_J, gs_J] [] μ := by
  unfold Bo_X12_may_87 at hD
  refine r_iload hK d_X12_may_87 rfl ?_
  refine r_if_le (tgt := 124) hK d_X12_may_89 (by decide) (fun h1 => ?_) (fun h1 => ?_)
  · have hD := if_t hD h1
    refine r_iload hK d_X12_may_124 rfl ?_
    cases hD
    exact r_iret hK d_X12_may_126
  · have hD := if_f hD h1
    refine r_aload_n hK d_X12_may_92 rfl rfl ?_
    refine r_iload_n hK d_X12_may_93 rfl rfl ?_
    refine r_aload_n hK d_X12_may_94 rfl rfl ?_
    refine r_iload_n hK d_X12_may_95 rfl rfl ?_
    refine r_iload_n hK d_X12_may_96 rfl rfl ?_
    obtain ⟨v4, u3, e2, hD⟩ := bd_e hD
    refine r_callV (As := [.int x1, .int x3]) (st := [.int x1, .ref 78]) (stk2 := [.int v4, .int x1, .ref 78]) hK (C_X12_units  e2) d_X12_may_97 mf_X12_units ml_RX12_305 im_X12_units rfl se_11_RX12_X12_units kd_78 rfl (Nat.le_of_ble_eq_true rfl) (by decide) ⟨Nat.zero_le _, Nat.zero_le _⟩ rfl rfl ?_
    refine r_iload hK d_X12_may_100 rfl ?_
    refine r_iadd hK d_X12_may_102 ?_
    obtain ⟨v7, u6, e5, hD⟩ := bd_e hD
    refine r_callV (As := [.int x1, .int (v4 + x5)]) (st := []) (stk2 := [.int v7]) hK (C_X12_tallBy  e5) d_X12_may_103 mf_X12_tallBy ml_RX12_308 im_X12_tallBy rfl se_11_RX12_X12_tallBy kd_78 rfl (Nat.le_of_ble_eq_true rfl) (by decide) ⟨Nat.zero_le _, Nat.zero_le _⟩ rfl rfl ?_
    refine r_bipush hK d_X12_may_106 cb_10 ?_
    refine r_aload_n hK d_X12_may_108 rfl rfl ?_
    refine r_iload_n hK d_X12_may_109 rfl rfl ?_
    refine r_iconst hK d_X12_may_110 ci_1 ?_
    obtain ⟨v10, u9, e8, hD⟩ := bd_e hD
    refine r_callV (As := [.int x1, .int (1 : Int32)]) (st := [.int (10 : Int32), .int v7]) (stk2 := [.int v10, .int (10 : Int32), .int v7]) hK (C_X12_of  e8) d_X12_may_111 mf_X12_of ml_RX12_302 im_X12_of rfl se_11_RX12_X12_of kd_78 rfl (Nat.le_of_ble_eq_true rfl) (by decide) ⟨Nat.zero_le _, Nat.zero_le _⟩ rfl rfl ?_
    refine r_imul hK d_X12_may_114 ?_
    refine r_icmp_le (tgt := 124) hK d_X12_may_115 (by decide) (fun h11 => ?_) (fun h11 => ?_)
    · have hD := if_t hD h11
      refine r_iload hK d_X12_may_124 rfl ?_
      cases hD
      exact r_iret hK d_X12_may_126
    · have hD := if_f hD h11
      refine r_iinc hK d_X12_may_118 rfl (v := x5 + (-1 : Int32)) (by rw [ci_m1]) (by decide) (ls2 := [.ref 78, .int x1, gs_J, .int x3, gs_J, .int (x5 + (-1 : Int32)), gs_J, gs_J]) rfl ?_
      refine r_goto (tgt := 87) hK d_X12_may_121 (by decide) ?_
      exact hq87 _ _ _ _  hD
set_option maxRecDepth 20000 in
theorem TL_X12_may_87  (hK : KC p R s m args meth c ad g tyc RX12 cX12_may 8 (some .int) 2) {r : Int32} {μ2 : gs_M}   : ∀ (n : Nat) (x1 : Int32) (x3 : Int32) (x5 : Int32) (μ : gs_M), L_X12_may_87  n x1 x3 x5 μ = some (r, μ2) → WJ p l e R s m args below meth c 0 0 (MQ below (gs_Q ad g tyc (some (.int r)) μ2) args s 0 0 (gs_A ad)) ad g tyc 8 87 [.ref 78, .int x1, gs_J, .int x3, gs_J, .int x5, gs_J, gs_J] [] μ := by
  intro n
  induction n with
  | zero => intro x1 x3 x5 μ  hD; cases hD
  | succ n ih => intro x1 x3 x5 μ  hD; exact To_X12_may_87 hK  ih  hD
set_option maxRecDepth 20000 in
theorem T_X12_may_47  (hK : KC p R s m args meth c ad g tyc RX12 cX12_may 8 (some .int) 2) {r : Int32} {μ2 : gs_M}   {x1 : Int32} {x2 : Int32} {x3 : Int32} {x5 : Int32} {xs0 : Int32} {μ : gs_M}  (hD : B_X12_may_47  x1 x2 x3 x5 xs0 μ = some (r, μ2)) : WJ p l e R s m args below meth c 0 0 (MQ below (gs_Q ad g tyc (some (.int r)) μ2) args s 0 0 (gs_A ad)) ad g tyc 8 47 [.ref 78, .int x1, .int x2, .int x3, gs_J, .int x5, gs_J, gs_J] [.int xs0] μ := by
  unfold B_X12_may_47 at hD
  refine r_istore hK d_X12_may_47 (by decide) (ls2 := [.ref 78, .int x1, .int x2, .int x3, gs_J, .int x5, gs_J, .int xs0]) rfl ?_
  refine r_iload hK d_X12_may_49 rfl ?_
  refine r_if_eq (tgt := 87) hK d_X12_may_51 (by decide) (fun h1 => ?_) (fun h1 => ?_)
  · have hD := if_t hD h1
    refine r_junk [true, true, false, true, false, true, false, false] (ls2 := [.ref 78, .int x1, gs_J, .int x3, gs_J, .int x5, gs_J, gs_J]) rfl ?_
    exact TL_X12_may_87 hK  _ _ _ _ _  hD
  · have hD := if_f hD h1
    refine r_aload_n hK d_X12_may_54 rfl rfl ?_
    refine r_iload_n hK d_X12_may_55 rfl rfl ?_
    refine r_iconst hK d_X12_may_56 ci_3 ?_
    obtain ⟨v4, u3, e2, hD⟩ := bd_e hD
    refine r_callV (As := [.int x1, .int (3 : Int32)]) (st := []) (stk2 := [.int v4]) hK (C_X12_of  e2) d_X12_may_57 mf_X12_of ml_RX12_302 im_X12_of rfl se_11_RX12_X12_of kd_78 rfl (Nat.le_of_ble_eq_true rfl) (by decide) ⟨Nat.zero_le _, Nat.zero_le _⟩ rfl rfl ?_
    refine r_if_le (tgt := 87) hK d_X12_may_60 (by decide) (fun h5 => ?_) (fun h5 => ?_)
    · have hD := if_t hD h5
      refine r_junk [true, true, false, true, false, true, false, false] (ls2 := [.ref 78, .int x1, gs_J, .int x3, gs_J, .int x5, gs_J, gs_J]) rfl ?_
      exact TL_X12_may_87 hK  _ _ _ _ _  hD
    · have hD := if_f hD h5
      refine r_iload hK d_X12_may_63 rfl ?_
      refine r_iconst hK d_X12_may_65 ci_0 ?_
      refine r_aload_n hK d_X12_may_66 rfl rfl ?_
      refine r_iload_n hK d_X12_may_67 rfl rfl ?_
      refine r_iload_n hK d_X12_may_68 rfl rfl ?_
      obtain ⟨v8, u7, e6, hD⟩ := bd_e hD
      refine r_callV (As := [.int x1, .int x2]) (st := [.int (0 : Int32), .int x5]) (stk2 := [.int v8, .int (0 : Int32), .int x5]) hK (C_X12_units  e6) d_X12_may_69 mf_X12_units ml_RX12_305 im_X12_units rfl se_11_RX12_X12_units kd_78 rfl (Nat.le_of_ble_eq_true rfl) (by decide) ⟨Nat.zero_le _, Nat.zero_le _⟩ rfl rfl ?_
      refine r_aload_n hK d_X12_may_72 rfl rfl ?_
      refine r_iload_n hK d_X12_may_73 rfl rfl ?_
      refine r_iconst hK d_X12_may_74 ci_3 ?_
      obtain ⟨v11, u10, e9, hD⟩ := bd_e hD
      refine r_callV (As := [.int x1, .int (3 : Int32)]) (st := [.int v8, .int (0 : Int32), .int x5]) (stk2 := [.int v11, .int v8, .int (0 : Int32), .int x5]) hK (C_X12_of  e9) d_X12_may_75 mf_X12_of ml_RX12_302 im_X12_of rfl se_11_RX12_X12_of kd_78 rfl (Nat.le_of_ble_eq_true rfl) (by decide) ⟨Nat.zero_le _, Nat.zero_le _⟩ rfl rfl ?_
      refine r_isub hK d_X12_may_78 ?_
      refine r_mmax hK d_X12_may_79 mm_RX12_316 ms_max mi_0 mc_max (Nat.le_of_ble_eq_true rfl) (by decide) ⟨Nat.zero_le _, Nat.zero_le _⟩ ?_
      refine r_lti hD (fun v12 hD => ?_)
      refine r_mmin hK d_X12_may_82 mm_RX12_314 ms_min mi_0 mc_min (Nat.le_of_ble_eq_true rfl) (by decide) ⟨Nat.zero_le _, Nat.zero_le _⟩ ?_
      refine r_lti hD (fun v13 hD => ?_)
      refine r_istore hK d_X12_may_85 (by decide) (ls2 := [.ref 78, .int x1, .int x2, .int x3, gs_J, .int v13, gs_J, .int xs0]) rfl ?_
      refine r_junk [true, true, false, true, false, true, false, false] (ls2 := [.ref 78, .int x1, gs_J, .int x3, gs_J, .int v13, gs_J, gs_J]) rfl ?_
      exact TL_X12_may_87 hK  _ _ _ _ _  hD
set_option maxRecDepth 20000 in
theorem T_X12_may_46  (hK : KC p R s m args meth c ad g tyc RX12 cX12_may 8 (some .int) 2) {r : Int32} {μ2 : gs_M}   {x1 : Int32} {x2 : Int32} {x3 : Int32} {x5 : Int32} {μ : gs_M}  (hD : B_X12_may_46  x1 x2 x3 x5 μ = some (r, μ2)) : WJ p l e R s m args below meth c 0 0 (MQ below (gs_Q ad g tyc (some (.int r)) μ2) args s 0 0 (gs_A ad)) ad g tyc 8 46 [.ref 78, .int x1, .int x2, .int x3, gs_J, .int x5, gs_J, gs_J] [] μ := by
  unfold B_X12_may_46 at hD
  refine r_iconst hK d_X12_may_46 ci_0 ?_
  exact T_X12_may_47 hK   hD
set_option maxRecDepth 20000 in
theorem C_X12_may  {x1 : Int32} {x2 : Int32} {x3 : Int32} {x4 : Int32} {μ : gs_M} {r : Int32} {μ2 : gs_M}  (hD : D_X12_may x1 x2 x3 x4 μ = some (r, μ2)) : CALL yX12_may cX12_may 8 (some .int) 2 [.ref 78, .int x1, .int x2, .int x3, .int x4] μ (some (.int r)) μ2 := by
  unfold D_X12_may at hD
  refine gs_enter mf_X12_may (Nat.le_of_ble_eq_true rfl) (ls := [.ref 78, .int x1, .int x2, .int x3, .int x4, gs_J, gs_J, gs_J]) rfl (fun p l e R s m args below meth c ad g tyc hK => ?_)
  have hK : KC p R s m args meth c ad g tyc RX12 cX12_may 8 (some .int) 2 := hK
  refine r_iload hK d_X12_may_0 rfl ?_
  refine r_aload_n hK d_X12_may_2 rfl rfl ?_
  refine r_iload_n hK d_X12_may_3 rfl rfl ?_
  refine r_iload_n hK d_X12_may_4 rfl rfl ?_
  obtain ⟨v3, u2, e1, hD⟩ := bd_e hD
  refine r_callV (As := [.int x1, .int x2]) (st := [.int x4]) (stk2 := [.int v3, .int x4]) hK (C_X12_units  e1) d_X12_may_5 mf_X12_units ml_RX12_305 im_X12_units rfl se_11_RX12_X12_units kd_78 rfl (Nat.le_of_ble_eq_true rfl) (by decide) ⟨Nat.zero_le _, Nat.zero_le _⟩ rfl rfl ?_
  refine r_mmin hK d_X12_may_8 mm_RX12_314 ms_min mi_0 mc_min (Nat.le_of_ble_eq_true rfl) (by decide) ⟨Nat.zero_le _, Nat.zero_le _⟩ ?_
  refine r_lti hD (fun v4 hD => ?_)
  refine r_istore hK d_X12_may_11 (by decide) (ls2 := [.ref 78, .int x1, .int x2, .int x3, .int x4, .int v4, gs_J, gs_J]) rfl ?_
  refine r_aload_n hK d_X12_may_13 rfl rfl ?_
  refine r_iload_n hK d_X12_may_14 rfl rfl ?_
  refine r_iconst hK d_X12_may_15 ci_0 ?_
  obtain ⟨v7, u6, e5, hD⟩ := bd_e hD
  refine r_callV (As := [.int x1, .int (0 : Int32)]) (st := []) (stk2 := [.int v7]) hK (C_X12_of  e5) d_X12_may_16 mf_X12_of ml_RX12_302 im_X12_of rfl se_11_RX12_X12_of kd_78 rfl (Nat.le_of_ble_eq_true rfl) (by decide) ⟨Nat.zero_le _, Nat.zero_le _⟩ rfl rfl ?_
  refine r_istore hK d_X12_may_19 (by decide) (ls2 := [.ref 78, .int x1, .int x2, .int x3, .int x4, .int v4, .int v7, gs_J]) rfl ?_
  refine r_iload_n hK d_X12_may_21 rfl rfl ?_
  refine r_iload_n hK d_X12_may_22 rfl rfl ?_
  refine r_mmin hK d_X12_may_23 mm_RX12_314 ms_min mi_0 mc_min (Nat.le_of_ble_eq_true rfl) (by decide) ⟨Nat.zero_le _, Nat.zero_le _⟩ ?_
  refine r_lti hD (fun v8 hD => ?_)
  refine r_iload hK d_X12_may_26 rfl ?_
  refine r_iconst hK d_X12_may_28 ci_2 ?_
  refine r_idiv hK d_X12_may_29 (by decide) ?_
  refine r_iconst hK d_X12_may_30 ci_1 ?_
  refine r_isub hK d_X12_may_31 ?_
  refine r_icmp_ne (tgt := 46) hK d_X12_may_32 (by decide) (fun h9 => ?_) (fun h9 => ?_)
  · have hD := if_f hD h9
    refine r_junk [true, true, true, true, false, true, false, false] (ls2 := [.ref 78, .int x1, .int x2, .int x3, gs_J, .int v4, gs_J, gs_J]) rfl ?_
    exact T_X12_may_46 hK   hD
  · have hD := if_t hD h9
    refine r_iload hK d_X12_may_35 rfl ?_
    refine r_iconst hK d_X12_may_37 ci_2 ?_
    refine r_irem hK d_X12_may_38 (by decide) ?_
    refine r_if_ne (tgt := 46) hK d_X12_may_39 (by decide) (fun h10 => ?_) (fun h10 => ?_)
    · have hD := if_f hD h10
      refine r_junk [true, true, true, true, false, true, false, false] (ls2 := [.ref 78, .int x1, .int x2, .int x3, gs_J, .int v4, gs_J, gs_J]) rfl ?_
      exact T_X12_may_46 hK   hD
    · have hD := if_t hD h10
      refine r_iconst hK d_X12_may_42 ci_1 ?_
      refine r_goto (tgt := 47) hK d_X12_may_43 (by decide) ?_
      refine r_junk [true, true, true, true, false, true, false, false] (ls2 := [.ref 78, .int x1, .int x2, .int x3, gs_J, .int v4, gs_J, gs_J]) rfl ?_
      exact T_X12_may_47 hK   hD
end S_X12_may
theorem d_X12_moves_0 : gd cX12_moves 0 (.aload_n 0) 1 1 := ⟨by decide +kernel, rfl⟩
theorem d_X12_moves_1 : gd cX12_moves 1 (.iload_n 1) 1 2 := ⟨by decide +kernel, rfl⟩
theorem d_X12_moves_2 : gd cX12_moves 2 (.iload_n 2) 1 3 := ⟨by decide +kernel, rfl⟩
theorem d_X12_moves_3 : gd cX12_moves 3 (.iload_n 3) 1 4 := ⟨by decide +kernel, rfl⟩
theorem d_X12_moves_4 : gd cX12_moves 4 (.iload 4) 2 6 := ⟨by decide +kernel, rfl⟩
theorem d_X12_moves_6 : gd cX12_moves 6 (.invokevirtual 318) 3 9 := ⟨by decide +kernel, rfl⟩
theorem d_X12_moves_9 : gd cX12_moves 9 (.istore 5) 2 11 := ⟨by decide +kernel, rfl⟩
theorem d_X12_moves_11 : gd cX12_moves 11 (.aload_n 0) 1 12 := ⟨by decide +kernel, rfl⟩
theorem d_X12_moves_12 : gd cX12_moves 12 (.getfield 71) 3 15 := ⟨by decide +kernel, rfl⟩
theorem d_X12_moves_15 : gd cX12_moves 15 (.aload_n 0) 1 16 := ⟨by decide +kernel, rfl⟩
theorem d_X12_moves_16 : gd cX12_moves 16 (.iload_n 1) 1 17 := ⟨by decide +kernel, rfl⟩
theorem d_X12_moves_17 : gd cX12_moves 17 (.iload_n 2) 1 18 := ⟨by decide +kernel, rfl⟩
theorem d_X12_moves_18 : gd cX12_moves 18 (.invokevirtual 299) 3 21 := ⟨by decide +kernel, rfl⟩
theorem d_X12_moves_21 : gd cX12_moves 21 .dup2 1 22 := ⟨by decide +kernel, rfl⟩
theorem d_X12_moves_22 : gd cX12_moves 22 .iaload 1 23 := ⟨by decide +kernel, rfl⟩
theorem d_X12_moves_23 : gd cX12_moves 23 (.iload 5) 2 25 := ⟨by decide +kernel, rfl⟩
theorem d_X12_moves_25 : gd cX12_moves 25 .isub 1 26 := ⟨by decide +kernel, rfl⟩
theorem d_X12_moves_26 : gd cX12_moves 26 .iastore 1 27 := ⟨by decide +kernel, rfl⟩
theorem d_X12_moves_27 : gd cX12_moves 27 (.aload_n 0) 1 28 := ⟨by decide +kernel, rfl⟩
theorem d_X12_moves_28 : gd cX12_moves 28 (.getfield 71) 3 31 := ⟨by decide +kernel, rfl⟩
theorem d_X12_moves_31 : gd cX12_moves 31 (.aload_n 0) 1 32 := ⟨by decide +kernel, rfl⟩
theorem d_X12_moves_32 : gd cX12_moves 32 (.iload_n 1) 1 33 := ⟨by decide +kernel, rfl⟩
theorem d_X12_moves_33 : gd cX12_moves 33 (.iload_n 3) 1 34 := ⟨by decide +kernel, rfl⟩
theorem d_X12_moves_34 : gd cX12_moves 34 (.invokevirtual 299) 3 37 := ⟨by decide +kernel, rfl⟩
theorem d_X12_moves_37 : gd cX12_moves 37 .dup2 1 38 := ⟨by decide +kernel, rfl⟩
theorem d_X12_moves_38 : gd cX12_moves 38 .iaload 1 39 := ⟨by decide +kernel, rfl⟩
theorem d_X12_moves_39 : gd cX12_moves 39 (.iload 5) 2 41 := ⟨by decide +kernel, rfl⟩
theorem d_X12_moves_41 : gd cX12_moves 41 .iadd 1 42 := ⟨by decide +kernel, rfl⟩
theorem d_X12_moves_42 : gd cX12_moves 42 .iastore 1 43 := ⟨by decide +kernel, rfl⟩
theorem d_X12_moves_43 : gd cX12_moves 43 (.iload_n 3) 1 44 := ⟨by decide +kernel, rfl⟩
theorem d_X12_moves_44 : gd cX12_moves 44 (.iload_n 2) 1 45 := ⟨by decide +kernel, rfl⟩
theorem d_X12_moves_45 : gd cX12_moves 45 (.if_icmp .le 17) 3 48 := ⟨by decide +kernel, rfl⟩
theorem d_X12_moves_48 : gd cX12_moves 48 (.aload_n 0) 1 49 := ⟨by decide +kernel, rfl⟩
theorem d_X12_moves_49 : gd cX12_moves 49 .dup 1 50 := ⟨by decide +kernel, rfl⟩
theorem d_X12_moves_50 : gd cX12_moves 50 (.getfield 322) 3 53 := ⟨by decide +kernel, rfl⟩
theorem d_X12_moves_53 : gd cX12_moves 53 (.iload 5) 2 55 := ⟨by decide +kernel, rfl⟩
theorem d_X12_moves_55 : gd cX12_moves 55 .iadd 1 56 := ⟨by decide +kernel, rfl⟩
theorem d_X12_moves_56 : gd cX12_moves 56 (.putfield 322) 3 59 := ⟨by decide +kernel, rfl⟩
theorem d_X12_moves_59 : gd cX12_moves 59 (.goto 14) 3 62 := ⟨by decide +kernel, rfl⟩
theorem d_X12_moves_62 : gd cX12_moves 62 (.aload_n 0) 1 63 := ⟨by decide +kernel, rfl⟩
theorem d_X12_moves_63 : gd cX12_moves 63 .dup 1 64 := ⟨by decide +kernel, rfl⟩
theorem d_X12_moves_64 : gd cX12_moves 64 (.getfield 325) 3 67 := ⟨by decide +kernel, rfl⟩
theorem d_X12_moves_67 : gd cX12_moves 67 (.iload 5) 2 69 := ⟨by decide +kernel, rfl⟩
theorem d_X12_moves_69 : gd cX12_moves 69 .iadd 1 70 := ⟨by decide +kernel, rfl⟩
theorem d_X12_moves_70 : gd cX12_moves 70 (.putfield 325) 3 73 := ⟨by decide +kernel, rfl⟩
theorem d_X12_moves_73 : gd cX12_moves 73 (.iload 5) 2 75 := ⟨by decide +kernel, rfl⟩
theorem d_X12_moves_75 : gd cX12_moves 75 .ireturn 1 76 := ⟨by decide +kernel, rfl⟩
def D_X12_moves (x1 : Int32) (x2 : Int32) (x3 : Int32) (x4 : Int32) (μ : gs_M) : Option (Int32 × gs_M) :=
  bd (D_X12_may x1 x2 x3 x4 μ) (fun v3 u2 => bd (D_X12_placeIn x1 x2 u2) (fun v6 u5 => ck (inb v6 81) (ck (inb v6 81) (lt1 (sI u5 89 (Int32.toNatClampNeg v6) ((gI u5 89 (Int32.toNatClampNeg v6)) - v3)) (fun u9 => bd (D_X12_placeIn x1 x3 u9) (fun v12 u11 => ck (inb v12 81) (ck (inb v12 81) (lt1 (sI u11 89 (Int32.toNatClampNeg v12) ((gI u11 89 (Int32.toNatClampNeg v12)) + v3)) (fun u15 => if x3 ≤ x2 then (lt1 (sI u15 78 38 ((gI u15 78 38) + v3)) (fun u17 => some (v3, u17))) else (lt1 (sI u15 78 37 ((gI u15 78 37) + v3)) (fun u18 => some (v3, u18))))))))))))
section S_X12_moves
variable {p : Program} {l : Launch} {e : Env} {R : Room} {s : State} {m : MethodId} {args : Array Value} {below : List Frame} {meth : Method} {c : Code} {ad : Nat → Nat} {g : va_G} {tyc : Nat → ClassId}
set_option maxRecDepth 20000 in
theorem C_X12_moves  {x1 : Int32} {x2 : Int32} {x3 : Int32} {x4 : Int32} {μ : gs_M} {r : Int32} {μ2 : gs_M}  (hD : D_X12_moves x1 x2 x3 x4 μ = some (r, μ2)) : CALL yX12_moves cX12_moves 6 (some .int) 3 [.ref 78, .int x1, .int x2, .int x3, .int x4] μ (some (.int r)) μ2 := by
  unfold D_X12_moves at hD
  refine gs_enter mf_X12_moves (Nat.le_of_ble_eq_true rfl) (ls := [.ref 78, .int x1, .int x2, .int x3, .int x4, gs_J]) rfl (fun p l e R s m args below meth c ad g tyc hK => ?_)
  have hK : KC p R s m args meth c ad g tyc RX12 cX12_moves 6 (some .int) 3 := hK
  refine r_aload_n hK d_X12_moves_0 rfl rfl ?_
  refine r_iload_n hK d_X12_moves_1 rfl rfl ?_
  refine r_iload_n hK d_X12_moves_2 rfl rfl ?_
  refine r_iload_n hK d_X12_moves_3 rfl rfl ?_
  refine r_iload hK d_X12_moves_4 rfl ?_
  obtain ⟨v3, u2, e1, hD⟩ := bd_e hD
  refine r_callV (As := [.int x1, .int x2, .int x3, .int x4]) (st := []) (stk2 := [.int v3]) hK (C_X12_may  e1) d_X12_moves_6 mf_X12_may ml_RX12_318 im_X12_may rfl se_11_RX12_X12_may kd_78 rfl (Nat.le_of_ble_eq_true rfl) (by decide) ⟨Nat.zero_le _, Nat.zero_le _⟩ rfl rfl ?_
  refine r_istore hK d_X12_moves_9 (by decide) (ls2 := [.ref 78, .int x1, .int x2, .int x3, .int x4, .int v3]) rfl ?_
  refine r_aload_n hK d_X12_moves_11 rfl rfl ?_
  refine r_getR hK d_X12_moves_12 fl_RX12_71_11 rfl kd_78 ?_
  refine r_ref (b := 89) R0_78_30 ?_
  refine r_aload_n hK d_X12_moves_15 rfl rfl ?_
  refine r_iload_n hK d_X12_moves_16 rfl rfl ?_
  refine r_iload_n hK d_X12_moves_17 rfl rfl ?_
  obtain ⟨v6, u5, e4, hD⟩ := bd_e hD
  refine r_callV (As := [.int x1, .int x2]) (st := [.ref 89]) (stk2 := [.int v6, .ref 89]) hK (C_X12_placeIn  e4) d_X12_moves_18 mf_X12_placeIn ml_RX12_299 im_X12_placeIn rfl se_11_RX12_X12_placeIn kd_78 rfl (Nat.le_of_ble_eq_true rfl) (by decide) ⟨Nat.zero_le _, Nat.zero_le _⟩ rfl rfl ?_
  refine r_dup2 hK d_X12_moves_21 rfl rfl ?_
  obtain ⟨h7, hD⟩ := ck_e hD
  refine r_iald hK d_X12_moves_22 kd_89 ln_89 (inb_in h7) ?_
  refine r_iload hK d_X12_moves_23 rfl ?_
  refine r_isub hK d_X12_moves_25 ?_
  obtain ⟨h8, hD⟩ := ck_e hD
  refine r_iast hK d_X12_moves_26 kd_89 ln_89 (inb_in h8) ?_
  refine r_ltm hD (fun u9 hD => ?_)
  refine r_aload_n hK d_X12_moves_27 rfl rfl ?_
  refine r_getR hK d_X12_moves_28 fl_RX12_71_11 rfl kd_78 ?_
  refine r_ref (b := 89) R0_78_30 ?_
  refine r_aload_n hK d_X12_moves_31 rfl rfl ?_
  refine r_iload_n hK d_X12_moves_32 rfl rfl ?_
  refine r_iload_n hK d_X12_moves_33 rfl rfl ?_
  obtain ⟨v12, u11, e10, hD⟩ := bd_e hD
  refine r_callV (As := [.int x1, .int x3]) (st := [.ref 89]) (stk2 := [.int v12, .ref 89]) hK (C_X12_placeIn  e10) d_X12_moves_34 mf_X12_placeIn ml_RX12_299 im_X12_placeIn rfl se_11_RX12_X12_placeIn kd_78 rfl (Nat.le_of_ble_eq_true rfl) (by decide) ⟨Nat.zero_le _, Nat.zero_le _⟩ rfl rfl ?_
  refine r_dup2 hK d_X12_moves_37 rfl rfl ?_
  obtain ⟨h13, hD⟩ := ck_e hD
  refine r_iald hK d_X12_moves_38 kd_89 ln_89 (inb_in h13) ?_
  refine r_iload hK d_X12_moves_39 rfl ?_
  refine r_iadd hK d_X12_moves_41 ?_
  obtain ⟨h14, hD⟩ := ck_e hD
  refine r_iast hK d_X12_moves_42 kd_89 ln_89 (inb_in h14) ?_
  refine r_ltm hD (fun u15 hD => ?_)
  refine r_iload_n hK d_X12_moves_43 rfl rfl ?_
  refine r_iload_n hK d_X12_moves_44 rfl rfl ?_
  refine r_icmp_le (tgt := 62) hK d_X12_moves_45 (by decide) (fun h16 => ?_) (fun h16 => ?_)
  · have hD := if_t hD h16
    refine r_aload_n hK d_X12_moves_62 rfl rfl ?_
    refine r_dup hK d_X12_moves_63 rfl ?_
    refine r_getI hK d_X12_moves_64 fl_RX12_325_11 rfl kd_78 ?_
    refine r_iload hK d_X12_moves_67 rfl ?_
    refine r_iadd hK d_X12_moves_69 ?_
    refine r_putI hK d_X12_moves_70 fl_RX12_325_11 rfl rfl kd_78 ?_
    refine r_ltm hD (fun u17 hD => ?_)
    refine r_iload hK d_X12_moves_73 rfl ?_
    cases hD
    exact r_iret hK d_X12_moves_75
  · have hD := if_f hD h16
    refine r_aload_n hK d_X12_moves_48 rfl rfl ?_
    refine r_dup hK d_X12_moves_49 rfl ?_
    refine r_getI hK d_X12_moves_50 fl_RX12_322_11 rfl kd_78 ?_
    refine r_iload hK d_X12_moves_53 rfl ?_
    refine r_iadd hK d_X12_moves_55 ?_
    refine r_putI hK d_X12_moves_56 fl_RX12_322_11 rfl rfl kd_78 ?_
    refine r_ltm hD (fun u18 hD => ?_)
    refine r_goto (tgt := 73) hK d_X12_moves_59 (by decide) ?_
    refine r_iload hK d_X12_moves_73 rfl ?_
    cases hD
    exact r_iret hK d_X12_moves_75
end S_X12_moves
theorem d_X12_rests_0 : gd cX12_rests 0 (.bipush 10) 2 2 := ⟨by decide +kernel, rfl⟩
theorem d_X12_rests_2 : gd cX12_rests 2 (.bipush (-60)) 2 4 := ⟨by decide +kernel, rfl⟩
theorem d_X12_rests_4 : gd cX12_rests 4 (.bipush 60) 2 6 := ⟨by decide +kernel, rfl⟩
theorem d_X12_rests_6 : gd cX12_rests 6 (.iload_n 2) 1 7 := ⟨by decide +kernel, rfl⟩
theorem d_X12_rests_7 : gd cX12_rests 7 (.invokestatic 314) 3 10 := ⟨by decide +kernel, rfl⟩
theorem d_X12_rests_10 : gd cX12_rests 10 (.invokestatic 316) 3 13 := ⟨by decide +kernel, rfl⟩
theorem d_X12_rests_13 : gd cX12_rests 13 .imul 1 14 := ⟨by decide +kernel, rfl⟩
theorem d_X12_rests_14 : gd cX12_rests 14 (.istore_n 3) 1 15 := ⟨by decide +kernel, rfl⟩
theorem d_X12_rests_15 : gd cX12_rests 15 (.iconst 1) 1 16 := ⟨by decide +kernel, rfl⟩
theorem d_X12_rests_16 : gd cX12_rests 16 (.istore 4) 2 18 := ⟨by decide +kernel, rfl⟩
theorem d_X12_rests_18 : gd cX12_rests 18 (.iconst 0) 1 19 := ⟨by decide +kernel, rfl⟩
theorem d_X12_rests_19 : gd cX12_rests 19 (.istore 5) 2 21 := ⟨by decide +kernel, rfl⟩
theorem d_X12_rests_21 : gd cX12_rests 21 (.iload 5) 2 23 := ⟨by decide +kernel, rfl⟩
theorem d_X12_rests_23 : gd cX12_rests 23 (.bipush 12) 2 25 := ⟨by decide +kernel, rfl⟩
theorem d_X12_rests_25 : gd cX12_rests 25 (.if_icmp .ge 147) 3 28 := ⟨by decide +kernel, rfl⟩
theorem d_X12_rests_28 : gd cX12_rests 28 (.iload 4) 2 30 := ⟨by decide +kernel, rfl⟩
theorem d_X12_rests_30 : gd cX12_rests 30 (.ifCond .eq 142) 3 33 := ⟨by decide +kernel, rfl⟩
theorem d_X12_rests_33 : gd cX12_rests 33 (.iconst 0) 1 34 := ⟨by decide +kernel, rfl⟩
theorem d_X12_rests_34 : gd cX12_rests 34 (.istore 4) 2 36 := ⟨by decide +kernel, rfl⟩
theorem d_X12_rests_36 : gd cX12_rests 36 (.iconst 0) 1 37 := ⟨by decide +kernel, rfl⟩
theorem d_X12_rests_37 : gd cX12_rests 37 (.istore 6) 2 39 := ⟨by decide +kernel, rfl⟩
theorem d_X12_rests_39 : gd cX12_rests 39 (.iload 6) 2 41 := ⟨by decide +kernel, rfl⟩
theorem d_X12_rests_41 : gd cX12_rests 41 (.iconst 1) 1 42 := ⟨by decide +kernel, rfl⟩
theorem d_X12_rests_42 : gd cX12_rests 42 .iadd 1 43 := ⟨by decide +kernel, rfl⟩
theorem d_X12_rests_43 : gd cX12_rests 43 (.aload_n 0) 1 44 := ⟨by decide +kernel, rfl⟩
theorem d_X12_rests_44 : gd cX12_rests 44 (.iload_n 1) 1 45 := ⟨by decide +kernel, rfl⟩
theorem d_X12_rests_45 : gd cX12_rests 45 (.iconst 0) 1 46 := ⟨by decide +kernel, rfl⟩
theorem d_X12_rests_46 : gd cX12_rests 46 (.invokevirtual 302) 3 49 := ⟨by decide +kernel, rfl⟩
theorem d_X12_rests_49 : gd cX12_rests 49 (.if_icmp .ge 117) 3 52 := ⟨by decide +kernel, rfl⟩
theorem d_X12_rests_52 : gd cX12_rests 52 (.aload_n 0) 1 53 := ⟨by decide +kernel, rfl⟩
theorem d_X12_rests_53 : gd cX12_rests 53 (.iload_n 1) 1 54 := ⟨by decide +kernel, rfl⟩
theorem d_X12_rests_54 : gd cX12_rests 54 (.iload 6) 2 56 := ⟨by decide +kernel, rfl⟩
theorem d_X12_rests_56 : gd cX12_rests 56 (.invokevirtual 328) 3 59 := ⟨by decide +kernel, rfl⟩
theorem d_X12_rests_59 : gd cX12_rests 59 (.aload_n 0) 1 60 := ⟨by decide +kernel, rfl⟩
theorem d_X12_rests_60 : gd cX12_rests 60 (.iload_n 1) 1 61 := ⟨by decide +kernel, rfl⟩
theorem d_X12_rests_61 : gd cX12_rests 61 (.iload 6) 2 63 := ⟨by decide +kernel, rfl⟩
theorem d_X12_rests_63 : gd cX12_rests 63 (.iconst 1) 1 64 := ⟨by decide +kernel, rfl⟩
theorem d_X12_rests_64 : gd cX12_rests 64 .iadd 1 65 := ⟨by decide +kernel, rfl⟩
theorem d_X12_rests_65 : gd cX12_rests 65 (.invokevirtual 328) 3 68 := ⟨by decide +kernel, rfl⟩
theorem d_X12_rests_68 : gd cX12_rests 68 .isub 1 69 := ⟨by decide +kernel, rfl⟩
theorem d_X12_rests_69 : gd cX12_rests 69 (.iload_n 3) 1 70 := ⟨by decide +kernel, rfl⟩
theorem d_X12_rests_70 : gd cX12_rests 70 .iadd 1 71 := ⟨by decide +kernel, rfl⟩
theorem d_X12_rests_71 : gd cX12_rests 71 (.istore 7) 2 73 := ⟨by decide +kernel, rfl⟩
theorem d_X12_rests_73 : gd cX12_rests 73 (.aload_n 0) 1 74 := ⟨by decide +kernel, rfl⟩
theorem d_X12_rests_74 : gd cX12_rests 74 (.iload_n 1) 1 75 := ⟨by decide +kernel, rfl⟩
theorem d_X12_rests_75 : gd cX12_rests 75 (.invokevirtual 331) 3 78 := ⟨by decide +kernel, rfl⟩
theorem d_X12_rests_78 : gd cX12_rests 78 (.istore 8) 2 80 := ⟨by decide +kernel, rfl⟩
theorem d_X12_rests_80 : gd cX12_rests 80 (.iload 7) 2 82 := ⟨by decide +kernel, rfl⟩
theorem d_X12_rests_82 : gd cX12_rests 82 (.iload 8) 2 84 := ⟨by decide +kernel, rfl⟩
theorem d_X12_rests_84 : gd cX12_rests 84 (.if_icmp .le 25) 3 87 := ⟨by decide +kernel, rfl⟩
theorem d_X12_rests_87 : gd cX12_rests 87 (.aload_n 0) 1 88 := ⟨by decide +kernel, rfl⟩
theorem d_X12_rests_88 : gd cX12_rests 88 (.iload_n 1) 1 89 := ⟨by decide +kernel, rfl⟩
theorem d_X12_rests_89 : gd cX12_rests 89 (.iload 6) 2 91 := ⟨by decide +kernel, rfl⟩
theorem d_X12_rests_91 : gd cX12_rests 91 (.iload 6) 2 93 := ⟨by decide +kernel, rfl⟩
theorem d_X12_rests_93 : gd cX12_rests 93 (.iconst 1) 1 94 := ⟨by decide +kernel, rfl⟩
theorem d_X12_rests_94 : gd cX12_rests 94 .iadd 1 95 := ⟨by decide +kernel, rfl⟩
theorem d_X12_rests_95 : gd cX12_rests 95 (.iload 7) 2 97 := ⟨by decide +kernel, rfl⟩
theorem d_X12_rests_97 : gd cX12_rests 97 (.iload 8) 2 99 := ⟨by decide +kernel, rfl⟩
theorem d_X12_rests_99 : gd cX12_rests 99 .isub 1 100 := ⟨by decide +kernel, rfl⟩
theorem d_X12_rests_100 : gd cX12_rests 100 (.bipush 20) 2 102 := ⟨by decide +kernel, rfl⟩
theorem d_X12_rests_102 : gd cX12_rests 102 .idiv 1 103 := ⟨by decide +kernel, rfl⟩
theorem d_X12_rests_103 : gd cX12_rests 103 (.invokevirtual 334) 3 106 := ⟨by decide +kernel, rfl⟩
theorem d_X12_rests_106 : gd cX12_rests 106 (.goto 35) 3 109 := ⟨by decide +kernel, rfl⟩
theorem d_X12_rests_109 : gd cX12_rests 109 (.iload 7) 2 111 := ⟨by decide +kernel, rfl⟩
theorem d_X12_rests_111 : gd cX12_rests 111 (.iload 8) 2 113 := ⟨by decide +kernel, rfl⟩
theorem d_X12_rests_113 : gd cX12_rests 113 .ineg 1 114 := ⟨by decide +kernel, rfl⟩
theorem d_X12_rests_114 : gd cX12_rests 114 (.if_icmp .ge 26) 3 117 := ⟨by decide +kernel, rfl⟩
theorem d_X12_rests_117 : gd cX12_rests 117 (.aload_n 0) 1 118 := ⟨by decide +kernel, rfl⟩
theorem d_X12_rests_118 : gd cX12_rests 118 (.iload_n 1) 1 119 := ⟨by decide +kernel, rfl⟩
theorem d_X12_rests_119 : gd cX12_rests 119 (.iload 6) 2 121 := ⟨by decide +kernel, rfl⟩
theorem d_X12_rests_121 : gd cX12_rests 121 (.iconst 1) 1 122 := ⟨by decide +kernel, rfl⟩
theorem d_X12_rests_122 : gd cX12_rests 122 .iadd 1 123 := ⟨by decide +kernel, rfl⟩
theorem d_X12_rests_123 : gd cX12_rests 123 (.iload 6) 2 125 := ⟨by decide +kernel, rfl⟩
theorem d_X12_rests_125 : gd cX12_rests 125 (.iload 7) 2 127 := ⟨by decide +kernel, rfl⟩
theorem d_X12_rests_127 : gd cX12_rests 127 .ineg 1 128 := ⟨by decide +kernel, rfl⟩
theorem d_X12_rests_128 : gd cX12_rests 128 (.iload 8) 2 130 := ⟨by decide +kernel, rfl⟩
theorem d_X12_rests_130 : gd cX12_rests 130 .isub 1 131 := ⟨by decide +kernel, rfl⟩
theorem d_X12_rests_131 : gd cX12_rests 131 (.bipush 20) 2 133 := ⟨by decide +kernel, rfl⟩
theorem d_X12_rests_133 : gd cX12_rests 133 .idiv 1 134 := ⟨by decide +kernel, rfl⟩
theorem d_X12_rests_134 : gd cX12_rests 134 (.invokevirtual 334) 3 137 := ⟨by decide +kernel, rfl⟩
theorem d_X12_rests_137 : gd cX12_rests 137 (.goto 4) 3 140 := ⟨by decide +kernel, rfl⟩
theorem d_X12_rests_140 : gd cX12_rests 140 (.iconst 0) 1 141 := ⟨by decide +kernel, rfl⟩
theorem d_X12_rests_141 : gd cX12_rests 141 (.istore 9) 2 143 := ⟨by decide +kernel, rfl⟩
theorem d_X12_rests_143 : gd cX12_rests 143 (.iload 4) 2 145 := ⟨by decide +kernel, rfl⟩
theorem d_X12_rests_145 : gd cX12_rests 145 (.ifCond .ne 8) 3 148 := ⟨by decide +kernel, rfl⟩
theorem d_X12_rests_148 : gd cX12_rests 148 (.iload 9) 2 150 := ⟨by decide +kernel, rfl⟩
theorem d_X12_rests_150 : gd cX12_rests 150 (.ifCond .le 7) 3 153 := ⟨by decide +kernel, rfl⟩
theorem d_X12_rests_153 : gd cX12_rests 153 (.iconst 1) 1 154 := ⟨by decide +kernel, rfl⟩
theorem d_X12_rests_154 : gd cX12_rests 154 (.goto 4) 3 157 := ⟨by decide +kernel, rfl⟩
theorem d_X12_rests_157 : gd cX12_rests 157 (.iconst 0) 1 158 := ⟨by decide +kernel, rfl⟩
theorem d_X12_rests_158 : gd cX12_rests 158 (.istore 4) 2 160 := ⟨by decide +kernel, rfl⟩
theorem d_X12_rests_160 : gd cX12_rests 160 (.iinc 6 1) 3 163 := ⟨by decide +kernel, rfl⟩
theorem d_X12_rests_163 : gd cX12_rests 163 (.goto (-124)) 3 166 := ⟨by decide +kernel, rfl⟩
theorem d_X12_rests_166 : gd cX12_rests 166 (.iinc 5 1) 3 169 := ⟨by decide +kernel, rfl⟩
theorem d_X12_rests_169 : gd cX12_rests 169 (.goto (-148)) 3 172 := ⟨by decide +kernel, rfl⟩
theorem d_X12_rests_172 : gd cX12_rests 172 .return_ 1 173 := ⟨by decide +kernel, rfl⟩
def B_X12_rests_141 (q21 : Int32 → Int32 → Int32 → Int32 → gs_M → Option (gs_M)) (q39 : Int32 → Int32 → Int32 → Int32 → Int32 → gs_M → Option (gs_M)) (x1 : Int32) (x3 : Int32) (x4 : Int32) (x5 : Int32) (x6 : Int32) (xs0 : Int32) (μ : gs_M) : Option (gs_M) :=
  if x4 = 0 then (if xs0 ≤ 0 then (q39 x1 x3 (0 : Int32) x5 (x6 + (1 : Int32)) μ) else (q39 x1 x3 (1 : Int32) x5 (x6 + (1 : Int32)) μ)) else (q39 x1 x3 (1 : Int32) x5 (x6 + (1 : Int32)) μ)
def Bo_X12_rests_39 (q21 : Int32 → Int32 → Int32 → Int32 → gs_M → Option (gs_M)) (q39 : Int32 → Int32 → Int32 → Int32 → Int32 → gs_M → Option (gs_M)) (x1 : Int32) (x3 : Int32) (x4 : Int32) (x5 : Int32) (x6 : Int32) (μ : gs_M) : Option (gs_M) :=
  bd (D_X12_of x1 (0 : Int32) μ) (fun v3 u2 => if v3 ≤ (x6 + (1 : Int32)) then (q21 x1 x3 x4 (x5 + (1 : Int32)) u2) else (bd (D_X12_tall x1 x6 u2) (fun v7 u6 => bd (D_X12_tall x1 (x6 + (1 : Int32)) u6) (fun v10 u9 => lt1 ((v7 - v10) + x3) (fun v11 => bd (D_X12_fast x1 u9) (fun v14 u13 => if v11 ≤ v14 then (if (-v14) ≤ v11 then (B_X12_rests_141 q21 q39 x1 x3 x4 x5 x6 (0 : Int32) u13) else (bd (D_X12_moves x1 (x6 + (1 : Int32)) x6 (((-v11) - v14) / (20 : Int32)) u13) (fun v19 u18 => B_X12_rests_141 q21 q39 x1 x3 x4 x5 x6 v19 u18))) else (bd (D_X12_moves x1 x6 (x6 + (1 : Int32)) ((v11 - v14) / (20 : Int32)) u13) (fun v22 u21 => B_X12_rests_141 q21 q39 x1 x3 x4 x5 x6 v22 u21))))))))
def L_X12_rests_39 (q21 : Int32 → Int32 → Int32 → Int32 → gs_M → Option (gs_M)) : Nat → Int32 → Int32 → Int32 → Int32 → Int32 → gs_M → Option (gs_M)
  | 0 => fun _ _ _ _ _ _ => none
  | n + 1 => fun x1 x3 x4 x5 x6 μ => Bo_X12_rests_39 q21 (L_X12_rests_39 q21 n) x1 x3 x4 x5 x6 μ
def Bo_X12_rests_21 (q21 : Int32 → Int32 → Int32 → Int32 → gs_M → Option (gs_M)) (x1 : Int32) (x3 : Int32) (x4 : Int32) (x5 : Int32) (μ : gs_M) : Option (gs_M) :=
  if (12 : Int32) ≤ x5 then (some μ) else (if x4 = 0 then (some μ) else (L_X12_rests_39 q21 4096 x1 x3 (0 : Int32) x5 (0 : Int32) μ))
def L_X12_rests_21  : Nat → Int32 → Int32 → Int32 → Int32 → gs_M → Option (gs_M)
  | 0 => fun _ _ _ _ _ => none
  | n + 1 => fun x1 x3 x4 x5 μ => Bo_X12_rests_21  (L_X12_rests_21  n) x1 x3 x4 x5 μ
def D_X12_rests (x1 : Int32) (x2 : Int32) (μ : gs_M) : Option (gs_M) :=
  lt1 (if x2 < (60 : Int32) then x2 else (60 : Int32)) (fun v1 => lt1 (if (-60 : Int32) < v1 then v1 else (-60 : Int32)) (fun v2 => lt1 ((10 : Int32) * v2) (fun v3 => L_X12_rests_21 4096 x1 v3 (1 : Int32) (0 : Int32) μ)))
section S_X12_rests
variable {p : Program} {l : Launch} {e : Env} {R : Room} {s : State} {m : MethodId} {args : Array Value} {below : List Frame} {meth : Method} {c : Code} {ad : Nat → Nat} {g : va_G} {tyc : Nat → ClassId}
set_option maxRecDepth 20000 in
theorem T_X12_rests_141  (hK : KC p R s m args meth c ad g tyc RX12 cX12_rests 10 none 4) {μ2 : gs_M} {q21 : Int32 → Int32 → Int32 → Int32 → gs_M → Option (gs_M)} {q39 : Int32 → Int32 → Int32 → Int32 → Int32 → gs_M → Option (gs_M)} (hq21 : ∀ (x1 : Int32) (x3 : Int32) (x4 : Int32) (x5 : Int32) (μ : gs_M), q21 x1 x3 x4 x5 μ = some μ2 → WJ p l e R s m args below meth c 0 0 (MQ below (gs_Q ad g tyc none μ2) args s 0 0 (gs_A ad)) ad g tyc 10 21 [.ref 78, .int x1, gs_J, .int x3, .int x4, .int x5, gs_J, gs_J, gs_J, gs_J] [] μ) (hq39 : ∀ (x1 : Int32) (x3 : Int32) (x4 : Int32) (x5 : Int32) (x6 : Int32) (μ : gs_M), q39 x1 x3 x4 x5 x6 μ = some μ2 → WJ p l e R s m args below meth c 0 0 (MQ below (gs_Q ad g tyc none μ2) args s 0 0 (gs_A ad)) ad g tyc 10 39 [.ref 78, .int x1, gs_J, .int x3, .int x4, .int x5, .int x6, gs_J, gs_J, gs_J] [] μ) {x1 : Int32} {x3 : Int32} {x4 : Int32} {x5 : Int32} {x6 : Int32} {xs0 : Int32} {μ : gs_M}  (hD : B_X12_rests_141 q21 q39 x1 x3 x4 x5 x6 xs0 μ = some μ2) : WJ p l e R s m args below meth c 0 0 (MQ below (gs_Q ad g tyc none μ2) args s 0 0 (gs_A ad)) ad g tyc 10 141 [.ref 78, .int x1, gs_J, .int x3, .int x4, .int x5, .int x6, gs_J, gs_J, gs_J] [.int xs0] μ := by
  unfold B_X12_rests_141 at hD
  refine r_istore hK d_X12_rests_141 (by decide) (ls2 := [.ref 78, .int x1, gs_J, .int x3, .int x4, .int x5, .int x6, gs_J, gs_J, .int xs0]) rfl ?_
  refine r_iload hK d_X12_rests_143 rfl ?_
  refine r_if_ne (tgt := 153) hK d_X12_rests_145 (by decide) (fun h1 => ?_) (fun h1 => ?_)
  · have hD := if_f hD h1
    refine r_iconst hK d_X12_rests_153 ci_1 ?_
    refine r_goto (tgt := 158) hK d_X12_rests_154 (by decide) ?_
    refine r_istore hK d_X12_rests_158 (by decide) (ls2 := [.ref 78, .int x1, gs_J, .int x3, .int (1 : Int32), .int x5, .int x6, gs_J, gs_J, .int xs0]) rfl ?_
    refine r_iinc hK d_X12_rests_160 rfl (v := x6 + (1 : Int32)) (by rw [ci_1]) (by decide) (ls2 := [.ref 78, .int x1, gs_J, .int x3, .int (1 : Int32), .int x5, .int (x6 + (1 : Int32)), gs_J, gs_J, .int xs0]) rfl ?_
    refine r_goto (tgt := 39) hK d_X12_rests_163 (by decide) ?_
    refine r_junk [true, true, false, true, true, true, true, false, false, false] (ls2 := [.ref 78, .int x1, gs_J, .int x3, .int (1 : Int32), .int x5, .int (x6 + (1 : Int32)), gs_J, gs_J, gs_J]) rfl ?_
    exact hq39 _ _ _ _ _ _  hD
  · have hD := if_t hD h1
    refine r_iload hK d_X12_rests_148 rfl ?_
    refine r_if_le (tgt := 157) hK d_X12_rests_150 (by decide) (fun h2 => ?_) (fun h2 => ?_)
    · have hD := if_t hD h2
      refine r_iconst hK d_X12_rests_157 ci_0 ?_
      refine r_istore hK d_X12_rests_158 (by decide) (ls2 := [.ref 78, .int x1, gs_J, .int x3, .int (0 : Int32), .int x5, .int x6, gs_J, gs_J, .int xs0]) rfl ?_
      refine r_iinc hK d_X12_rests_160 rfl (v := x6 + (1 : Int32)) (by rw [ci_1]) (by decide) (ls2 := [.ref 78, .int x1, gs_J, .int x3, .int (0 : Int32), .int x5, .int (x6 + (1 : Int32)), gs_J, gs_J, .int xs0]) rfl ?_
      refine r_goto (tgt := 39) hK d_X12_rests_163 (by decide) ?_
      refine r_junk [true, true, false, true, true, true, true, false, false, false] (ls2 := [.ref 78, .int x1, gs_J, .int x3, .int (0 : Int32), .int x5, .int (x6 + (1 : Int32)), gs_J, gs_J, gs_J]) rfl ?_
      exact hq39 _ _ _ _ _ _  hD
    · have hD := if_f hD h2
      refine r_iconst hK d_X12_rests_153 ci_1 ?_
      refine r_goto (tgt := 158) hK d_X12_rests_154 (by decide) ?_
      refine r_istore hK d_X12_rests_158 (by decide) (ls2 := [.ref 78, .int x1, gs_J, .int x3, .int (1 : Int32), .int x5, .int x6, gs_J, gs_J, .int xs0]) rfl ?_
      refine r_iinc hK d_X12_rests_160 rfl (v := x6 + (1 : Int32)) (by rw [ci_1]) (by decide) (ls2 := [.ref 78, .int x1, gs_J, .int x3, .int (1 : Int32), .int x5, .int (x6 + (1 : Int32)), gs_J, gs_J, .int xs0]) rfl ?_
      refine r_goto (tgt := 39) hK d_X12_rests_163 (by decide) ?_
      refine r_junk [true, true, false, true, true, true, true, false, false, false] (ls2 := [.ref 78, .int x1, gs_J, .int x3, .int (1 : Int32), .int x5, .int (x6 + (1 : Int32)), gs_J, gs_J, gs_J]) rfl ?_
      exact hq39 _ _ _ _ _ _  hD
set_option maxRecDepth 20000 in
theorem To_X12_rests_39  (hK : KC p R s m args meth c ad g tyc RX12 cX12_rests 10 none 4) {μ2 : gs_M} {q21 : Int32 → Int32 → Int32 → Int32 → gs_M → Option (gs_M)} {q39 : Int32 → Int32 → Int32 → Int32 → Int32 → gs_M → Option (gs_M)} (hq21 : ∀ (x1 : Int32) (x3 : Int32) (x4 : Int32) (x5 : Int32) (μ : gs_M), q21 x1 x3 x4 x5 μ = some μ2 → WJ p l e R s m args below meth c 0 0 (MQ below (gs_Q ad g tyc none μ2) args s 0 0 (gs_A ad)) ad g tyc 10 21 [.ref 78, .int x1, gs_J, .int x3, .int x4, .int x5, gs_J, gs_J, gs_J, gs_J] [] μ) (hq39 : ∀ (x1 : Int32) (x3 : Int32) (x4 : Int32) (x5 : Int32) (x6 : Int32) (μ : gs_M), q39 x1 x3 x4 x5 x6 μ = some μ2 → WJ p l e R s m args below meth c 0 0 (MQ below (gs_Q ad g tyc none μ2) args s 0 0 (gs_A ad)) ad g tyc 10 39 [.ref 78, .int x1, gs_J, .int x3, .int x4, .int x5, .int x6, gs_J, gs_J, gs_J] [] μ) {x1 : Int32} {x3 : Int32} {x4 : Int32} {x5 : Int32} {x6 : Int32} {μ : gs_M}  (hD : Bo_X12_rests_39 q21 q39 x1 x3 x4 x5 x6 μ = some μ2) : WJ p l e R s m args below meth c 0 0 (MQ below (gs_Q ad g tyc none μ2) args s 0 0 (gs_A ad)) ad g tyc 10 39 [.ref 78, .int x1, gs_J, .int x3, .int x4, .int x5, .int x6, gs_J, gs_J, gs_J] [] μ := by
  unfold Bo_X12_rests_39 at hD
  refine r_iload hK d_X12_rests_39 rfl ?_
  refine r_iconst hK d_X12_rests_41 ci_1 ?_
  refine r_iadd hK d_X12_rests_42 ?_
  refine r_aload_n hK d_X12_rests_43 rfl rfl ?_
  refine r_iload_n hK d_X12_rests_44 rfl rfl ?_
  refine r_iconst hK d_X12_rests_45 ci_0 ?_
  obtain ⟨v3, u2, e1, hD⟩ := bd_e hD
  refine r_callV (As := [.int x1, .int (0 : Int32)]) (st := [.int (x6 + (1 : Int32))]) (stk2 := [.int v3, .int (x6 + (1 : Int32))]) hK (C_X12_of  e1) d_X12_rests_46 mf_X12_of ml_RX12_302 im_X12_of rfl se_11_RX12_X12_of kd_78 rfl (Nat.le_of_ble_eq_true rfl) (by decide) ⟨Nat.zero_le _, Nat.zero_le _⟩ rfl rfl ?_
  refine r_icmp_ge (tgt := 166) hK d_X12_rests_49 (by decide) (fun h4 => ?_) (fun h4 => ?_)
  · have hD := if_t hD h4
    refine r_iinc hK d_X12_rests_166 rfl (v := x5 + (1 : Int32)) (by rw [ci_1]) (by decide) (ls2 := [.ref 78, .int x1, gs_J, .int x3, .int x4, .int (x5 + (1 : Int32)), .int x6, gs_J, gs_J, gs_J]) rfl ?_
    refine r_goto (tgt := 21) hK d_X12_rests_169 (by decide) ?_
    refine r_junk [true, true, false, true, true, true, false, false, false, false] (ls2 := [.ref 78, .int x1, gs_J, .int x3, .int x4, .int (x5 + (1 : Int32)), gs_J, gs_J, gs_J, gs_J]) rfl ?_
    exact hq21 _ _ _ _ _  hD
  · have hD := if_f hD h4
    refine r_aload_n hK d_X12_rests_52 rfl rfl ?_
    refine r_iload_n hK d_X12_rests_53 rfl rfl ?_
    refine r_iload hK d_X12_rests_54 rfl ?_
    obtain ⟨v7, u6, e5, hD⟩ := bd_e hD
    refine r_callV (As := [.int x1, .int x6]) (st := []) (stk2 := [.int v7]) hK (C_X12_tall  e5) d_X12_rests_56 mf_X12_tall ml_RX12_328 im_X12_tall rfl se_11_RX12_X12_tall kd_78 rfl (Nat.le_of_ble_eq_true rfl) (by decide) ⟨Nat.zero_le _, Nat.zero_le _⟩ rfl rfl ?_
    refine r_aload_n hK d_X12_rests_59 rfl rfl ?_
    refine r_iload_n hK d_X12_rests_60 rfl rfl ?_
    refine r_iload hK d_X12_rests_61 rfl ?_
    refine r_iconst hK d_X12_rests_63 ci_1 ?_
    refine r_iadd hK d_X12_rests_64 ?_
    obtain ⟨v10, u9, e8, hD⟩ := bd_e hD
    refine r_callV (As := [.int x1, .int (x6 + (1 : Int32))]) (st := [.int v7]) (stk2 := [.int v10, .int v7]) hK (C_X12_tall  e8) d_X12_rests_65 mf_X12_tall ml_RX12_328 im_X12_tall rfl se_11_RX12_X12_tall kd_78 rfl (Nat.le_of_ble_eq_true rfl) (by decide) ⟨Nat.zero_le _, Nat.zero_le _⟩ rfl rfl ?_
    refine r_isub hK d_X12_rests_68 ?_
    refine r_iload_n hK d_X12_rests_69 rfl rfl ?_
    refine r_iadd hK d_X12_rests_70 ?_
    refine r_lti hD (fun v11 hD => ?_)
    refine r_istore hK d_X12_rests_71 (by decide) (ls2 := [.ref 78, .int x1, gs_J, .int x3, .int x4, .int x5, .int x6, .int v11, gs_J, gs_J]) rfl ?_
    refine r_aload_n hK d_X12_rests_73 rfl rfl ?_
    refine r_iload_n hK d_X12_rests_74 rfl rfl ?_
    obtain ⟨v14, u13, e12, hD⟩ := bd_e hD
    refine r_callV (As := [.int x1]) (st := []) (stk2 := [.int v14]) hK (C_X12_fast  e12) d_X12_rests_75 mf_X12_fast ml_RX12_331 im_X12_fast rfl se_11_RX12_X12_fast kd_78 rfl (Nat.le_of_ble_eq_true rfl) (by decide) ⟨Nat.zero_le _, Nat.zero_le _⟩ rfl rfl ?_
    refine r_istore hK d_X12_rests_78 (by decide) (ls2 := [.ref 78, .int x1, gs_J, .int x3, .int x4, .int x5, .int x6, .int v11, .int v14, gs_J]) rfl ?_
    refine r_iload hK d_X12_rests_80 rfl ?_
    refine r_iload hK d_X12_rests_82 rfl ?_
    refine r_icmp_le (tgt := 109) hK d_X12_rests_84 (by decide) (fun h15 => ?_) (fun h15 => ?_)
    · have hD := if_t hD h15
      refine r_iload hK d_X12_rests_109 rfl ?_
      refine r_iload hK d_X12_rests_111 rfl ?_
      refine r_ineg hK d_X12_rests_113 ?_
      refine r_icmp_ge (tgt := 140) hK d_X12_rests_114 (by decide) (fun h16 => ?_) (fun h16 => ?_)
      · have hD := if_t hD h16
        refine r_iconst hK d_X12_rests_140 ci_0 ?_
        refine r_junk [true, true, false, true, true, true, true, false, false, false] (ls2 := [.ref 78, .int x1, gs_J, .int x3, .int x4, .int x5, .int x6, gs_J, gs_J, gs_J]) rfl ?_
        exact T_X12_rests_141 hK hq21 hq39  hD
      · have hD := if_f hD h16
        refine r_aload_n hK d_X12_rests_117 rfl rfl ?_
        refine r_iload_n hK d_X12_rests_118 rfl rfl ?_
        refine r_iload hK d_X12_rests_119 rfl ?_
        refine r_iconst hK d_X12_rests_121 ci_1 ?_
        refine r_iadd hK d_X12_rests_122 ?_
        refine r_iload hK d_X12_rests_123 rfl ?_
        refine r_iload hK d_X12_rests_125 rfl ?_
        refine r_ineg hK d_X12_rests_127 ?_
        refine r_iload hK d_X12_rests_128 rfl ?_
        refine r_isub hK d_X12_rests_130 ?_
        refine r_bipush hK d_X12_rests_131 cb_20 ?_
        refine r_idiv hK d_X12_rests_133 (by decide) ?_
        obtain ⟨v19, u18, e17, hD⟩ := bd_e hD
        refine r_callV (As := [.int x1, .int (x6 + (1 : Int32)), .int x6, .int (((-v11) - v14) / (20 : Int32))]) (st := []) (stk2 := [.int v19]) hK (C_X12_moves  e17) d_X12_rests_134 mf_X12_moves ml_RX12_334 im_X12_moves rfl se_11_RX12_X12_moves kd_78 rfl (Nat.le_of_ble_eq_true rfl) (by decide) ⟨Nat.zero_le _, Nat.zero_le _⟩ rfl rfl ?_
        refine r_goto (tgt := 141) hK d_X12_rests_137 (by decide) ?_
        refine r_junk [true, true, false, true, true, true, true, false, false, false] (ls2 := [.ref 78, .int x1, gs_J, .int x3, .int x4, .int x5, .int x6, gs_J, gs_J, gs_J]) rfl ?_
        exact T_X12_rests_141 hK hq21 hq39  hD
    · have hD := if_f hD h15
      refine r_aload_n hK d_X12_rests_87 rfl rfl ?_
      refine r_iload_n hK d_X12_rests_88 rfl rfl ?_
      refine r_iload hK d_X12_rests_89 rfl ?_
      refine r_iload hK d_X12_rests_91 rfl ?_
      refine r_iconst hK d_X12_rests_93 ci_1 ?_
      refine r_iadd hK d_X12_rests_94 ?_
      refine r_iload hK d_X12_rests_95 rfl ?_
      refine r_iload hK d_X12_rests_97 rfl ?_
      refine r_isub hK d_X12_rests_99 ?_
      refine r_bipush hK d_X12_rests_100 cb_20 ?_
      refine r_idiv hK d_X12_rests_102 (by decide) ?_
      obtain ⟨v22, u21, e20, hD⟩ := bd_e hD
      refine r_callV (As := [.int x1, .int x6, .int (x6 + (1 : Int32)), .int ((v11 - v14) / (20 : Int32))]) (st := []) (stk2 := [.int v22]) hK (C_X12_moves  e20) d_X12_rests_103 mf_X12_moves ml_RX12_334 im_X12_moves rfl se_11_RX12_X12_moves kd_78 rfl (Nat.le_of_ble_eq_true rfl) (by decide) ⟨Nat.zero_le _, Nat.zero_le _⟩ rfl rfl ?_
      refine r_goto (tgt := 141) hK d_X12_rests_106 (by decide) ?_
      refine r_junk [true, true, false, true, true, true, true, false, false, false] (ls2 := [.ref 78, .int x1, gs_J, .int x3, .int x4, .int x5, .int x6, gs_J, gs_J, gs_J]) rfl ?_
      exact T_X12_rests_141 hK hq21 hq39  hD
set_option maxRecDepth 20000 in
theorem TL_X12_rests_39  (hK : KC p R s m args meth c ad g tyc RX12 cX12_rests 10 none 4) {μ2 : gs_M} {q21 : Int32 → Int32 → Int32 → Int32 → gs_M → Option (gs_M)} (hq21 : ∀ (x1 : Int32) (x3 : Int32) (x4 : Int32) (x5 : Int32) (μ : gs_M), q21 x1 x3 x4 x5 μ = some μ2 → WJ p l e R s m args below meth c 0 0 (MQ below (gs_Q ad g tyc none μ2) args s 0 0 (gs_A ad)) ad g tyc 10 21 [.ref 78, .int x1, gs_J, .int x3, .int x4, .int x5, gs_J, gs_J, gs_J, gs_J] [] μ) : ∀ (n : Nat) (x1 : Int32) (x3 : Int32) (x4 : Int32) (x5 : Int32) (x6 : Int32) (μ : gs_M), L_X12_rests_39 q21 n x1 x3 x4 x5 x6 μ = some μ2 → WJ p l e R s m args below meth c 0 0 (MQ below (gs_Q ad g tyc none μ2) args s 0 0 (gs_A ad)) ad g tyc 10 39 [.ref 78, .int x1, gs_J, .int x3, .int x4, .int x5, .int x6, gs_J, gs_J, gs_J] [] μ := by
  intro n
  induction n with
  | zero => intro x1 x3 x4 x5 x6 μ  hD; cases hD
  | succ n ih => intro x1 x3 x4 x5 x6 μ  hD; exact To_X12_rests_39 hK hq21 ih  hD
set_option maxRecDepth 20000 in
theorem To_X12_rests_21  (hK : KC p R s m args meth c ad g tyc RX12 cX12_rests 10 none 4) {μ2 : gs_M} {q21 : Int32 → Int32 → Int32 → Int32 → gs_M → Option (gs_M)} (hq21 : ∀ (x1 : Int32) (x3 : Int32) (x4 : Int32) (x5 : Int32) (μ : gs_M), q21 x1 x3 x4 x5 μ = some μ2 → WJ p l e R s m args below meth c 0 0 (MQ below (gs_Q ad g tyc none μ2) args s 0 0 (gs_A ad)) ad g tyc 10 21 [.ref 78, .int x1, gs_J, .int x3, .int x4, .int x5, gs_J, gs_J, gs_J, gs_J] [] μ) {x1 : Int32} {x3 : Int32} {x4 : Int32} {x5 : Int32} {μ : gs_M}  (hD : Bo_X12_rests_21 q21 x1 x3 x4 x5 μ = some μ2) : WJ p l e R s m args below meth c 0 0 (MQ below (gs_Q ad g tyc none μ2) args s 0 0 (gs_A ad)) ad g tyc 10 21 [.ref 78, .int x1, gs_J, .int x3, .int x4, .int x5, gs_J, gs_J, gs_J, gs_J] [] μ := by
  unfold Bo_X12_rests_21 at hD
  refine r_iload hK d_X12_rests_21 rfl ?_
  refine r_bipush hK d_X12_rests_23 cb_12 ?_
  refine r_icmp_ge (tgt := 172) hK d_X12_rests_25 (by decide) (fun h1 => ?_) (fun h1 => ?_)
  · have hD := if_t hD h1
    cases hD
    exact r_vret hK d_X12_rests_172
  · have hD := if_f hD h1
    refine r_iload hK d_X12_rests_28 rfl ?_
    refine r_if_eq (tgt := 172) hK d_X12_rests_30 (by decide) (fun h2 => ?_) (fun h2 => ?_)
    · have hD := if_t hD h2
      cases hD
      exact r_vret hK d_X12_rests_172
    · have hD := if_f hD h2
      refine r_iconst hK d_X12_rests_33 ci_0 ?_
      refine r_istore hK d_X12_rests_34 (by decide) (ls2 := [.ref 78, .int x1, gs_J, .int x3, .int (0 : Int32), .int x5, gs_J, gs_J, gs_J, gs_J]) rfl ?_
      refine r_iconst hK d_X12_rests_36 ci_0 ?_
      refine r_istore hK d_X12_rests_37 (by decide) (ls2 := [.ref 78, .int x1, gs_J, .int x3, .int (0 : Int32), .int x5, .int (0 : Int32), gs_J, gs_J, gs_J]) rfl ?_
      exact TL_X12_rests_39 hK hq21 _ _ _ _ _ _ _  hD
set_option maxRecDepth 20000 in
theorem TL_X12_rests_21  (hK : KC p R s m args meth c ad g tyc RX12 cX12_rests 10 none 4) {μ2 : gs_M}   : ∀ (n : Nat) (x1 : Int32) (x3 : Int32) (x4 : Int32) (x5 : Int32) (μ : gs_M), L_X12_rests_21  n x1 x3 x4 x5 μ = some μ2 → WJ p l e R s m args below meth c 0 0 (MQ below (gs_Q ad g tyc none μ2) args s 0 0 (gs_A ad)) ad g tyc 10 21 [.ref 78, .int x1, gs_J, .int x3, .int x4, .int x5, gs_J, gs_J, gs_J, gs_J] [] μ := by
  intro n
  induction n with
  | zero => intro x1 x3 x4 x5 μ  hD; cases hD
  | succ n ih => intro x1 x3 x4 x5 μ  hD; exact To_X12_rests_21 hK  ih  hD
set_option maxRecDepth 20000 in
theorem C_X12_rests  {x1 : Int32} {x2 : Int32} {μ : gs_M} {μ2 : gs_M}  (hD : D_X12_rests x1 x2 μ = some μ2) : CALL yX12_rests cX12_rests 10 none 4 [.ref 78, .int x1, .int x2] μ none μ2 := by
  unfold D_X12_rests at hD
  refine gs_enter mf_X12_rests (Nat.le_of_ble_eq_true rfl) (ls := [.ref 78, .int x1, .int x2, gs_J, gs_J, gs_J, gs_J, gs_J, gs_J, gs_J]) rfl (fun p l e R s m args below meth c ad g tyc hK => ?_)
  have hK : KC p R s m args meth c ad g tyc RX12 cX12_rests 10 none 4 := hK
  refine r_bipush hK d_X12_rests_0 cb_10 ?_
  refine r_bipush hK d_X12_rests_2 cb_m60 ?_
  refine r_bipush hK d_X12_rests_4 cb_60 ?_
  refine r_iload_n hK d_X12_rests_6 rfl rfl ?_
  refine r_mmin hK d_X12_rests_7 mm_RX12_314 ms_min mi_0 mc_min (Nat.le_of_ble_eq_true rfl) (by decide) ⟨Nat.zero_le _, Nat.zero_le _⟩ ?_
  refine r_lti hD (fun v1 hD => ?_)
  refine r_mmax hK d_X12_rests_10 mm_RX12_316 ms_max mi_0 mc_max (Nat.le_of_ble_eq_true rfl) (by decide) ⟨Nat.zero_le _, Nat.zero_le _⟩ ?_
  refine r_lti hD (fun v2 hD => ?_)
  refine r_imul hK d_X12_rests_13 ?_
  refine r_lti hD (fun v3 hD => ?_)
  refine r_istore_n hK d_X12_rests_14 rfl (by decide) (ls2 := [.ref 78, .int x1, .int x2, .int v3, gs_J, gs_J, gs_J, gs_J, gs_J, gs_J]) rfl ?_
  refine r_iconst hK d_X12_rests_15 ci_1 ?_
  refine r_istore hK d_X12_rests_16 (by decide) (ls2 := [.ref 78, .int x1, .int x2, .int v3, .int (1 : Int32), gs_J, gs_J, gs_J, gs_J, gs_J]) rfl ?_
  refine r_iconst hK d_X12_rests_18 ci_0 ?_
  refine r_istore hK d_X12_rests_19 (by decide) (ls2 := [.ref 78, .int x1, .int x2, .int v3, .int (1 : Int32), .int (0 : Int32), gs_J, gs_J, gs_J, gs_J]) rfl ?_
  refine r_junk [true, true, false, true, true, true, false, false, false, false] (ls2 := [.ref 78, .int x1, gs_J, .int v3, .int (1 : Int32), .int (0 : Int32), gs_J, gs_J, gs_J, gs_J]) rfl ?_
  exact TL_X12_rests_21 hK  _ _ _ _ _ _  hD
end S_X12_rests
theorem d_X12_momentOf_0 : gd cX12_momentOf 0 (.iconst 0) 1 1 := ⟨by decide +kernel, rfl⟩
theorem d_X12_momentOf_1 : gd cX12_momentOf 1 (.istore_n 2) 1 2 := ⟨by decide +kernel, rfl⟩
theorem d_X12_momentOf_2 : gd cX12_momentOf 2 (.iconst 0) 1 3 := ⟨by decide +kernel, rfl⟩
theorem d_X12_momentOf_3 : gd cX12_momentOf 3 (.istore_n 3) 1 4 := ⟨by decide +kernel, rfl⟩
theorem d_X12_momentOf_4 : gd cX12_momentOf 4 (.iload_n 3) 1 5 := ⟨by decide +kernel, rfl⟩
theorem d_X12_momentOf_5 : gd cX12_momentOf 5 (.aload_n 0) 1 6 := ⟨by decide +kernel, rfl⟩
theorem d_X12_momentOf_6 : gd cX12_momentOf 6 (.iload_n 1) 1 7 := ⟨by decide +kernel, rfl⟩
theorem d_X12_momentOf_7 : gd cX12_momentOf 7 (.iconst 0) 1 8 := ⟨by decide +kernel, rfl⟩
theorem d_X12_momentOf_8 : gd cX12_momentOf 8 (.invokevirtual 302) 3 11 := ⟨by decide +kernel, rfl⟩
theorem d_X12_momentOf_11 : gd cX12_momentOf 11 (.if_icmp .ge 43) 3 14 := ⟨by decide +kernel, rfl⟩
theorem d_X12_momentOf_14 : gd cX12_momentOf 14 (.iload_n 2) 1 15 := ⟨by decide +kernel, rfl⟩
theorem d_X12_momentOf_15 : gd cX12_momentOf 15 (.aload_n 0) 1 16 := ⟨by decide +kernel, rfl⟩
theorem d_X12_momentOf_16 : gd cX12_momentOf 16 (.iload_n 1) 1 17 := ⟨by decide +kernel, rfl⟩
theorem d_X12_momentOf_17 : gd cX12_momentOf 17 (.iload_n 3) 1 18 := ⟨by decide +kernel, rfl⟩
theorem d_X12_momentOf_18 : gd cX12_momentOf 18 (.invokevirtual 305) 3 21 := ⟨by decide +kernel, rfl⟩
theorem d_X12_momentOf_21 : gd cX12_momentOf 21 (.aload_n 0) 1 22 := ⟨by decide +kernel, rfl⟩
theorem d_X12_momentOf_22 : gd cX12_momentOf 22 (.aload_n 0) 1 23 := ⟨by decide +kernel, rfl⟩
theorem d_X12_momentOf_23 : gd cX12_momentOf 23 (.iload_n 1) 1 24 := ⟨by decide +kernel, rfl⟩
theorem d_X12_momentOf_24 : gd cX12_momentOf 24 (.iconst 2) 1 25 := ⟨by decide +kernel, rfl⟩
theorem d_X12_momentOf_25 : gd cX12_momentOf 25 (.invokevirtual 302) 3 28 := ⟨by decide +kernel, rfl⟩
theorem d_X12_momentOf_28 : gd cX12_momentOf 28 (.iconst 4) 1 29 := ⟨by decide +kernel, rfl⟩
theorem d_X12_momentOf_29 : gd cX12_momentOf 29 (.invokevirtual 280) 3 32 := ⟨by decide +kernel, rfl⟩
theorem d_X12_momentOf_32 : gd cX12_momentOf 32 .imul 1 33 := ⟨by decide +kernel, rfl⟩
theorem d_X12_momentOf_33 : gd cX12_momentOf 33 (.iconst 2) 1 34 := ⟨by decide +kernel, rfl⟩
theorem d_X12_momentOf_34 : gd cX12_momentOf 34 (.iload_n 3) 1 35 := ⟨by decide +kernel, rfl⟩
theorem d_X12_momentOf_35 : gd cX12_momentOf 35 .imul 1 36 := ⟨by decide +kernel, rfl⟩
theorem d_X12_momentOf_36 : gd cX12_momentOf 36 (.iconst 1) 1 37 := ⟨by decide +kernel, rfl⟩
theorem d_X12_momentOf_37 : gd cX12_momentOf 37 .iadd 1 38 := ⟨by decide +kernel, rfl⟩
theorem d_X12_momentOf_38 : gd cX12_momentOf 38 (.aload_n 0) 1 39 := ⟨by decide +kernel, rfl⟩
theorem d_X12_momentOf_39 : gd cX12_momentOf 39 (.iload_n 1) 1 40 := ⟨by decide +kernel, rfl⟩
theorem d_X12_momentOf_40 : gd cX12_momentOf 40 (.iconst 0) 1 41 := ⟨by decide +kernel, rfl⟩
theorem d_X12_momentOf_41 : gd cX12_momentOf 41 (.invokevirtual 302) 3 44 := ⟨by decide +kernel, rfl⟩
theorem d_X12_momentOf_44 : gd cX12_momentOf 44 .isub 1 45 := ⟨by decide +kernel, rfl⟩
theorem d_X12_momentOf_45 : gd cX12_momentOf 45 .imul 1 46 := ⟨by decide +kernel, rfl⟩
theorem d_X12_momentOf_46 : gd cX12_momentOf 46 .iadd 1 47 := ⟨by decide +kernel, rfl⟩
theorem d_X12_momentOf_47 : gd cX12_momentOf 47 (.istore_n 2) 1 48 := ⟨by decide +kernel, rfl⟩
theorem d_X12_momentOf_48 : gd cX12_momentOf 48 (.iinc 3 1) 3 51 := ⟨by decide +kernel, rfl⟩
theorem d_X12_momentOf_51 : gd cX12_momentOf 51 (.goto (-47)) 3 54 := ⟨by decide +kernel, rfl⟩
theorem d_X12_momentOf_54 : gd cX12_momentOf 54 (.iload_n 2) 1 55 := ⟨by decide +kernel, rfl⟩
theorem d_X12_momentOf_55 : gd cX12_momentOf 55 .ireturn 1 56 := ⟨by decide +kernel, rfl⟩
def Bo_X12_momentOf_4 (q4 : Int32 → Int32 → Int32 → gs_M → Option (Int32 × gs_M)) (x1 : Int32) (x2 : Int32) (x3 : Int32) (μ : gs_M) : Option (Int32 × gs_M) :=
  bd (D_X12_of x1 (0 : Int32) μ) (fun v3 u2 => if v3 ≤ x3 then (some (x2, u2)) else (bd (D_X12_units x1 x3 u2) (fun v7 u6 => bd (D_X12_of x1 (2 : Int32) u6) (fun v10 u9 => bd (D_X12_partOf v10 (4 : Int32) u9) (fun v13 u12 => bd (D_X12_of x1 (0 : Int32) u12) (fun v16 u15 => lt1 (x2 + ((v7 * v13) * ((((2 : Int32) * x3) + (1 : Int32)) - v16))) (fun v17 => q4 x1 v17 (x3 + (1 : Int32)) u15)))))))
def L_X12_momentOf_4  : Nat → Int32 → Int32 → Int32 → gs_M → Option (Int32 × gs_M)
  | 0 => fun _ _ _ _ => none
  | n + 1 => fun x1 x2 x3 μ => Bo_X12_momentOf_4  (L_X12_momentOf_4  n) x1 x2 x3 μ
def D_X12_momentOf (x1 : Int32) (μ : gs_M) : Option (Int32 × gs_M) :=
  L_X12_momentOf_4 4096 x1 (0 : Int32) (0 : Int32) μ
section S_X12_momentOf
variable {p : Program} {l : Launch} {e : Env} {R : Room} {s : State} {m : MethodId} {args : Array Value} {below : List Frame} {meth : Method} {c : Code} {ad : Nat → Nat} {g : va_G} {tyc : Nat → ClassId}
set_option maxRecDepth 20000 in
theorem To_X12_momentOf_4  (hK : KC p R s m args meth c ad g tyc RX12 cX12_momentOf 4 (some .int) 2) {r : Int32} {μ2 : gs_M} {q4 : Int32 → Int32 → Int32 → gs_M → Option (Int32 × gs_M)} (hq4 : ∀ (x1 : Int32) (x2 : Int32) (x3 : Int32) (μ : gs_M), q4 x1 x2 x3 μ = some (r, μ2) → WJ p l e R s m args below meth c 0 0 (MQ below (gs_Q ad g tyc (some (.int r)) μ2) args s 0 0 (gs_A ad)) ad g tyc 4 4 [.ref 78, .int x1, .int x2, .int x3] [] μ) {x1 : Int32} {x2 : Int32} {x3 : Int32} {μ : gs_M}  (hD : Bo_X12_momentOf_4 q4 x1 x2 x3 μ = some (r, μ2)) : WJ p l e R s m args below meth c 0 0 (MQ below (gs_Q ad g tyc (some (.int r)) μ2) args s 0 0 (gs_A ad)) ad g tyc 4 4 [.ref 78, .int x1, .int x2, .int x3] [] μ := by
  unfold Bo_X12_momentOf_4 at hD
  refine r_iload_n hK d_X12_momentOf_4 rfl rfl ?_
  refine r_aload_n hK d_X12_momentOf_5 rfl rfl ?_
  refine r_iload_n hK d_X12_momentOf_6 rfl rfl ?_
  refine r_iconst hK d_X12_momentOf_7 ci_0 ?_
  obtain ⟨v3, u2, e1, hD⟩ := bd_e hD
  refine r_callV (As := [.int x1, .int (0 : Int32)]) (st := [.int x3]) (stk2 := [.int v3, .int x3]) hK (C_X12_of  e1) d_X12_momentOf_8 mf_X12_of ml_RX12_302 im_X12_of rfl se_11_RX12_X12_of kd_78 rfl (Nat.le_of_ble_eq_true rfl) (by decide) ⟨Nat.zero_le _, Nat.zero_le _⟩ rfl rfl ?_
  refine r_icmp_ge (tgt := 54) hK d_X12_momentOf_11 (by decide) (fun h4 => ?_) (fun h4 => ?_)
  · have hD := if_t hD h4
    refine r_iload_n hK d_X12_momentOf_54 rfl rfl ?_
    cases hD
    exact r_iret hK d_X12_momentOf_55
  · have hD := if_f hD h4
    refine r_iload_n hK d_X12_momentOf_14 rfl rfl ?_
    refine r_aload_n hK d_X12_momentOf_15 rfl rfl ?_
    refine r_iload_n hK d_X12_momentOf_16 rfl rfl ?_
    refine r_iload_n hK d_X12_momentOf_17 rfl rfl ?_
    obtain ⟨v7, u6, e5, hD⟩ := bd_e hD
    refine r_callV (As := [.int x1, .int x3]) (st := [.int x2]) (stk2 := [.int v7, .int x2]) hK (C_X12_units  e5) d_X12_momentOf_18 mf_X12_units ml_RX12_305 im_X12_units rfl se_11_RX12_X12_units kd_78 rfl (Nat.le_of_ble_eq_true rfl) (by decide) ⟨Nat.zero_le _, Nat.zero_le _⟩ rfl rfl ?_
    refine r_aload_n hK d_X12_momentOf_21 rfl rfl ?_
    refine r_aload_n hK d_X12_momentOf_22 rfl rfl ?_
    refine r_iload_n hK d_X12_momentOf_23 rfl rfl ?_
    refine r_iconst hK d_X12_momentOf_24 ci_2 ?_
    obtain ⟨v10, u9, e8, hD⟩ := bd_e hD
    refine r_callV (As := [.int x1, .int (2 : Int32)]) (st := [.ref 78, .int v7, .int x2]) (stk2 := [.int v10, .ref 78, .int v7, .int x2]) hK (C_X12_of  e8) d_X12_momentOf_25 mf_X12_of ml_RX12_302 im_X12_of rfl se_11_RX12_X12_of kd_78 rfl (Nat.le_of_ble_eq_true rfl) (by decide) ⟨Nat.zero_le _, Nat.zero_le _⟩ rfl rfl ?_
    refine r_iconst hK d_X12_momentOf_28 ci_4 ?_
    obtain ⟨v13, u12, e11, hD⟩ := bd_e hD
    refine r_callV (As := [.int v10, .int (4 : Int32)]) (st := [.int v7, .int x2]) (stk2 := [.int v13, .int v7, .int x2]) hK (C_X12_partOf  e11) d_X12_momentOf_29 mf_X12_partOf ml_RX12_280 im_X12_partOf rfl se_11_RX12_X12_partOf kd_78 rfl (Nat.le_of_ble_eq_true rfl) (by decide) ⟨Nat.zero_le _, Nat.zero_le _⟩ rfl rfl ?_
    refine r_imul hK d_X12_momentOf_32 ?_
    refine r_iconst hK d_X12_momentOf_33 ci_2 ?_
    refine r_iload_n hK d_X12_momentOf_34 rfl rfl ?_
    refine r_imul hK d_X12_momentOf_35 ?_
    refine r_iconst hK d_X12_momentOf_36 ci_1 ?_
    refine r_iadd hK d_X12_momentOf_37 ?_
    refine r_aload_n hK d_X12_momentOf_38 rfl rfl ?_
    refine r_iload_n hK d_X12_momentOf_39 rfl rfl ?_
    refine r_iconst hK d_X12_momentOf_40 ci_0 ?_
    obtain ⟨v16, u15, e14, hD⟩ := bd_e hD
    refine r_callV (As := [.int x1, .int (0 : Int32)]) (st := [.int (((2 : Int32) * x3) + (1 : Int32)), .int (v7 * v13), .int x2]) (stk2 := [.int v16, .int (((2 : Int32) * x3) + (1 : Int32)), .int (v7 * v13), .int x2]) hK (C_X12_of  e14) d_X12_momentOf_41 mf_X12_of ml_RX12_302 im_X12_of rfl se_11_RX12_X12_of kd_78 rfl (Nat.le_of_ble_eq_true rfl) (by decide) ⟨Nat.zero_le _, Nat.zero_le _⟩ rfl rfl ?_
    refine r_isub hK d_X12_momentOf_44 ?_
    refine r_imul hK d_X12_momentOf_45 ?_
    refine r_iadd hK d_X12_momentOf_46 ?_
    refine r_lti hD (fun v17 hD => ?_)
    refine r_istore_n hK d_X12_momentOf_47 rfl (by decide) (ls2 := [.ref 78, .int x1, .int v17, .int x3]) rfl ?_
    refine r_iinc hK d_X12_momentOf_48 rfl (v := x3 + (1 : Int32)) (by rw [ci_1]) (by decide) (ls2 := [.ref 78, .int x1, .int v17, .int (x3 + (1 : Int32))]) rfl ?_
    refine r_goto (tgt := 4) hK d_X12_momentOf_51 (by decide) ?_
    exact hq4 _ _ _ _  hD
set_option maxRecDepth 20000 in
theorem TL_X12_momentOf_4  (hK : KC p R s m args meth c ad g tyc RX12 cX12_momentOf 4 (some .int) 2) {r : Int32} {μ2 : gs_M}   : ∀ (n : Nat) (x1 : Int32) (x2 : Int32) (x3 : Int32) (μ : gs_M), L_X12_momentOf_4  n x1 x2 x3 μ = some (r, μ2) → WJ p l e R s m args below meth c 0 0 (MQ below (gs_Q ad g tyc (some (.int r)) μ2) args s 0 0 (gs_A ad)) ad g tyc 4 4 [.ref 78, .int x1, .int x2, .int x3] [] μ := by
  intro n
  induction n with
  | zero => intro x1 x2 x3 μ  hD; cases hD
  | succ n ih => intro x1 x2 x3 μ  hD; exact To_X12_momentOf_4 hK  ih  hD
set_option maxRecDepth 20000 in
theorem C_X12_momentOf  {x1 : Int32} {μ : gs_M} {r : Int32} {μ2 : gs_M}  (hD : D_X12_momentOf x1 μ = some (r, μ2)) : CALL yX12_momentOf cX12_momentOf 4 (some .int) 2 [.ref 78, .int x1] μ (some (.int r)) μ2 := by
  unfold D_X12_momentOf at hD
  refine gs_enter mf_X12_momentOf (Nat.le_of_ble_eq_true rfl) (ls := [.ref 78, .int x1, gs_J, gs_J]) rfl (fun p l e R s m args below meth c ad g tyc hK => ?_)
  have hK : KC p R s m args meth c ad g tyc RX12 cX12_momentOf 4 (some .int) 2 := hK
  refine r_iconst hK d_X12_momentOf_0 ci_0 ?_
  refine r_istore_n hK d_X12_momentOf_1 rfl (by decide) (ls2 := [.ref 78, .int x1, .int (0 : Int32), gs_J]) rfl ?_
  refine r_iconst hK d_X12_momentOf_2 ci_0 ?_
  refine r_istore_n hK d_X12_momentOf_3 rfl (by decide) (ls2 := [.ref 78, .int x1, .int (0 : Int32), .int (0 : Int32)]) rfl ?_
  exact TL_X12_momentOf_4 hK  _ _ _ _ _  hD
end S_X12_momentOf
theorem d_X12_moments_0 : gd cX12_moments 0 (.iconst 0) 1 1 := ⟨by decide +kernel, rfl⟩
theorem d_X12_moments_1 : gd cX12_moments 1 (.istore_n 1) 1 2 := ⟨by decide +kernel, rfl⟩
theorem d_X12_moments_2 : gd cX12_moments 2 (.iconst 0) 1 3 := ⟨by decide +kernel, rfl⟩
theorem d_X12_moments_3 : gd cX12_moments 3 (.istore_n 2) 1 4 := ⟨by decide +kernel, rfl⟩
theorem d_X12_moments_4 : gd cX12_moments 4 (.iload_n 2) 1 5 := ⟨by decide +kernel, rfl⟩
theorem d_X12_moments_5 : gd cX12_moments 5 (.aload_n 0) 1 6 := ⟨by decide +kernel, rfl⟩
theorem d_X12_moments_6 : gd cX12_moments 6 (.bipush 76) 2 8 := ⟨by decide +kernel, rfl⟩
theorem d_X12_moments_8 : gd cX12_moments 8 (.invokevirtual 337) 3 11 := ⟨by decide +kernel, rfl⟩
theorem d_X12_moments_11 : gd cX12_moments 11 (.if_icmp .ge 17) 3 14 := ⟨by decide +kernel, rfl⟩
theorem d_X12_moments_14 : gd cX12_moments 14 (.iload_n 1) 1 15 := ⟨by decide +kernel, rfl⟩
theorem d_X12_moments_15 : gd cX12_moments 15 (.aload_n 0) 1 16 := ⟨by decide +kernel, rfl⟩
theorem d_X12_moments_16 : gd cX12_moments 16 (.iload_n 2) 1 17 := ⟨by decide +kernel, rfl⟩
theorem d_X12_moments_17 : gd cX12_moments 17 (.invokevirtual 340) 3 20 := ⟨by decide +kernel, rfl⟩
theorem d_X12_moments_20 : gd cX12_moments 20 .iadd 1 21 := ⟨by decide +kernel, rfl⟩
theorem d_X12_moments_21 : gd cX12_moments 21 (.istore_n 1) 1 22 := ⟨by decide +kernel, rfl⟩
theorem d_X12_moments_22 : gd cX12_moments 22 (.iinc 2 1) 3 25 := ⟨by decide +kernel, rfl⟩
theorem d_X12_moments_25 : gd cX12_moments 25 (.goto (-21)) 3 28 := ⟨by decide +kernel, rfl⟩
theorem d_X12_moments_28 : gd cX12_moments 28 (.iload_n 1) 1 29 := ⟨by decide +kernel, rfl⟩
theorem d_X12_moments_29 : gd cX12_moments 29 .ireturn 1 30 := ⟨by decide +kernel, rfl⟩
def Bo_X12_moments_4 (q4 : Int32 → Int32 → gs_M → Option (Int32 × gs_M)) (x1 : Int32) (x2 : Int32) (μ : gs_M) : Option (Int32 × gs_M) :=
  bd (D_X12_now (76 : Int32) μ) (fun v3 u2 => if v3 ≤ x2 then (some (x1, u2)) else (bd (D_X12_momentOf x2 u2) (fun v7 u6 => lt1 (x1 + v7) (fun v8 => q4 v8 (x2 + (1 : Int32)) u6))))
def L_X12_moments_4  : Nat → Int32 → Int32 → gs_M → Option (Int32 × gs_M)
  | 0 => fun _ _ _ => none
  | n + 1 => fun x1 x2 μ => Bo_X12_moments_4  (L_X12_moments_4  n) x1 x2 μ
def D_X12_moments  (μ : gs_M) : Option (Int32 × gs_M) :=
  L_X12_moments_4 4096 (0 : Int32) (0 : Int32) μ
section S_X12_moments
variable {p : Program} {l : Launch} {e : Env} {R : Room} {s : State} {m : MethodId} {args : Array Value} {below : List Frame} {meth : Method} {c : Code} {ad : Nat → Nat} {g : va_G} {tyc : Nat → ClassId}
set_option maxRecDepth 20000 in
theorem To_X12_moments_4  (hK : KC p R s m args meth c ad g tyc RX12 cX12_moments 3 (some .int) 3) {r : Int32} {μ2 : gs_M} {q4 : Int32 → Int32 → gs_M → Option (Int32 × gs_M)} (hq4 : ∀ (x1 : Int32) (x2 : Int32) (μ : gs_M), q4 x1 x2 μ = some (r, μ2) → WJ p l e R s m args below meth c 0 0 (MQ below (gs_Q ad g tyc (some (.int r)) μ2) args s 0 0 (gs_A ad)) ad g tyc 3 4 [.ref 78, .int x1, .int x2] [] μ) {x1 : Int32} {x2 : Int32} {μ : gs_M}  (hD : Bo_X12_moments_4 q4 x1 x2 μ = some (r, μ2)) : WJ p l e R s m args below meth c 0 0 (MQ below (gs_Q ad g tyc (some (.int r)) μ2) args s 0 0 (gs_A ad)) ad g tyc 3 4 [.ref 78, .int x1, .int x2] [] μ := by
  unfold Bo_X12_moments_4 at hD
  refine r_iload_n hK d_X12_moments_4 rfl rfl ?_
  refine r_aload_n hK d_X12_moments_5 rfl rfl ?_
  refine r_bipush hK d_X12_moments_6 cb_76 ?_
  obtain ⟨v3, u2, e1, hD⟩ := bd_e hD
  refine r_callV (As := [.int (76 : Int32)]) (st := [.int x2]) (stk2 := [.int v3, .int x2]) hK (C_X12_now  e1) d_X12_moments_8 mf_X12_now ml_RX12_337 im_X12_now rfl se_11_RX12_X12_now kd_78 rfl (Nat.le_of_ble_eq_true rfl) (by decide) ⟨Nat.zero_le _, Nat.zero_le _⟩ rfl rfl ?_
  refine r_icmp_ge (tgt := 28) hK d_X12_moments_11 (by decide) (fun h4 => ?_) (fun h4 => ?_)
  · have hD := if_t hD h4
    refine r_iload_n hK d_X12_moments_28 rfl rfl ?_
    cases hD
    exact r_iret hK d_X12_moments_29
  · have hD := if_f hD h4
    refine r_iload_n hK d_X12_moments_14 rfl rfl ?_
    refine r_aload_n hK d_X12_moments_15 rfl rfl ?_
    refine r_iload_n hK d_X12_moments_16 rfl rfl ?_
    obtain ⟨v7, u6, e5, hD⟩ := bd_e hD
    refine r_callV (As := [.int x2]) (st := [.int x1]) (stk2 := [.int v7, .int x1]) hK (C_X12_momentOf  e5) d_X12_moments_17 mf_X12_momentOf ml_RX12_340 im_X12_momentOf rfl se_11_RX12_X12_momentOf kd_78 rfl (Nat.le_of_ble_eq_true rfl) (by decide) ⟨Nat.zero_le _, Nat.zero_le _⟩ rfl rfl ?_
    refine r_iadd hK d_X12_moments_20 ?_
    refine r_lti hD (fun v8 hD => ?_)
    refine r_istore_n hK d_X12_moments_21 rfl (by decide) (ls2 := [.ref 78, .int v8, .int x2]) rfl ?_
    refine r_iinc hK d_X12_moments_22 rfl (v := x2 + (1 : Int32)) (by rw [ci_1]) (by decide) (ls2 := [.ref 78, .int v8, .int (x2 + (1 : Int32))]) rfl ?_
    refine r_goto (tgt := 4) hK d_X12_moments_25 (by decide) ?_
    exact hq4 _ _ _  hD
set_option maxRecDepth 20000 in
theorem TL_X12_moments_4  (hK : KC p R s m args meth c ad g tyc RX12 cX12_moments 3 (some .int) 3) {r : Int32} {μ2 : gs_M}   : ∀ (n : Nat) (x1 : Int32) (x2 : Int32) (μ : gs_M), L_X12_moments_4  n x1 x2 μ = some (r, μ2) → WJ p l e R s m args below meth c 0 0 (MQ below (gs_Q ad g tyc (some (.int r)) μ2) args s 0 0 (gs_A ad)) ad g tyc 3 4 [.ref 78, .int x1, .int x2] [] μ := by
  intro n
  induction n with
  | zero => intro x1 x2 μ  hD; cases hD
  | succ n ih => intro x1 x2 μ  hD; exact To_X12_moments_4 hK  ih  hD
set_option maxRecDepth 20000 in
theorem C_X12_moments   {μ : gs_M} {r : Int32} {μ2 : gs_M}  (hD : D_X12_moments  μ = some (r, μ2)) : CALL yX12_moments cX12_moments 3 (some .int) 3 [.ref 78] μ (some (.int r)) μ2 := by
  unfold D_X12_moments at hD
  refine gs_enter mf_X12_moments (Nat.le_of_ble_eq_true rfl) (ls := [.ref 78, gs_J, gs_J]) rfl (fun p l e R s m args below meth c ad g tyc hK => ?_)
  have hK : KC p R s m args meth c ad g tyc RX12 cX12_moments 3 (some .int) 3 := hK
  refine r_iconst hK d_X12_moments_0 ci_0 ?_
  refine r_istore_n hK d_X12_moments_1 rfl (by decide) (ls2 := [.ref 78, .int (0 : Int32), gs_J]) rfl ?_
  refine r_iconst hK d_X12_moments_2 ci_0 ?_
  refine r_istore_n hK d_X12_moments_3 rfl (by decide) (ls2 := [.ref 78, .int (0 : Int32), .int (0 : Int32)]) rfl ?_
  exact TL_X12_moments_4 hK  _ _ _ _  hD
end S_X12_moments
theorem d_X12_lean_0 : gd cX12_lean 0 (.aload_n 0) 1 1 := ⟨by decide +kernel, rfl⟩
theorem d_X12_lean_1 : gd cX12_lean 1 (.invokevirtual 343) 3 4 := ⟨by decide +kernel, rfl⟩
theorem d_X12_lean_4 : gd cX12_lean 4 (.bipush 10) 2 6 := ⟨by decide +kernel, rfl⟩
theorem d_X12_lean_6 : gd cX12_lean 6 (.aload_n 0) 1 7 := ⟨by decide +kernel, rfl⟩
theorem d_X12_lean_7 : gd cX12_lean 7 (.getfield 296) 3 10 := ⟨by decide +kernel, rfl⟩
theorem d_X12_lean_10 : gd cX12_lean 10 .imul 1 11 := ⟨by decide +kernel, rfl⟩
theorem d_X12_lean_11 : gd cX12_lean 11 .iadd 1 12 := ⟨by decide +kernel, rfl⟩
theorem d_X12_lean_12 : gd cX12_lean 12 (.aload_n 0) 1 13 := ⟨by decide +kernel, rfl⟩
theorem d_X12_lean_13 : gd cX12_lean 13 (.getfield 64) 3 16 := ⟨by decide +kernel, rfl⟩
theorem d_X12_lean_16 : gd cX12_lean 16 .idiv 1 17 := ⟨by decide +kernel, rfl⟩
theorem d_X12_lean_17 : gd cX12_lean 17 .ireturn 1 18 := ⟨by decide +kernel, rfl⟩
def D_X12_lean  (μ : gs_M) : Option (Int32 × gs_M) :=
  bd (D_X12_moments μ) (fun v3 u2 => ck (nzi (gI u2 78 27)) (some ((v3 + ((10 : Int32) * (gI u2 78 28))) / (gI u2 78 27), u2)))
section S_X12_lean
variable {p : Program} {l : Launch} {e : Env} {R : Room} {s : State} {m : MethodId} {args : Array Value} {below : List Frame} {meth : Method} {c : Code} {ad : Nat → Nat} {g : va_G} {tyc : Nat → ClassId}
set_option maxRecDepth 20000 in
theorem C_X12_lean   {μ : gs_M} {r : Int32} {μ2 : gs_M}  (hD : D_X12_lean  μ = some (r, μ2)) : CALL yX12_lean cX12_lean 1 (some .int) 4 [.ref 78] μ (some (.int r)) μ2 := by
  unfold D_X12_lean at hD
  refine gs_enter mf_X12_lean (Nat.le_of_ble_eq_true rfl) (ls := [.ref 78]) rfl (fun p l e R s m args below meth c ad g tyc hK => ?_)
  have hK : KC p R s m args meth c ad g tyc RX12 cX12_lean 1 (some .int) 4 := hK
  refine r_aload_n hK d_X12_lean_0 rfl rfl ?_
  obtain ⟨v3, u2, e1, hD⟩ := bd_e hD
  refine r_callV (As := []) (st := []) (stk2 := [.int v3]) hK (C_X12_moments  e1) d_X12_lean_1 mf_X12_moments ml_RX12_343 im_X12_moments rfl se_11_RX12_X12_moments kd_78 rfl (Nat.le_of_ble_eq_true rfl) (by decide) ⟨Nat.zero_le _, Nat.zero_le _⟩ rfl rfl ?_
  refine r_bipush hK d_X12_lean_4 cb_10 ?_
  refine r_aload_n hK d_X12_lean_6 rfl rfl ?_
  refine r_getI hK d_X12_lean_7 fl_RX12_296_11 rfl kd_78 ?_
  refine r_imul hK d_X12_lean_10 ?_
  refine r_iadd hK d_X12_lean_11 ?_
  refine r_aload_n hK d_X12_lean_12 rfl rfl ?_
  refine r_getI hK d_X12_lean_13 fl_RX12_64_11 rfl kd_78 ?_
  obtain ⟨h4, hD⟩ := ck_e hD
  refine r_idiv hK d_X12_lean_16 (nzi_e h4) ?_
  cases hD
  exact r_iret hK d_X12_lean_17
end S_X12_lean
theorem d_X12_canLoad_0 : gd cX12_canLoad 0 (.aload_n 0) 1 1 := ⟨by decide +kernel, rfl⟩
theorem d_X12_canLoad_1 : gd cX12_canLoad 1 (.iload_n 1) 1 2 := ⟨by decide +kernel, rfl⟩
theorem d_X12_canLoad_2 : gd cX12_canLoad 2 (.invokevirtual 283) 3 5 := ⟨by decide +kernel, rfl⟩
theorem d_X12_canLoad_5 : gd cX12_canLoad 5 (.ifCond .eq 26) 3 8 := ⟨by decide +kernel, rfl⟩
theorem d_X12_canLoad_8 : gd cX12_canLoad 8 (.aload_n 0) 1 9 := ⟨by decide +kernel, rfl⟩
theorem d_X12_canLoad_9 : gd cX12_canLoad 9 (.iload_n 2) 1 10 := ⟨by decide +kernel, rfl⟩
theorem d_X12_canLoad_10 : gd cX12_canLoad 10 (.invokevirtual 290) 3 13 := ⟨by decide +kernel, rfl⟩
theorem d_X12_canLoad_13 : gd cX12_canLoad 13 (.ifCond .eq 18) 3 16 := ⟨by decide +kernel, rfl⟩
theorem d_X12_canLoad_16 : gd cX12_canLoad 16 (.aload_n 0) 1 17 := ⟨by decide +kernel, rfl⟩
theorem d_X12_canLoad_17 : gd cX12_canLoad 17 (.getfield 46) 3 20 := ⟨by decide +kernel, rfl⟩
theorem d_X12_canLoad_20 : gd cX12_canLoad 20 (.iload_n 1) 1 21 := ⟨by decide +kernel, rfl⟩
theorem d_X12_canLoad_21 : gd cX12_canLoad 21 .iaload 1 22 := ⟨by decide +kernel, rfl⟩
theorem d_X12_canLoad_22 : gd cX12_canLoad 22 (.aload_n 0) 1 23 := ⟨by decide +kernel, rfl⟩
theorem d_X12_canLoad_23 : gd cX12_canLoad 23 (.getfield 49) 3 26 := ⟨by decide +kernel, rfl⟩
theorem d_X12_canLoad_26 : gd cX12_canLoad 26 (.iload_n 2) 1 27 := ⟨by decide +kernel, rfl⟩
theorem d_X12_canLoad_27 : gd cX12_canLoad 27 .iaload 1 28 := ⟨by decide +kernel, rfl⟩
theorem d_X12_canLoad_28 : gd cX12_canLoad 28 (.if_icmp .eq 5) 3 31 := ⟨by decide +kernel, rfl⟩
theorem d_X12_canLoad_31 : gd cX12_canLoad 31 (.iconst 0) 1 32 := ⟨by decide +kernel, rfl⟩
theorem d_X12_canLoad_32 : gd cX12_canLoad 32 .ireturn 1 33 := ⟨by decide +kernel, rfl⟩
theorem d_X12_canLoad_33 : gd cX12_canLoad 33 (.iconst 0) 1 34 := ⟨by decide +kernel, rfl⟩
theorem d_X12_canLoad_34 : gd cX12_canLoad 34 (.istore_n 3) 1 35 := ⟨by decide +kernel, rfl⟩
theorem d_X12_canLoad_35 : gd cX12_canLoad 35 (.iload_n 3) 1 36 := ⟨by decide +kernel, rfl⟩
theorem d_X12_canLoad_36 : gd cX12_canLoad 36 (.aload_n 0) 1 37 := ⟨by decide +kernel, rfl⟩
theorem d_X12_canLoad_37 : gd cX12_canLoad 37 (.getfield 46) 3 40 := ⟨by decide +kernel, rfl⟩
theorem d_X12_canLoad_40 : gd cX12_canLoad 40 (.iload_n 1) 1 41 := ⟨by decide +kernel, rfl⟩
theorem d_X12_canLoad_41 : gd cX12_canLoad 41 .iaload 1 42 := ⟨by decide +kernel, rfl⟩
theorem d_X12_canLoad_42 : gd cX12_canLoad 42 (.if_icmp .ge 50) 3 45 := ⟨by decide +kernel, rfl⟩
theorem d_X12_canLoad_45 : gd cX12_canLoad 45 (.aload_n 0) 1 46 := ⟨by decide +kernel, rfl⟩
theorem d_X12_canLoad_46 : gd cX12_canLoad 46 (.aload_n 0) 1 47 := ⟨by decide +kernel, rfl⟩
theorem d_X12_canLoad_47 : gd cX12_canLoad 47 (.iload_n 2) 1 48 := ⟨by decide +kernel, rfl⟩
theorem d_X12_canLoad_48 : gd cX12_canLoad 48 (.iload_n 3) 1 49 := ⟨by decide +kernel, rfl⟩
theorem d_X12_canLoad_49 : gd cX12_canLoad 49 (.iconst 0) 1 50 := ⟨by decide +kernel, rfl⟩
theorem d_X12_canLoad_50 : gd cX12_canLoad 50 (.invokevirtual 293) 3 53 := ⟨by decide +kernel, rfl⟩
theorem d_X12_canLoad_53 : gd cX12_canLoad 53 (.invokevirtual 277) 3 56 := ⟨by decide +kernel, rfl⟩
theorem d_X12_canLoad_56 : gd cX12_canLoad 56 (.ifCond .eq 28) 3 59 := ⟨by decide +kernel, rfl⟩
theorem d_X12_canLoad_59 : gd cX12_canLoad 59 (.aload_n 0) 1 60 := ⟨by decide +kernel, rfl⟩
theorem d_X12_canLoad_60 : gd cX12_canLoad 60 (.iload_n 2) 1 61 := ⟨by decide +kernel, rfl⟩
theorem d_X12_canLoad_61 : gd cX12_canLoad 61 (.iload_n 3) 1 62 := ⟨by decide +kernel, rfl⟩
theorem d_X12_canLoad_62 : gd cX12_canLoad 62 (.iconst 1) 1 63 := ⟨by decide +kernel, rfl⟩
theorem d_X12_canLoad_63 : gd cX12_canLoad 63 (.invokevirtual 293) 3 66 := ⟨by decide +kernel, rfl⟩
theorem d_X12_canLoad_66 : gd cX12_canLoad 66 (.aload_n 0) 1 67 := ⟨by decide +kernel, rfl⟩
theorem d_X12_canLoad_67 : gd cX12_canLoad 67 (.iload_n 1) 1 68 := ⟨by decide +kernel, rfl⟩
theorem d_X12_canLoad_68 : gd cX12_canLoad 68 (.iload_n 3) 1 69 := ⟨by decide +kernel, rfl⟩
theorem d_X12_canLoad_69 : gd cX12_canLoad 69 (.iconst 0) 1 70 := ⟨by decide +kernel, rfl⟩
theorem d_X12_canLoad_70 : gd cX12_canLoad 70 (.invokevirtual 286) 3 73 := ⟨by decide +kernel, rfl⟩
theorem d_X12_canLoad_73 : gd cX12_canLoad 73 (.aload_n 0) 1 74 := ⟨by decide +kernel, rfl⟩
theorem d_X12_canLoad_74 : gd cX12_canLoad 74 (.iload_n 1) 1 75 := ⟨by decide +kernel, rfl⟩
theorem d_X12_canLoad_75 : gd cX12_canLoad 75 (.iload_n 3) 1 76 := ⟨by decide +kernel, rfl⟩
theorem d_X12_canLoad_76 : gd cX12_canLoad 76 (.iconst 1) 1 77 := ⟨by decide +kernel, rfl⟩
theorem d_X12_canLoad_77 : gd cX12_canLoad 77 (.invokevirtual 286) 3 80 := ⟨by decide +kernel, rfl⟩
theorem d_X12_canLoad_80 : gd cX12_canLoad 80 .imul 1 81 := ⟨by decide +kernel, rfl⟩
theorem d_X12_canLoad_81 : gd cX12_canLoad 81 (.if_icmp .le 5) 3 84 := ⟨by decide +kernel, rfl⟩
theorem d_X12_canLoad_84 : gd cX12_canLoad 84 (.iconst 0) 1 85 := ⟨by decide +kernel, rfl⟩
theorem d_X12_canLoad_85 : gd cX12_canLoad 85 .ireturn 1 86 := ⟨by decide +kernel, rfl⟩
theorem d_X12_canLoad_86 : gd cX12_canLoad 86 (.iinc 3 1) 3 89 := ⟨by decide +kernel, rfl⟩
theorem d_X12_canLoad_89 : gd cX12_canLoad 89 (.goto (-54)) 3 92 := ⟨by decide +kernel, rfl⟩
theorem d_X12_canLoad_92 : gd cX12_canLoad 92 (.iconst 1) 1 93 := ⟨by decide +kernel, rfl⟩
theorem d_X12_canLoad_93 : gd cX12_canLoad 93 .ireturn 1 94 := ⟨by decide +kernel, rfl⟩
def Bo_X12_canLoad_35 (q35 : Int32 → Int32 → Int32 → gs_M → Option (Int32 × gs_M)) (x1 : Int32) (x2 : Int32) (x3 : Int32) (μ : gs_M) : Option (Int32 × gs_M) :=
  ck (inb x1 4) (if (gI μ 86 (Int32.toNatClampNeg x1)) ≤ x3 then (some ((1 : Int32), μ)) else (bd (D_X12_layingOf x2 x3 (0 : Int32) μ) (fun v5 u4 => bd (D_X12_isStuff v5 u4) (fun v8 u7 => if v8 = 0 then (some ((0 : Int32), u7)) else (bd (D_X12_layingOf x2 x3 (1 : Int32) u7) (fun v12 u11 => bd (D_X12_holdOf x1 x3 (0 : Int32) u11) (fun v15 u14 => bd (D_X12_holdOf x1 x3 (1 : Int32) u14) (fun v18 u17 => if v12 ≤ (v15 * v18) then (q35 x1 x2 (x3 + (1 : Int32)) u17) else (some ((0 : Int32), u17))))))))))
def L_X12_canLoad_35  : Nat → Int32 → Int32 → Int32 → gs_M → Option (Int32 × gs_M)
  | 0 => fun _ _ _ _ => none
  | n + 1 => fun x1 x2 x3 μ => Bo_X12_canLoad_35  (L_X12_canLoad_35  n) x1 x2 x3 μ
def D_X12_canLoad (x1 : Int32) (x2 : Int32) (μ : gs_M) : Option (Int32 × gs_M) :=
  bd (D_X12_isShip x1 μ) (fun v3 u2 => if v3 = 0 then (some ((0 : Int32), u2)) else (bd (D_X12_isPlan x2 u2) (fun v7 u6 => if v7 = 0 then (some ((0 : Int32), u6)) else (ck (inb x1 4) (ck (inb x2 7) (if (gI u6 86 (Int32.toNatClampNeg x1)) = (gI u6 87 (Int32.toNatClampNeg x2)) then (L_X12_canLoad_35 4096 x1 x2 (0 : Int32) u6) else (some ((0 : Int32), u6))))))))
section S_X12_canLoad
variable {p : Program} {l : Launch} {e : Env} {R : Room} {s : State} {m : MethodId} {args : Array Value} {below : List Frame} {meth : Method} {c : Code} {ad : Nat → Nat} {g : va_G} {tyc : Nat → ClassId}
set_option maxRecDepth 20000 in
theorem To_X12_canLoad_35  (hK : KC p R s m args meth c ad g tyc RX12 cX12_canLoad 4 (some .boolean) 1) {r : Int32} {μ2 : gs_M} {q35 : Int32 → Int32 → Int32 → gs_M → Option (Int32 × gs_M)} (hq35 : ∀ (x1 : Int32) (x2 : Int32) (x3 : Int32) (μ : gs_M), q35 x1 x2 x3 μ = some (r, μ2) → WJ p l e R s m args below meth c 0 0 (MQ below (gs_Q ad g tyc (some (.int r)) μ2) args s 0 0 (gs_A ad)) ad g tyc 4 35 [.ref 78, .int x1, .int x2, .int x3] [] μ) {x1 : Int32} {x2 : Int32} {x3 : Int32} {μ : gs_M}  (hD : Bo_X12_canLoad_35 q35 x1 x2 x3 μ = some (r, μ2)) : WJ p l e R s m args below meth c 0 0 (MQ below (gs_Q ad g tyc (some (.int r)) μ2) args s 0 0 (gs_A ad)) ad g tyc 4 35 [.ref 78, .int x1, .int x2, .int x3] [] μ := by
  unfold Bo_X12_canLoad_35 at hD
  refine r_iload_n hK d_X12_canLoad_35 rfl rfl ?_
  refine r_aload_n hK d_X12_canLoad_36 rfl rfl ?_
  refine r_getR hK d_X12_canLoad_37 fl_RX12_46_11 rfl kd_78 ?_
  refine r_ref (b := 86) R0_78_21 ?_
  refine r_iload_n hK d_X12_canLoad_40 rfl rfl ?_
  obtain ⟨h1, hD⟩ := ck_e hD
  refine r_iald hK d_X12_canLoad_41 kd_86 ln_86 (inb_in h1) ?_
  refine r_icmp_ge (tgt := 92) hK d_X12_canLoad_42 (by decide) (fun h2 => ?_) (fun h2 => ?_)
  · have hD := if_t hD h2
    refine r_iconst hK d_X12_canLoad_92 ci_1 ?_
    cases hD
    exact r_zret hK (Or.inr rfl) d_X12_canLoad_93
  · have hD := if_f hD h2
    refine r_aload_n hK d_X12_canLoad_45 rfl rfl ?_
    refine r_aload_n hK d_X12_canLoad_46 rfl rfl ?_
    refine r_iload_n hK d_X12_canLoad_47 rfl rfl ?_
    refine r_iload_n hK d_X12_canLoad_48 rfl rfl ?_
    refine r_iconst hK d_X12_canLoad_49 ci_0 ?_
    obtain ⟨v5, u4, e3, hD⟩ := bd_e hD
    refine r_callV (As := [.int x2, .int x3, .int (0 : Int32)]) (st := [.ref 78]) (stk2 := [.int v5, .ref 78]) hK (C_X12_layingOf  e3) d_X12_canLoad_50 mf_X12_layingOf ml_RX12_293 im_X12_layingOf rfl se_11_RX12_X12_layingOf kd_78 rfl (Nat.le_of_ble_eq_true rfl) (by decide) ⟨Nat.zero_le _, Nat.zero_le _⟩ rfl rfl ?_
    obtain ⟨v8, u7, e6, hD⟩ := bd_e hD
    refine r_callV (As := [.int v5]) (st := []) (stk2 := [.int v8]) hK (C_X12_isStuff  e6) d_X12_canLoad_53 mf_X12_isStuff ml_RX12_277 im_X12_isStuff rfl se_11_RX12_X12_isStuff kd_78 rfl (Nat.le_of_ble_eq_true rfl) (by decide) ⟨Nat.zero_le _, Nat.zero_le _⟩ rfl rfl ?_
    refine r_if_eq (tgt := 84) hK d_X12_canLoad_56 (by decide) (fun h9 => ?_) (fun h9 => ?_)
    · have hD := if_t hD h9
      refine r_iconst hK d_X12_canLoad_84 ci_0 ?_
      cases hD
      exact r_zret hK (Or.inl rfl) d_X12_canLoad_85
    · have hD := if_f hD h9
      refine r_aload_n hK d_X12_canLoad_59 rfl rfl ?_
      refine r_iload_n hK d_X12_canLoad_60 rfl rfl ?_
      refine r_iload_n hK d_X12_canLoad_61 rfl rfl ?_
      refine r_iconst hK d_X12_canLoad_62 ci_1 ?_
      obtain ⟨v12, u11, e10, hD⟩ := bd_e hD
      refine r_callV (As := [.int x2, .int x3, .int (1 : Int32)]) (st := []) (stk2 := [.int v12]) hK (C_X12_layingOf  e10) d_X12_canLoad_63 mf_X12_layingOf ml_RX12_293 im_X12_layingOf rfl se_11_RX12_X12_layingOf kd_78 rfl (Nat.le_of_ble_eq_true rfl) (by decide) ⟨Nat.zero_le _, Nat.zero_le _⟩ rfl rfl ?_
      refine r_aload_n hK d_X12_canLoad_66 rfl rfl ?_
      refine r_iload_n hK d_X12_canLoad_67 rfl rfl ?_
      refine r_iload_n hK d_X12_canLoad_68 rfl rfl ?_
      refine r_iconst hK d_X12_canLoad_69 ci_0 ?_
      obtain ⟨v15, u14, e13, hD⟩ := bd_e hD
      refine r_callV (As := [.int x1, .int x3, .int (0 : Int32)]) (st := [.int v12]) (stk2 := [.int v15, .int v12]) hK (C_X12_holdOf  e13) d_X12_canLoad_70 mf_X12_holdOf ml_RX12_286 im_X12_holdOf rfl se_11_RX12_X12_holdOf kd_78 rfl (Nat.le_of_ble_eq_true rfl) (by decide) ⟨Nat.zero_le _, Nat.zero_le _⟩ rfl rfl ?_
      refine r_aload_n hK d_X12_canLoad_73 rfl rfl ?_
      refine r_iload_n hK d_X12_canLoad_74 rfl rfl ?_
      refine r_iload_n hK d_X12_canLoad_75 rfl rfl ?_
      refine r_iconst hK d_X12_canLoad_76 ci_1 ?_
      obtain ⟨v18, u17, e16, hD⟩ := bd_e hD
      refine r_callV (As := [.int x1, .int x3, .int (1 : Int32)]) (st := [.int v15, .int v12]) (stk2 := [.int v18, .int v15, .int v12]) hK (C_X12_holdOf  e16) d_X12_canLoad_77 mf_X12_holdOf ml_RX12_286 im_X12_holdOf rfl se_11_RX12_X12_holdOf kd_78 rfl (Nat.le_of_ble_eq_true rfl) (by decide) ⟨Nat.zero_le _, Nat.zero_le _⟩ rfl rfl ?_
      refine r_imul hK d_X12_canLoad_80 ?_
      refine r_icmp_le (tgt := 86) hK d_X12_canLoad_81 (by decide) (fun h19 => ?_) (fun h19 => ?_)
      · have hD := if_t hD h19
        refine r_iinc hK d_X12_canLoad_86 rfl (v := x3 + (1 : Int32)) (by rw [ci_1]) (by decide) (ls2 := [.ref 78, .int x1, .int x2, .int (x3 + (1 : Int32))]) rfl ?_
        refine r_goto (tgt := 35) hK d_X12_canLoad_89 (by decide) ?_
        exact hq35 _ _ _ _  hD
      · have hD := if_f hD h19
        refine r_iconst hK d_X12_canLoad_84 ci_0 ?_
        cases hD
        exact r_zret hK (Or.inl rfl) d_X12_canLoad_85
set_option maxRecDepth 20000 in
theorem TL_X12_canLoad_35  (hK : KC p R s m args meth c ad g tyc RX12 cX12_canLoad 4 (some .boolean) 1) {r : Int32} {μ2 : gs_M}   : ∀ (n : Nat) (x1 : Int32) (x2 : Int32) (x3 : Int32) (μ : gs_M), L_X12_canLoad_35  n x1 x2 x3 μ = some (r, μ2) → WJ p l e R s m args below meth c 0 0 (MQ below (gs_Q ad g tyc (some (.int r)) μ2) args s 0 0 (gs_A ad)) ad g tyc 4 35 [.ref 78, .int x1, .int x2, .int x3] [] μ := by
  intro n
  induction n with
  | zero => intro x1 x2 x3 μ  hD; cases hD
  | succ n ih => intro x1 x2 x3 μ  hD; exact To_X12_canLoad_35 hK  ih  hD
set_option maxRecDepth 20000 in
theorem C_X12_canLoad  {x1 : Int32} {x2 : Int32} {μ : gs_M} {r : Int32} {μ2 : gs_M}  (hD : D_X12_canLoad x1 x2 μ = some (r, μ2)) : CALL yX12_canLoad cX12_canLoad 4 (some .boolean) 1 [.ref 78, .int x1, .int x2] μ (some (.int r)) μ2 := by
  unfold D_X12_canLoad at hD
  refine gs_enter mf_X12_canLoad (Nat.le_of_ble_eq_true rfl) (ls := [.ref 78, .int x1, .int x2, gs_J]) rfl (fun p l e R s m args below meth c ad g tyc hK => ?_)
  have hK : KC p R s m args meth c ad g tyc RX12 cX12_canLoad 4 (some .boolean) 1 := hK
  refine r_aload_n hK d_X12_canLoad_0 rfl rfl ?_
  refine r_iload_n hK d_X12_canLoad_1 rfl rfl ?_
  obtain ⟨v3, u2, e1, hD⟩ := bd_e hD
  refine r_callV (As := [.int x1]) (st := []) (stk2 := [.int v3]) hK (C_X12_isShip  e1) d_X12_canLoad_2 mf_X12_isShip ml_RX12_283 im_X12_isShip rfl se_11_RX12_X12_isShip kd_78 rfl (Nat.le_of_ble_eq_true rfl) (by decide) ⟨Nat.zero_le _, Nat.zero_le _⟩ rfl rfl ?_
  refine r_if_eq (tgt := 31) hK d_X12_canLoad_5 (by decide) (fun h4 => ?_) (fun h4 => ?_)
  · have hD := if_t hD h4
    refine r_iconst hK d_X12_canLoad_31 ci_0 ?_
    cases hD
    exact r_zret hK (Or.inl rfl) d_X12_canLoad_32
  · have hD := if_f hD h4
    refine r_aload_n hK d_X12_canLoad_8 rfl rfl ?_
    refine r_iload_n hK d_X12_canLoad_9 rfl rfl ?_
    obtain ⟨v7, u6, e5, hD⟩ := bd_e hD
    refine r_callV (As := [.int x2]) (st := []) (stk2 := [.int v7]) hK (C_X12_isPlan  e5) d_X12_canLoad_10 mf_X12_isPlan ml_RX12_290 im_X12_isPlan rfl se_11_RX12_X12_isPlan kd_78 rfl (Nat.le_of_ble_eq_true rfl) (by decide) ⟨Nat.zero_le _, Nat.zero_le _⟩ rfl rfl ?_
    refine r_if_eq (tgt := 31) hK d_X12_canLoad_13 (by decide) (fun h8 => ?_) (fun h8 => ?_)
    · have hD := if_t hD h8
      refine r_iconst hK d_X12_canLoad_31 ci_0 ?_
      cases hD
      exact r_zret hK (Or.inl rfl) d_X12_canLoad_32
    · have hD := if_f hD h8
      refine r_aload_n hK d_X12_canLoad_16 rfl rfl ?_
      refine r_getR hK d_X12_canLoad_17 fl_RX12_46_11 rfl kd_78 ?_
      refine r_ref (b := 86) R0_78_21 ?_
      refine r_iload_n hK d_X12_canLoad_20 rfl rfl ?_
      obtain ⟨h9, hD⟩ := ck_e hD
      refine r_iald hK d_X12_canLoad_21 kd_86 ln_86 (inb_in h9) ?_
      refine r_aload_n hK d_X12_canLoad_22 rfl rfl ?_
      refine r_getR hK d_X12_canLoad_23 fl_RX12_49_11 rfl kd_78 ?_
      refine r_ref (b := 87) R0_78_22 ?_
      refine r_iload_n hK d_X12_canLoad_26 rfl rfl ?_
      obtain ⟨h10, hD⟩ := ck_e hD
      refine r_iald hK d_X12_canLoad_27 kd_87 ln_87 (inb_in h10) ?_
      refine r_icmp_eq (tgt := 33) hK d_X12_canLoad_28 (by decide) (fun h11 => ?_) (fun h11 => ?_)
      · have hD := if_t hD h11
        refine r_iconst hK d_X12_canLoad_33 ci_0 ?_
        refine r_istore_n hK d_X12_canLoad_34 rfl (by decide) (ls2 := [.ref 78, .int x1, .int x2, .int (0 : Int32)]) rfl ?_
        exact TL_X12_canLoad_35 hK  _ _ _ _ _  hD
      · have hD := if_f hD h11
        refine r_iconst hK d_X12_canLoad_31 ci_0 ?_
        cases hD
        exact r_zret hK (Or.inl rfl) d_X12_canLoad_32
end S_X12_canLoad
theorem d_X12_nearest_0 : gd cX12_nearest 0 (.iconst 0) 1 1 := ⟨by decide +kernel, rfl⟩
theorem d_X12_nearest_1 : gd cX12_nearest 1 (.istore_n 3) 1 2 := ⟨by decide +kernel, rfl⟩
theorem d_X12_nearest_2 : gd cX12_nearest 2 (.iload_n 3) 1 3 := ⟨by decide +kernel, rfl⟩
theorem d_X12_nearest_3 : gd cX12_nearest 3 (.bipush 12) 2 5 := ⟨by decide +kernel, rfl⟩
theorem d_X12_nearest_5 : gd cX12_nearest 5 (.if_icmp .ge 68) 3 8 := ⟨by decide +kernel, rfl⟩
theorem d_X12_nearest_8 : gd cX12_nearest 8 (.iconst (-1)) 1 9 := ⟨by decide +kernel, rfl⟩
theorem d_X12_nearest_9 : gd cX12_nearest 9 (.istore 4) 2 11 := ⟨by decide +kernel, rfl⟩
theorem d_X12_nearest_11 : gd cX12_nearest 11 (.iload 4) 2 13 := ⟨by decide +kernel, rfl⟩
theorem d_X12_nearest_13 : gd cX12_nearest 13 (.iconst 2) 1 14 := ⟨by decide +kernel, rfl⟩
theorem d_X12_nearest_14 : gd cX12_nearest 14 (.if_icmp .ge 53) 3 17 := ⟨by decide +kernel, rfl⟩
theorem d_X12_nearest_17 : gd cX12_nearest 17 (.iload_n 2) 1 18 := ⟨by decide +kernel, rfl⟩
theorem d_X12_nearest_18 : gd cX12_nearest 18 (.iload 4) 2 20 := ⟨by decide +kernel, rfl⟩
theorem d_X12_nearest_20 : gd cX12_nearest 20 (.iload_n 3) 1 21 := ⟨by decide +kernel, rfl⟩
theorem d_X12_nearest_21 : gd cX12_nearest 21 .imul 1 22 := ⟨by decide +kernel, rfl⟩
theorem d_X12_nearest_22 : gd cX12_nearest 22 .iadd 1 23 := ⟨by decide +kernel, rfl⟩
theorem d_X12_nearest_23 : gd cX12_nearest 23 (.istore 5) 2 25 := ⟨by decide +kernel, rfl⟩
theorem d_X12_nearest_25 : gd cX12_nearest 25 (.iload 5) 2 27 := ⟨by decide +kernel, rfl⟩
theorem d_X12_nearest_27 : gd cX12_nearest 27 (.iconst 0) 1 28 := ⟨by decide +kernel, rfl⟩
theorem d_X12_nearest_28 : gd cX12_nearest 28 (.aload_n 0) 1 29 := ⟨by decide +kernel, rfl⟩
theorem d_X12_nearest_29 : gd cX12_nearest 29 (.iload_n 1) 1 30 := ⟨by decide +kernel, rfl⟩
theorem d_X12_nearest_30 : gd cX12_nearest 30 (.iconst 0) 1 31 := ⟨by decide +kernel, rfl⟩
theorem d_X12_nearest_31 : gd cX12_nearest 31 (.invokevirtual 302) 3 34 := ⟨by decide +kernel, rfl⟩
theorem d_X12_nearest_34 : gd cX12_nearest 34 (.iconst 1) 1 35 := ⟨by decide +kernel, rfl⟩
theorem d_X12_nearest_35 : gd cX12_nearest 35 .isub 1 36 := ⟨by decide +kernel, rfl⟩
theorem d_X12_nearest_36 : gd cX12_nearest 36 (.invokestatic 217) 3 39 := ⟨by decide +kernel, rfl⟩
theorem d_X12_nearest_39 : gd cX12_nearest 39 (.ifCond .eq 22) 3 42 := ⟨by decide +kernel, rfl⟩
theorem d_X12_nearest_42 : gd cX12_nearest 42 (.aload_n 0) 1 43 := ⟨by decide +kernel, rfl⟩
theorem d_X12_nearest_43 : gd cX12_nearest 43 (.iload_n 1) 1 44 := ⟨by decide +kernel, rfl⟩
theorem d_X12_nearest_44 : gd cX12_nearest 44 (.iload 5) 2 46 := ⟨by decide +kernel, rfl⟩
theorem d_X12_nearest_46 : gd cX12_nearest 46 (.invokevirtual 305) 3 49 := ⟨by decide +kernel, rfl⟩
theorem d_X12_nearest_49 : gd cX12_nearest 49 (.aload_n 0) 1 50 := ⟨by decide +kernel, rfl⟩
theorem d_X12_nearest_50 : gd cX12_nearest 50 (.iload_n 1) 1 51 := ⟨by decide +kernel, rfl⟩
theorem d_X12_nearest_51 : gd cX12_nearest 51 (.iconst 1) 1 52 := ⟨by decide +kernel, rfl⟩
theorem d_X12_nearest_52 : gd cX12_nearest 52 (.invokevirtual 302) 3 55 := ⟨by decide +kernel, rfl⟩
theorem d_X12_nearest_55 : gd cX12_nearest 55 (.if_icmp .ge 6) 3 58 := ⟨by decide +kernel, rfl⟩
theorem d_X12_nearest_58 : gd cX12_nearest 58 (.iload 5) 2 60 := ⟨by decide +kernel, rfl⟩
theorem d_X12_nearest_60 : gd cX12_nearest 60 .ireturn 1 61 := ⟨by decide +kernel, rfl⟩
theorem d_X12_nearest_61 : gd cX12_nearest 61 (.iinc 4 2) 3 64 := ⟨by decide +kernel, rfl⟩
theorem d_X12_nearest_64 : gd cX12_nearest 64 (.goto (-53)) 3 67 := ⟨by decide +kernel, rfl⟩
theorem d_X12_nearest_67 : gd cX12_nearest 67 (.iinc 3 1) 3 70 := ⟨by decide +kernel, rfl⟩
theorem d_X12_nearest_70 : gd cX12_nearest 70 (.goto (-68)) 3 73 := ⟨by decide +kernel, rfl⟩
theorem d_X12_nearest_73 : gd cX12_nearest 73 (.iconst (-1)) 1 74 := ⟨by decide +kernel, rfl⟩
theorem d_X12_nearest_74 : gd cX12_nearest 74 .ireturn 1 75 := ⟨by decide +kernel, rfl⟩
def Bo_X12_nearest_11 (q2 : Int32 → Int32 → Int32 → gs_M → Option (Int32 × gs_M)) (q11 : Int32 → Int32 → Int32 → Int32 → gs_M → Option (Int32 × gs_M)) (x1 : Int32) (x2 : Int32) (x3 : Int32) (x4 : Int32) (μ : gs_M) : Option (Int32 × gs_M) :=
  if (2 : Int32) ≤ x4 then (q2 x1 x2 (x3 + (1 : Int32)) μ) else (lt1 (x2 + (x4 * x3)) (fun v2 => bd (D_X12_of x1 (0 : Int32) μ) (fun v5 u4 => bd (D_X12_isIn v2 (0 : Int32) (v5 - (1 : Int32)) u4) (fun v8 u7 => if v8 = 0 then (q11 x1 x2 x3 (x4 + (2 : Int32)) u7) else (bd (D_X12_units x1 v2 u7) (fun v12 u11 => bd (D_X12_of x1 (1 : Int32) u11) (fun v15 u14 => if v15 ≤ v12 then (q11 x1 x2 x3 (x4 + (2 : Int32)) u14) else (some (v2, u14)))))))))
def L_X12_nearest_11 (q2 : Int32 → Int32 → Int32 → gs_M → Option (Int32 × gs_M)) : Nat → Int32 → Int32 → Int32 → Int32 → gs_M → Option (Int32 × gs_M)
  | 0 => fun _ _ _ _ _ => none
  | n + 1 => fun x1 x2 x3 x4 μ => Bo_X12_nearest_11 q2 (L_X12_nearest_11 q2 n) x1 x2 x3 x4 μ
def Bo_X12_nearest_2 (q2 : Int32 → Int32 → Int32 → gs_M → Option (Int32 × gs_M)) (x1 : Int32) (x2 : Int32) (x3 : Int32) (μ : gs_M) : Option (Int32 × gs_M) :=
  if (12 : Int32) ≤ x3 then (some ((-1 : Int32), μ)) else (L_X12_nearest_11 q2 4096 x1 x2 x3 (-1 : Int32) μ)
def L_X12_nearest_2  : Nat → Int32 → Int32 → Int32 → gs_M → Option (Int32 × gs_M)
  | 0 => fun _ _ _ _ => none
  | n + 1 => fun x1 x2 x3 μ => Bo_X12_nearest_2  (L_X12_nearest_2  n) x1 x2 x3 μ
def D_X12_nearest (x1 : Int32) (x2 : Int32) (μ : gs_M) : Option (Int32 × gs_M) :=
  L_X12_nearest_2 4096 x1 x2 (0 : Int32) μ
section S_X12_nearest
variable {p : Program} {l : Launch} {e : Env} {R : Room} {s : State} {m : MethodId} {args : Array Value} {below : List Frame} {meth : Method} {c : Code} {ad : Nat → Nat} {g : va_G} {tyc : Nat → ClassId}
set_option maxRecDepth 20000 in
theorem To_X12_nearest_11  (hK : KC p R s m args meth c ad g tyc RX12 cX12_nearest 6 (some .int) 2) {r : Int32} {μ2 : gs_M} {q2 : Int32 → Int32 → Int32 → gs_M → Option (Int32 × gs_M)} {q11 : Int32 → Int32 → Int32 → Int32 → gs_M → Option (Int32 × gs_M)} (hq2 : ∀ (x1 : Int32) (x2 : Int32) (x3 : Int32) (μ : gs_M), q2 x1 x2 x3 μ = some (r, μ2) → WJ p l e R s m args below meth c 0 0 (MQ below (gs_Q ad g tyc (some (.int r)) μ2) args s 0 0 (gs_A ad)) ad g tyc 6 2 [.ref 78, .int x1, .int x2, .int x3, gs_J, gs_J] [] μ) (hq11 : ∀ (x1 : Int32) (x2 : Int32) (x3 : Int32) (x4 : Int32) (μ : gs_M), q11 x1 x2 x3 x4 μ = some (r, μ2) → WJ p l e R s m args below meth c 0 0 (MQ below (gs_Q ad g tyc (some (.int r)) μ2) args s 0 0 (gs_A ad)) ad g tyc 6 11 [.ref 78, .int x1, .int x2, .int x3, .int x4, gs_J] [] μ) {x1 : Int32} {x2 : Int32} {x3 : Int32} {x4 : Int32} {μ : gs_M}  (hD : Bo_X12_nearest_11 q2 q11 x1 x2 x3 x4 μ = some (r, μ2)) : WJ p l e R s m args below meth c 0 0 (MQ below (gs_Q ad g tyc (some (.int r)) μ2) args s 0 0 (gs_A ad)) ad g tyc 6 11 [.ref 78, .int x1, .int x2, .int x3, .int x4, gs_J] [] μ := by
  unfold Bo_X12_nearest_11 at hD
  refine r_iload hK d_X12_nearest_11 rfl ?_
  refine r_iconst hK d_X12_nearest_13 ci_2 ?_
  refine r_icmp_ge (tgt := 67) hK d_X12_nearest_14 (by decide) (fun h1 => ?_) (fun h1 => ?_)
  · have hD := if_t hD h1
    refine r_iinc hK d_X12_nearest_67 rfl (v := x3 + (1 : Int32)) (by rw [ci_1]) (by decide) (ls2 := [.ref 78, .int x1, .int x2, .int (x3 + (1 : Int32)), .int x4, gs_J]) rfl ?_
    refine r_goto (tgt := 2) hK d_X12_nearest_70 (by decide) ?_
    refine r_junk [true, true, true, true, false, false] (ls2 := [.ref 78, .int x1, .int x2, .int (x3 + (1 : Int32)), gs_J, gs_J]) rfl ?_
    exact hq2 _ _ _ _  hD
  · have hD := if_f hD h1
    refine r_iload_n hK d_X12_nearest_17 rfl rfl ?_
    refine r_iload hK d_X12_nearest_18 rfl ?_
    refine r_iload_n hK d_X12_nearest_20 rfl rfl ?_
    refine r_imul hK d_X12_nearest_21 ?_
    refine r_iadd hK d_X12_nearest_22 ?_
    refine r_lti hD (fun v2 hD => ?_)
    refine r_istore hK d_X12_nearest_23 (by decide) (ls2 := [.ref 78, .int x1, .int x2, .int x3, .int x4, .int v2]) rfl ?_
    refine r_iload hK d_X12_nearest_25 rfl ?_
    refine r_iconst hK d_X12_nearest_27 ci_0 ?_
    refine r_aload_n hK d_X12_nearest_28 rfl rfl ?_
    refine r_iload_n hK d_X12_nearest_29 rfl rfl ?_
    refine r_iconst hK d_X12_nearest_30 ci_0 ?_
    obtain ⟨v5, u4, e3, hD⟩ := bd_e hD
    refine r_callV (As := [.int x1, .int (0 : Int32)]) (st := [.int (0 : Int32), .int v2]) (stk2 := [.int v5, .int (0 : Int32), .int v2]) hK (C_X12_of  e3) d_X12_nearest_31 mf_X12_of ml_RX12_302 im_X12_of rfl se_11_RX12_X12_of kd_78 rfl (Nat.le_of_ble_eq_true rfl) (by decide) ⟨Nat.zero_le _, Nat.zero_le _⟩ rfl rfl ?_
    refine r_iconst hK d_X12_nearest_34 ci_1 ?_
    refine r_isub hK d_X12_nearest_35 ?_
    obtain ⟨v8, u7, e6, hD⟩ := bd_e hD
    refine r_callS (As := [.int v2, .int (0 : Int32), .int (v5 - (1 : Int32))]) (st := []) (stk2 := [.int v8]) hK (C_X12_isIn  e6) d_X12_nearest_36 mf_X12_isIn ml_RX12_217 ss_X12_isIn rfl (Nat.le_of_ble_eq_true rfl) (by decide) ⟨Nat.zero_le _, Nat.zero_le _⟩ rfl rfl ?_
    refine r_if_eq (tgt := 61) hK d_X12_nearest_39 (by decide) (fun h9 => ?_) (fun h9 => ?_)
    · have hD := if_t hD h9
      refine r_iinc hK d_X12_nearest_61 rfl (v := x4 + (2 : Int32)) (by rw [ci_2]) (by decide) (ls2 := [.ref 78, .int x1, .int x2, .int x3, .int (x4 + (2 : Int32)), .int v2]) rfl ?_
      refine r_goto (tgt := 11) hK d_X12_nearest_64 (by decide) ?_
      refine r_junk [true, true, true, true, true, false] (ls2 := [.ref 78, .int x1, .int x2, .int x3, .int (x4 + (2 : Int32)), gs_J]) rfl ?_
      exact hq11 _ _ _ _ _  hD
    · have hD := if_f hD h9
      refine r_aload_n hK d_X12_nearest_42 rfl rfl ?_
      refine r_iload_n hK d_X12_nearest_43 rfl rfl ?_
      refine r_iload hK d_X12_nearest_44 rfl ?_
      obtain ⟨v12, u11, e10, hD⟩ := bd_e hD
      refine r_callV (As := [.int x1, .int v2]) (st := []) (stk2 := [.int v12]) hK (C_X12_units  e10) d_X12_nearest_46 mf_X12_units ml_RX12_305 im_X12_units rfl se_11_RX12_X12_units kd_78 rfl (Nat.le_of_ble_eq_true rfl) (by decide) ⟨Nat.zero_le _, Nat.zero_le _⟩ rfl rfl ?_
      refine r_aload_n hK d_X12_nearest_49 rfl rfl ?_
      refine r_iload_n hK d_X12_nearest_50 rfl rfl ?_
      refine r_iconst hK d_X12_nearest_51 ci_1 ?_
      obtain ⟨v15, u14, e13, hD⟩ := bd_e hD
      refine r_callV (As := [.int x1, .int (1 : Int32)]) (st := [.int v12]) (stk2 := [.int v15, .int v12]) hK (C_X12_of  e13) d_X12_nearest_52 mf_X12_of ml_RX12_302 im_X12_of rfl se_11_RX12_X12_of kd_78 rfl (Nat.le_of_ble_eq_true rfl) (by decide) ⟨Nat.zero_le _, Nat.zero_le _⟩ rfl rfl ?_
      refine r_icmp_ge (tgt := 61) hK d_X12_nearest_55 (by decide) (fun h16 => ?_) (fun h16 => ?_)
      · have hD := if_t hD h16
        refine r_iinc hK d_X12_nearest_61 rfl (v := x4 + (2 : Int32)) (by rw [ci_2]) (by decide) (ls2 := [.ref 78, .int x1, .int x2, .int x3, .int (x4 + (2 : Int32)), .int v2]) rfl ?_
        refine r_goto (tgt := 11) hK d_X12_nearest_64 (by decide) ?_
        refine r_junk [true, true, true, true, true, false] (ls2 := [.ref 78, .int x1, .int x2, .int x3, .int (x4 + (2 : Int32)), gs_J]) rfl ?_
        exact hq11 _ _ _ _ _  hD
      · have hD := if_f hD h16
        refine r_iload hK d_X12_nearest_58 rfl ?_
        cases hD
        exact r_iret hK d_X12_nearest_60
set_option maxRecDepth 20000 in
theorem TL_X12_nearest_11  (hK : KC p R s m args meth c ad g tyc RX12 cX12_nearest 6 (some .int) 2) {r : Int32} {μ2 : gs_M} {q2 : Int32 → Int32 → Int32 → gs_M → Option (Int32 × gs_M)} (hq2 : ∀ (x1 : Int32) (x2 : Int32) (x3 : Int32) (μ : gs_M), q2 x1 x2 x3 μ = some (r, μ2) → WJ p l e R s m args below meth c 0 0 (MQ below (gs_Q ad g tyc (some (.int r)) μ2) args s 0 0 (gs_A ad)) ad g tyc 6 2 [.ref 78, .int x1, .int x2, .int x3, gs_J, gs_J] [] μ) : ∀ (n : Nat) (x1 : Int32) (x2 : Int32) (x3 : Int32) (x4 : Int32) (μ : gs_M), L_X12_nearest_11 q2 n x1 x2 x3 x4 μ = some (r, μ2) → WJ p l e R s m args below meth c 0 0 (MQ below (gs_Q ad g tyc (some (.int r)) μ2) args s 0 0 (gs_A ad)) ad g tyc 6 11 [.ref 78, .int x1, .int x2, .int x3, .int x4, gs_J] [] μ := by
  intro n
  induction n with
  | zero => intro x1 x2 x3 x4 μ  hD; cases hD
  | succ n ih => intro x1 x2 x3 x4 μ  hD; exact To_X12_nearest_11 hK hq2 ih  hD
set_option maxRecDepth 20000 in
theorem To_X12_nearest_2  (hK : KC p R s m args meth c ad g tyc RX12 cX12_nearest 6 (some .int) 2) {r : Int32} {μ2 : gs_M} {q2 : Int32 → Int32 → Int32 → gs_M → Option (Int32 × gs_M)} (hq2 : ∀ (x1 : Int32) (x2 : Int32) (x3 : Int32) (μ : gs_M), q2 x1 x2 x3 μ = some (r, μ2) → WJ p l e R s m args below meth c 0 0 (MQ below (gs_Q ad g tyc (some (.int r)) μ2) args s 0 0 (gs_A ad)) ad g tyc 6 2 [.ref 78, .int x1, .int x2, .int x3, gs_J, gs_J] [] μ) {x1 : Int32} {x2 : Int32} {x3 : Int32} {μ : gs_M}  (hD : Bo_X12_nearest_2 q2 x1 x2 x3 μ = some (r, μ2)) : WJ p l e R s m args below meth c 0 0 (MQ below (gs_Q ad g tyc (some (.int r)) μ2) args s 0 0 (gs_A ad)) ad g tyc 6 2 [.ref 78, .int x1, .int x2, .int x3, gs_J, gs_J] [] μ := by
  unfold Bo_X12_nearest_2 at hD
  refine r_iload_n hK d_X12_nearest_2 rfl rfl ?_
  refine r_bipush hK d_X12_nearest_3 cb_12 ?_
  refine r_icmp_ge (tgt := 73) hK d_X12_nearest_5 (by decide) (fun h1 => ?_) (fun h1 => ?_)
  · have hD := if_t hD h1
    refine r_iconst hK d_X12_nearest_73 ci_m1 ?_
    cases hD
    exact r_iret hK d_X12_nearest_74
  · have hD := if_f hD h1
    refine r_iconst hK d_X12_nearest_8 ci_m1 ?_
    refine r_istore hK d_X12_nearest_9 (by decide) (ls2 := [.ref 78, .int x1, .int x2, .int x3, .int (-1 : Int32), gs_J]) rfl ?_
    exact TL_X12_nearest_11 hK hq2 _ _ _ _ _ _  hD
set_option maxRecDepth 20000 in
theorem TL_X12_nearest_2  (hK : KC p R s m args meth c ad g tyc RX12 cX12_nearest 6 (some .int) 2) {r : Int32} {μ2 : gs_M}   : ∀ (n : Nat) (x1 : Int32) (x2 : Int32) (x3 : Int32) (μ : gs_M), L_X12_nearest_2  n x1 x2 x3 μ = some (r, μ2) → WJ p l e R s m args below meth c 0 0 (MQ below (gs_Q ad g tyc (some (.int r)) μ2) args s 0 0 (gs_A ad)) ad g tyc 6 2 [.ref 78, .int x1, .int x2, .int x3, gs_J, gs_J] [] μ := by
  intro n
  induction n with
  | zero => intro x1 x2 x3 μ  hD; cases hD
  | succ n ih => intro x1 x2 x3 μ  hD; exact To_X12_nearest_2 hK  ih  hD
set_option maxRecDepth 20000 in
theorem C_X12_nearest  {x1 : Int32} {x2 : Int32} {μ : gs_M} {r : Int32} {μ2 : gs_M}  (hD : D_X12_nearest x1 x2 μ = some (r, μ2)) : CALL yX12_nearest cX12_nearest 6 (some .int) 2 [.ref 78, .int x1, .int x2] μ (some (.int r)) μ2 := by
  unfold D_X12_nearest at hD
  refine gs_enter mf_X12_nearest (Nat.le_of_ble_eq_true rfl) (ls := [.ref 78, .int x1, .int x2, gs_J, gs_J, gs_J]) rfl (fun p l e R s m args below meth c ad g tyc hK => ?_)
  have hK : KC p R s m args meth c ad g tyc RX12 cX12_nearest 6 (some .int) 2 := hK
  refine r_iconst hK d_X12_nearest_0 ci_0 ?_
  refine r_istore_n hK d_X12_nearest_1 rfl (by decide) (ls2 := [.ref 78, .int x1, .int x2, .int (0 : Int32), gs_J, gs_J]) rfl ?_
  exact TL_X12_nearest_2 hK  _ _ _ _ _  hD
end S_X12_nearest
theorem d_X12_pours_0 : gd cX12_pours 0 (.aload_n 0) 1 1 := ⟨by decide +kernel, rfl⟩
theorem d_X12_pours_1 : gd cX12_pours 1 (.iload_n 1) 1 2 := ⟨by decide +kernel, rfl⟩
theorem d_X12_pours_2 : gd cX12_pours 2 (.iconst 0) 1 3 := ⟨by decide +kernel, rfl⟩
theorem d_X12_pours_3 : gd cX12_pours 3 (.invokevirtual 302) 3 6 := ⟨by decide +kernel, rfl⟩
theorem d_X12_pours_6 : gd cX12_pours 6 (.istore 4) 2 8 := ⟨by decide +kernel, rfl⟩
theorem d_X12_pours_8 : gd cX12_pours 8 (.iconst 0) 1 9 := ⟨by decide +kernel, rfl⟩
theorem d_X12_pours_9 : gd cX12_pours 9 (.istore 5) 2 11 := ⟨by decide +kernel, rfl⟩
theorem d_X12_pours_11 : gd cX12_pours 11 (.iload 5) 2 13 := ⟨by decide +kernel, rfl⟩
theorem d_X12_pours_13 : gd cX12_pours 13 (.iload_n 2) 1 14 := ⟨by decide +kernel, rfl⟩
theorem d_X12_pours_14 : gd cX12_pours 14 (.if_icmp .ge 74) 3 17 := ⟨by decide +kernel, rfl⟩
theorem d_X12_pours_17 : gd cX12_pours 17 (.iload_n 3) 1 18 := ⟨by decide +kernel, rfl⟩
theorem d_X12_pours_18 : gd cX12_pours 18 (.ifCond .eq 11) 3 21 := ⟨by decide +kernel, rfl⟩
theorem d_X12_pours_21 : gd cX12_pours 21 (.iload 5) 2 23 := ⟨by decide +kernel, rfl⟩
theorem d_X12_pours_23 : gd cX12_pours 23 (.iload 4) 2 25 := ⟨by decide +kernel, rfl⟩
theorem d_X12_pours_25 : gd cX12_pours 25 .irem 1 26 := ⟨by decide +kernel, rfl⟩
theorem d_X12_pours_26 : gd cX12_pours 26 (.goto 28) 3 29 := ⟨by decide +kernel, rfl⟩
theorem d_X12_pours_29 : gd cX12_pours 29 (.aload_n 0) 1 30 := ⟨by decide +kernel, rfl⟩
theorem d_X12_pours_30 : gd cX12_pours 30 (.iload_n 1) 1 31 := ⟨by decide +kernel, rfl⟩
theorem d_X12_pours_31 : gd cX12_pours 31 (.iload 5) 2 33 := ⟨by decide +kernel, rfl⟩
theorem d_X12_pours_33 : gd cX12_pours 33 (.iconst 2) 1 34 := ⟨by decide +kernel, rfl⟩
theorem d_X12_pours_34 : gd cX12_pours 34 .irem 1 35 := ⟨by decide +kernel, rfl⟩
theorem d_X12_pours_35 : gd cX12_pours 35 (.ifCond .ne 12) 3 38 := ⟨by decide +kernel, rfl⟩
theorem d_X12_pours_38 : gd cX12_pours 38 (.iload 4) 2 40 := ⟨by decide +kernel, rfl⟩
theorem d_X12_pours_40 : gd cX12_pours 40 (.iconst 1) 1 41 := ⟨by decide +kernel, rfl⟩
theorem d_X12_pours_41 : gd cX12_pours 41 .isub 1 42 := ⟨by decide +kernel, rfl⟩
theorem d_X12_pours_42 : gd cX12_pours 42 (.iconst 2) 1 43 := ⟨by decide +kernel, rfl⟩
theorem d_X12_pours_43 : gd cX12_pours 43 .idiv 1 44 := ⟨by decide +kernel, rfl⟩
theorem d_X12_pours_44 : gd cX12_pours 44 (.goto 7) 3 47 := ⟨by decide +kernel, rfl⟩
theorem d_X12_pours_47 : gd cX12_pours 47 (.iload 4) 2 49 := ⟨by decide +kernel, rfl⟩
theorem d_X12_pours_49 : gd cX12_pours 49 (.iconst 2) 1 50 := ⟨by decide +kernel, rfl⟩
theorem d_X12_pours_50 : gd cX12_pours 50 .idiv 1 51 := ⟨by decide +kernel, rfl⟩
theorem d_X12_pours_51 : gd cX12_pours 51 (.invokevirtual 346) 3 54 := ⟨by decide +kernel, rfl⟩
theorem d_X12_pours_54 : gd cX12_pours 54 (.istore 6) 2 56 := ⟨by decide +kernel, rfl⟩
theorem d_X12_pours_56 : gd cX12_pours 56 (.aload_n 0) 1 57 := ⟨by decide +kernel, rfl⟩
theorem d_X12_pours_57 : gd cX12_pours 57 (.getfield 71) 3 60 := ⟨by decide +kernel, rfl⟩
theorem d_X12_pours_60 : gd cX12_pours 60 (.aload_n 0) 1 61 := ⟨by decide +kernel, rfl⟩
theorem d_X12_pours_61 : gd cX12_pours 61 (.iload_n 1) 1 62 := ⟨by decide +kernel, rfl⟩
theorem d_X12_pours_62 : gd cX12_pours 62 (.iload 6) 2 64 := ⟨by decide +kernel, rfl⟩
theorem d_X12_pours_64 : gd cX12_pours 64 (.invokevirtual 299) 3 67 := ⟨by decide +kernel, rfl⟩
theorem d_X12_pours_67 : gd cX12_pours 67 .dup2 1 68 := ⟨by decide +kernel, rfl⟩
theorem d_X12_pours_68 : gd cX12_pours 68 .iaload 1 69 := ⟨by decide +kernel, rfl⟩
theorem d_X12_pours_69 : gd cX12_pours 69 (.iconst 1) 1 70 := ⟨by decide +kernel, rfl⟩
theorem d_X12_pours_70 : gd cX12_pours 70 .iadd 1 71 := ⟨by decide +kernel, rfl⟩
theorem d_X12_pours_71 : gd cX12_pours 71 .iastore 1 72 := ⟨by decide +kernel, rfl⟩
theorem d_X12_pours_72 : gd cX12_pours 72 (.iload_n 3) 1 73 := ⟨by decide +kernel, rfl⟩
theorem d_X12_pours_73 : gd cX12_pours 73 (.ifCond .ne 9) 3 76 := ⟨by decide +kernel, rfl⟩
theorem d_X12_pours_76 : gd cX12_pours 76 (.aload_n 0) 1 77 := ⟨by decide +kernel, rfl⟩
theorem d_X12_pours_77 : gd cX12_pours 77 (.iload_n 1) 1 78 := ⟨by decide +kernel, rfl⟩
theorem d_X12_pours_78 : gd cX12_pours 78 (.iconst 0) 1 79 := ⟨by decide +kernel, rfl⟩
theorem d_X12_pours_79 : gd cX12_pours 79 (.invokevirtual 349) 3 82 := ⟨by decide +kernel, rfl⟩
theorem d_X12_pours_82 : gd cX12_pours 82 (.iinc 5 1) 3 85 := ⟨by decide +kernel, rfl⟩
theorem d_X12_pours_85 : gd cX12_pours 85 (.goto (-74)) 3 88 := ⟨by decide +kernel, rfl⟩
theorem d_X12_pours_88 : gd cX12_pours 88 .return_ 1 89 := ⟨by decide +kernel, rfl⟩
def B_X12_pours_54 (q11 : Int32 → Int32 → Int32 → Int32 → Int32 → gs_M → Option (gs_M)) (x1 : Int32) (x2 : Int32) (x3 : Int32) (x4 : Int32) (x5 : Int32) (xs0 : Int32) (μ : gs_M) : Option (gs_M) :=
  bd (D_X12_placeIn x1 xs0 μ) (fun v3 u2 => ck (inb v3 81) (ck (inb v3 81) (lt1 (sI u2 89 (Int32.toNatClampNeg v3) ((gI u2 89 (Int32.toNatClampNeg v3)) + (1 : Int32))) (fun u6 => if x3 = 0 then (bd0 (D_X12_rests x1 (0 : Int32) u6) (fun u9 => q11 x1 x2 x3 x4 (x5 + (1 : Int32)) u9)) else (q11 x1 x2 x3 x4 (x5 + (1 : Int32)) u6)))))
def B_X12_pours_51 (q11 : Int32 → Int32 → Int32 → Int32 → Int32 → gs_M → Option (gs_M)) (x1 : Int32) (x2 : Int32) (x3 : Int32) (x4 : Int32) (x5 : Int32) (xs1 : Int32) (xs2 : Int32) (μ : gs_M) : Option (gs_M) :=
  bd (D_X12_nearest xs1 xs2 μ) (fun v3 u2 => B_X12_pours_54 q11 x1 x2 x3 x4 x5 v3 u2)
def Bo_X12_pours_11 (q11 : Int32 → Int32 → Int32 → Int32 → Int32 → gs_M → Option (gs_M)) (x1 : Int32) (x2 : Int32) (x3 : Int32) (x4 : Int32) (x5 : Int32) (μ : gs_M) : Option (gs_M) :=
  if x2 ≤ x5 then (some μ) else (if x3 = 0 then (if (x5 - x5 / (2 : Int32) * (2 : Int32)) = 0 then (B_X12_pours_51 q11 x1 x2 x3 x4 x5 x1 ((x4 - (1 : Int32)) / (2 : Int32)) μ) else (B_X12_pours_51 q11 x1 x2 x3 x4 x5 x1 (x4 / (2 : Int32)) μ)) else (ck (nzi x4) (B_X12_pours_54 q11 x1 x2 x3 x4 x5 (x5 - x5 / x4 * x4) μ)))
def L_X12_pours_11  : Nat → Int32 → Int32 → Int32 → Int32 → Int32 → gs_M → Option (gs_M)
  | 0 => fun _ _ _ _ _ _ => none
  | n + 1 => fun x1 x2 x3 x4 x5 μ => Bo_X12_pours_11  (L_X12_pours_11  n) x1 x2 x3 x4 x5 μ
def D_X12_pours (x1 : Int32) (x2 : Int32) (x3 : Int32) (μ : gs_M) : Option (gs_M) :=
  bd (D_X12_of x1 (0 : Int32) μ) (fun v3 u2 => L_X12_pours_11 4096 x1 x2 x3 v3 (0 : Int32) u2)
section S_X12_pours
variable {p : Program} {l : Launch} {e : Env} {R : Room} {s : State} {m : MethodId} {args : Array Value} {below : List Frame} {meth : Method} {c : Code} {ad : Nat → Nat} {g : va_G} {tyc : Nat → ClassId}
set_option maxRecDepth 20000 in
theorem T_X12_pours_54  (hK : KC p R s m args meth c ad g tyc RX12 cX12_pours 7 none 5) {μ2 : gs_M} {q11 : Int32 → Int32 → Int32 → Int32 → Int32 → gs_M → Option (gs_M)} (hq11 : ∀ (x1 : Int32) (x2 : Int32) (x3 : Int32) (x4 : Int32) (x5 : Int32) (μ : gs_M), q11 x1 x2 x3 x4 x5 μ = some μ2 → WJ p l e R s m args below meth c 0 0 (MQ below (gs_Q ad g tyc none μ2) args s 0 0 (gs_A ad)) ad g tyc 7 11 [.ref 78, .int x1, .int x2, .int x3, .int x4, .int x5, gs_J] [] μ) {x1 : Int32} {x2 : Int32} {x3 : Int32} {x4 : Int32} {x5 : Int32} {xs0 : Int32} {μ : gs_M}  (hD : B_X12_pours_54 q11 x1 x2 x3 x4 x5 xs0 μ = some μ2) : WJ p l e R s m args below meth c 0 0 (MQ below (gs_Q ad g tyc none μ2) args s 0 0 (gs_A ad)) ad g tyc 7 54 [.ref 78, .int x1, .int x2, .int x3, .int x4, .int x5, gs_J] [.int xs0] μ := by
  unfold B_X12_pours_54 at hD
  refine r_istore hK d_X12_pours_54 (by decide) (ls2 := [.ref 78, .int x1, .int x2, .int x3, .int x4, .int x5, .int xs0]) rfl ?_
  refine r_aload_n hK d_X12_pours_56 rfl rfl ?_
  refine r_getR hK d_X12_pours_57 fl_RX12_71_11 rfl kd_78 ?_
  refine r_ref (b := 89) R0_78_30 ?_
  refine r_aload_n hK d_X12_pours_60 rfl rfl ?_
  refine r_iload_n hK d_X12_pours_61 rfl rfl ?_
  refine r_iload hK d_X12_pours_62 rfl ?_
  obtain ⟨v3, u2, e1, hD⟩ := bd_e hD
  refine r_callV (As := [.int x1, .int xs0]) (st := [.ref 89]) (stk2 := [.int v3, .ref 89]) hK (C_X12_placeIn  e1) d_X12_pours_64 mf_X12_placeIn ml_RX12_299 im_X12_placeIn rfl se_11_RX12_X12_placeIn kd_78 rfl (Nat.le_of_ble_eq_true rfl) (by decide) ⟨Nat.zero_le _, Nat.zero_le _⟩ rfl rfl ?_
  refine r_dup2 hK d_X12_pours_67 rfl rfl ?_
  obtain ⟨h4, hD⟩ := ck_e hD
  refine r_iald hK d_X12_pours_68 kd_89 ln_89 (inb_in h4) ?_
  refine r_iconst hK d_X12_pours_69 ci_1 ?_
  refine r_iadd hK d_X12_pours_70 ?_
  obtain ⟨h5, hD⟩ := ck_e hD
  refine r_iast hK d_X12_pours_71 kd_89 ln_89 (inb_in h5) ?_
  refine r_ltm hD (fun u6 hD => ?_)
  refine r_iload_n hK d_X12_pours_72 rfl rfl ?_
  refine r_if_ne (tgt := 82) hK d_X12_pours_73 (by decide) (fun h7 => ?_) (fun h7 => ?_)
  · have hD := if_f hD h7
    refine r_iinc hK d_X12_pours_82 rfl (v := x5 + (1 : Int32)) (by rw [ci_1]) (by decide) (ls2 := [.ref 78, .int x1, .int x2, .int x3, .int x4, .int (x5 + (1 : Int32)), .int xs0]) rfl ?_
    refine r_goto (tgt := 11) hK d_X12_pours_85 (by decide) ?_
    refine r_junk [true, true, true, true, true, true, false] (ls2 := [.ref 78, .int x1, .int x2, .int x3, .int x4, .int (x5 + (1 : Int32)), gs_J]) rfl ?_
    exact hq11 _ _ _ _ _ _  hD
  · have hD := if_t hD h7
    refine r_aload_n hK d_X12_pours_76 rfl rfl ?_
    refine r_iload_n hK d_X12_pours_77 rfl rfl ?_
    refine r_iconst hK d_X12_pours_78 ci_0 ?_
    obtain ⟨u9, e8, hD⟩ := bd0_e hD
    refine r_callV (As := [.int x1, .int (0 : Int32)]) (st := []) (stk2 := []) hK (C_X12_rests  e8) d_X12_pours_79 mf_X12_rests ml_RX12_349 im_X12_rests rfl se_11_RX12_X12_rests kd_78 rfl (Nat.le_of_ble_eq_true rfl) (by decide) ⟨Nat.zero_le _, Nat.zero_le _⟩ rfl rfl ?_
    refine r_iinc hK d_X12_pours_82 rfl (v := x5 + (1 : Int32)) (by rw [ci_1]) (by decide) (ls2 := [.ref 78, .int x1, .int x2, .int x3, .int x4, .int (x5 + (1 : Int32)), .int xs0]) rfl ?_
    refine r_goto (tgt := 11) hK d_X12_pours_85 (by decide) ?_
    refine r_junk [true, true, true, true, true, true, false] (ls2 := [.ref 78, .int x1, .int x2, .int x3, .int x4, .int (x5 + (1 : Int32)), gs_J]) rfl ?_
    exact hq11 _ _ _ _ _ _  hD
set_option maxRecDepth 20000 in
theorem T_X12_pours_51  (hK : KC p R s m args meth c ad g tyc RX12 cX12_pours 7 none 5) {μ2 : gs_M} {q11 : Int32 → Int32 → Int32 → Int32 → Int32 → gs_M → Option (gs_M)} (hq11 : ∀ (x1 : Int32) (x2 : Int32) (x3 : Int32) (x4 : Int32) (x5 : Int32) (μ : gs_M), q11 x1 x2 x3 x4 x5 μ = some μ2 → WJ p l e R s m args below meth c 0 0 (MQ below (gs_Q ad g tyc none μ2) args s 0 0 (gs_A ad)) ad g tyc 7 11 [.ref 78, .int x1, .int x2, .int x3, .int x4, .int x5, gs_J] [] μ) {x1 : Int32} {x2 : Int32} {x3 : Int32} {x4 : Int32} {x5 : Int32} {xs1 : Int32} {xs2 : Int32} {μ : gs_M}  (hD : B_X12_pours_51 q11 x1 x2 x3 x4 x5 xs1 xs2 μ = some μ2) : WJ p l e R s m args below meth c 0 0 (MQ below (gs_Q ad g tyc none μ2) args s 0 0 (gs_A ad)) ad g tyc 7 51 [.ref 78, .int x1, .int x2, .int x3, .int x4, .int x5, gs_J] [.int xs2, .int xs1, .ref 78] μ := by
  unfold B_X12_pours_51 at hD
  obtain ⟨v3, u2, e1, hD⟩ := bd_e hD
  refine r_callV (As := [.int xs1, .int xs2]) (st := []) (stk2 := [.int v3]) hK (C_X12_nearest  e1) d_X12_pours_51 mf_X12_nearest ml_RX12_346 im_X12_nearest rfl se_11_RX12_X12_nearest kd_78 rfl (Nat.le_of_ble_eq_true rfl) (by decide) ⟨Nat.zero_le _, Nat.zero_le _⟩ rfl rfl ?_
  exact T_X12_pours_54 hK hq11  hD
set_option maxRecDepth 20000 in
theorem To_X12_pours_11  (hK : KC p R s m args meth c ad g tyc RX12 cX12_pours 7 none 5) {μ2 : gs_M} {q11 : Int32 → Int32 → Int32 → Int32 → Int32 → gs_M → Option (gs_M)} (hq11 : ∀ (x1 : Int32) (x2 : Int32) (x3 : Int32) (x4 : Int32) (x5 : Int32) (μ : gs_M), q11 x1 x2 x3 x4 x5 μ = some μ2 → WJ p l e R s m args below meth c 0 0 (MQ below (gs_Q ad g tyc none μ2) args s 0 0 (gs_A ad)) ad g tyc 7 11 [.ref 78, .int x1, .int x2, .int x3, .int x4, .int x5, gs_J] [] μ) {x1 : Int32} {x2 : Int32} {x3 : Int32} {x4 : Int32} {x5 : Int32} {μ : gs_M}  (hD : Bo_X12_pours_11 q11 x1 x2 x3 x4 x5 μ = some μ2) : WJ p l e R s m args below meth c 0 0 (MQ below (gs_Q ad g tyc none μ2) args s 0 0 (gs_A ad)) ad g tyc 7 11 [.ref 78, .int x1, .int x2, .int x3, .int x4, .int x5, gs_J] [] μ := by
  unfold Bo_X12_pours_11 at hD
  refine r_iload hK d_X12_pours_11 rfl ?_
  refine r_iload_n hK d_X12_pours_13 rfl rfl ?_
  refine r_icmp_ge (tgt := 88) hK d_X12_pours_14 (by decide) (fun h1 => ?_) (fun h1 => ?_)
  · have hD := if_t hD h1
    cases hD
    exact r_vret hK d_X12_pours_88
  · have hD := if_f hD h1
    refine r_iload_n hK d_X12_pours_17 rfl rfl ?_
    refine r_if_eq (tgt := 29) hK d_X12_pours_18 (by decide) (fun h2 => ?_) (fun h2 => ?_)
    · have hD := if_t hD h2
      refine r_aload_n hK d_X12_pours_29 rfl rfl ?_
      refine r_iload_n hK d_X12_pours_30 rfl rfl ?_
      refine r_iload hK d_X12_pours_31 rfl ?_
      refine r_iconst hK d_X12_pours_33 ci_2 ?_
      refine r_irem hK d_X12_pours_34 (by decide) ?_
      refine r_if_ne (tgt := 47) hK d_X12_pours_35 (by decide) (fun h3 => ?_) (fun h3 => ?_)
      · have hD := if_f hD h3
        refine r_iload hK d_X12_pours_47 rfl ?_
        refine r_iconst hK d_X12_pours_49 ci_2 ?_
        refine r_idiv hK d_X12_pours_50 (by decide) ?_
        exact T_X12_pours_51 hK hq11  hD
      · have hD := if_t hD h3
        refine r_iload hK d_X12_pours_38 rfl ?_
        refine r_iconst hK d_X12_pours_40 ci_1 ?_
        refine r_isub hK d_X12_pours_41 ?_
        refine r_iconst hK d_X12_pours_42 ci_2 ?_
        refine r_idiv hK d_X12_pours_43 (by decide) ?_
        refine r_goto (tgt := 51) hK d_X12_pours_44 (by decide) ?_
        exact T_X12_pours_51 hK hq11  hD
    · have hD := if_f hD h2
      refine r_iload hK d_X12_pours_21 rfl ?_
      refine r_iload hK d_X12_pours_23 rfl ?_
      obtain ⟨h4, hD⟩ := ck_e hD
      refine r_irem hK d_X12_pours_25 (nzi_e h4) ?_
      refine r_goto (tgt := 54) hK d_X12_pours_26 (by decide) ?_
      exact T_X12_pours_54 hK hq11  hD
set_option maxRecDepth 20000 in
theorem TL_X12_pours_11  (hK : KC p R s m args meth c ad g tyc RX12 cX12_pours 7 none 5) {μ2 : gs_M}   : ∀ (n : Nat) (x1 : Int32) (x2 : Int32) (x3 : Int32) (x4 : Int32) (x5 : Int32) (μ : gs_M), L_X12_pours_11  n x1 x2 x3 x4 x5 μ = some μ2 → WJ p l e R s m args below meth c 0 0 (MQ below (gs_Q ad g tyc none μ2) args s 0 0 (gs_A ad)) ad g tyc 7 11 [.ref 78, .int x1, .int x2, .int x3, .int x4, .int x5, gs_J] [] μ := by
  intro n
  induction n with
  | zero => intro x1 x2 x3 x4 x5 μ  hD; cases hD
  | succ n ih => intro x1 x2 x3 x4 x5 μ  hD; exact To_X12_pours_11 hK  ih  hD
set_option maxRecDepth 20000 in
theorem C_X12_pours  {x1 : Int32} {x2 : Int32} {x3 : Int32} {μ : gs_M} {μ2 : gs_M}  (hD : D_X12_pours x1 x2 x3 μ = some μ2) : CALL yX12_pours cX12_pours 7 none 5 [.ref 78, .int x1, .int x2, .int x3] μ none μ2 := by
  unfold D_X12_pours at hD
  refine gs_enter mf_X12_pours (Nat.le_of_ble_eq_true rfl) (ls := [.ref 78, .int x1, .int x2, .int x3, gs_J, gs_J, gs_J]) rfl (fun p l e R s m args below meth c ad g tyc hK => ?_)
  have hK : KC p R s m args meth c ad g tyc RX12 cX12_pours 7 none 5 := hK
  refine r_aload_n hK d_X12_pours_0 rfl rfl ?_
  refine r_iload_n hK d_X12_pours_1 rfl rfl ?_
  refine r_iconst hK d_X12_pours_2 ci_0 ?_
  obtain ⟨v3, u2, e1, hD⟩ := bd_e hD
  refine r_callV (As := [.int x1, .int (0 : Int32)]) (st := []) (stk2 := [.int v3]) hK (C_X12_of  e1) d_X12_pours_3 mf_X12_of ml_RX12_302 im_X12_of rfl se_11_RX12_X12_of kd_78 rfl (Nat.le_of_ble_eq_true rfl) (by decide) ⟨Nat.zero_le _, Nat.zero_le _⟩ rfl rfl ?_
  refine r_istore hK d_X12_pours_6 (by decide) (ls2 := [.ref 78, .int x1, .int x2, .int x3, .int v3, gs_J, gs_J]) rfl ?_
  refine r_iconst hK d_X12_pours_8 ci_0 ?_
  refine r_istore hK d_X12_pours_9 (by decide) (ls2 := [.ref 78, .int x1, .int x2, .int x3, .int v3, .int (0 : Int32), gs_J]) rfl ?_
  exact TL_X12_pours_11 hK  _ _ _ _ _ _ _  hD
end S_X12_pours
theorem d_X12_loads_0 : gd cX12_loads 0 (.iconst 0) 1 1 := ⟨by decide +kernel, rfl⟩
theorem d_X12_loads_1 : gd cX12_loads 1 (.istore 8) 2 3 := ⟨by decide +kernel, rfl⟩
theorem d_X12_loads_3 : gd cX12_loads 3 (.iload 8) 2 5 := ⟨by decide +kernel, rfl⟩
theorem d_X12_loads_5 : gd cX12_loads 5 (.bipush 81) 2 7 := ⟨by decide +kernel, rfl⟩
theorem d_X12_loads_7 : gd cX12_loads 7 (.if_icmp .ge 17) 3 10 := ⟨by decide +kernel, rfl⟩
theorem d_X12_loads_10 : gd cX12_loads 10 (.aload_n 0) 1 11 := ⟨by decide +kernel, rfl⟩
theorem d_X12_loads_11 : gd cX12_loads 11 (.getfield 71) 3 14 := ⟨by decide +kernel, rfl⟩
theorem d_X12_loads_14 : gd cX12_loads 14 (.iload 8) 2 16 := ⟨by decide +kernel, rfl⟩
theorem d_X12_loads_16 : gd cX12_loads 16 (.iconst 0) 1 17 := ⟨by decide +kernel, rfl⟩
theorem d_X12_loads_17 : gd cX12_loads 17 .iastore 1 18 := ⟨by decide +kernel, rfl⟩
theorem d_X12_loads_18 : gd cX12_loads 18 (.iinc 8 1) 3 21 := ⟨by decide +kernel, rfl⟩
theorem d_X12_loads_21 : gd cX12_loads 21 (.goto (-18)) 3 24 := ⟨by decide +kernel, rfl⟩
theorem d_X12_loads_24 : gd cX12_loads 24 (.aload_n 0) 1 25 := ⟨by decide +kernel, rfl⟩
theorem d_X12_loads_25 : gd cX12_loads 25 (.getfield 71) 3 28 := ⟨by decide +kernel, rfl⟩
theorem d_X12_loads_28 : gd cX12_loads 28 (.bipush 76) 2 30 := ⟨by decide +kernel, rfl⟩
theorem d_X12_loads_30 : gd cX12_loads 30 (.aload_n 0) 1 31 := ⟨by decide +kernel, rfl⟩
theorem d_X12_loads_31 : gd cX12_loads 31 (.getfield 46) 3 34 := ⟨by decide +kernel, rfl⟩
theorem d_X12_loads_34 : gd cX12_loads 34 (.iload_n 1) 1 35 := ⟨by decide +kernel, rfl⟩
theorem d_X12_loads_35 : gd cX12_loads 35 .iaload 1 36 := ⟨by decide +kernel, rfl⟩
theorem d_X12_loads_36 : gd cX12_loads 36 .iastore 1 37 := ⟨by decide +kernel, rfl⟩
theorem d_X12_loads_37 : gd cX12_loads 37 (.aload_n 0) 1 38 := ⟨by decide +kernel, rfl⟩
theorem d_X12_loads_38 : gd cX12_loads 38 (.getfield 71) 3 41 := ⟨by decide +kernel, rfl⟩
theorem d_X12_loads_41 : gd cX12_loads 41 (.bipush 80) 2 43 := ⟨by decide +kernel, rfl⟩
theorem d_X12_loads_43 : gd cX12_loads 43 (.iconst 1) 1 44 := ⟨by decide +kernel, rfl⟩
theorem d_X12_loads_44 : gd cX12_loads 44 .iastore 1 45 := ⟨by decide +kernel, rfl⟩
theorem d_X12_loads_45 : gd cX12_loads 45 (.aload_n 0) 1 46 := ⟨by decide +kernel, rfl⟩
theorem d_X12_loads_46 : gd cX12_loads 46 (.lload 6) 2 48 := ⟨by decide +kernel, rfl⟩
theorem d_X12_loads_48 : gd cX12_loads 48 (.putfield 352) 3 51 := ⟨by decide +kernel, rfl⟩
theorem d_X12_loads_51 : gd cX12_loads 51 (.iconst 0) 1 52 := ⟨by decide +kernel, rfl⟩
theorem d_X12_loads_52 : gd cX12_loads 52 (.istore 8) 2 54 := ⟨by decide +kernel, rfl⟩
theorem d_X12_loads_54 : gd cX12_loads 54 (.iload 8) 2 56 := ⟨by decide +kernel, rfl⟩
theorem d_X12_loads_56 : gd cX12_loads 56 (.aload_n 0) 1 57 := ⟨by decide +kernel, rfl⟩
theorem d_X12_loads_57 : gd cX12_loads 57 (.bipush 76) 2 59 := ⟨by decide +kernel, rfl⟩
theorem d_X12_loads_59 : gd cX12_loads 59 (.invokevirtual 337) 3 62 := ⟨by decide +kernel, rfl⟩
theorem d_X12_loads_62 : gd cX12_loads 62 (.if_icmp .ge 162) 3 65 := ⟨by decide +kernel, rfl⟩
theorem d_X12_loads_65 : gd cX12_loads 65 (.aload_n 0) 1 66 := ⟨by decide +kernel, rfl⟩
theorem d_X12_loads_66 : gd cX12_loads 66 (.getfield 71) 3 69 := ⟨by decide +kernel, rfl⟩
theorem d_X12_loads_69 : gd cX12_loads 69 (.bipush 7) 2 71 := ⟨by decide +kernel, rfl⟩
theorem d_X12_loads_71 : gd cX12_loads 71 (.iload 8) 2 73 := ⟨by decide +kernel, rfl⟩
theorem d_X12_loads_73 : gd cX12_loads 73 .imul 1 74 := ⟨by decide +kernel, rfl⟩
theorem d_X12_loads_74 : gd cX12_loads 74 (.iconst 0) 1 75 := ⟨by decide +kernel, rfl⟩
theorem d_X12_loads_75 : gd cX12_loads 75 .iadd 1 76 := ⟨by decide +kernel, rfl⟩
theorem d_X12_loads_76 : gd cX12_loads 76 (.aload_n 0) 1 77 := ⟨by decide +kernel, rfl⟩
theorem d_X12_loads_77 : gd cX12_loads 77 (.iload_n 1) 1 78 := ⟨by decide +kernel, rfl⟩
theorem d_X12_loads_78 : gd cX12_loads 78 (.iload 8) 2 80 := ⟨by decide +kernel, rfl⟩
theorem d_X12_loads_80 : gd cX12_loads 80 (.iconst 0) 1 81 := ⟨by decide +kernel, rfl⟩
theorem d_X12_loads_81 : gd cX12_loads 81 (.invokevirtual 286) 3 84 := ⟨by decide +kernel, rfl⟩
theorem d_X12_loads_84 : gd cX12_loads 84 .iastore 1 85 := ⟨by decide +kernel, rfl⟩
theorem d_X12_loads_85 : gd cX12_loads 85 (.aload_n 0) 1 86 := ⟨by decide +kernel, rfl⟩
theorem d_X12_loads_86 : gd cX12_loads 86 (.getfield 71) 3 89 := ⟨by decide +kernel, rfl⟩
theorem d_X12_loads_89 : gd cX12_loads 89 (.bipush 7) 2 91 := ⟨by decide +kernel, rfl⟩
theorem d_X12_loads_91 : gd cX12_loads 91 (.iload 8) 2 93 := ⟨by decide +kernel, rfl⟩
theorem d_X12_loads_93 : gd cX12_loads 93 .imul 1 94 := ⟨by decide +kernel, rfl⟩
theorem d_X12_loads_94 : gd cX12_loads 94 (.iconst 1) 1 95 := ⟨by decide +kernel, rfl⟩
theorem d_X12_loads_95 : gd cX12_loads 95 .iadd 1 96 := ⟨by decide +kernel, rfl⟩
theorem d_X12_loads_96 : gd cX12_loads 96 (.aload_n 0) 1 97 := ⟨by decide +kernel, rfl⟩
theorem d_X12_loads_97 : gd cX12_loads 97 (.iload_n 1) 1 98 := ⟨by decide +kernel, rfl⟩
theorem d_X12_loads_98 : gd cX12_loads 98 (.iload 8) 2 100 := ⟨by decide +kernel, rfl⟩
theorem d_X12_loads_100 : gd cX12_loads 100 (.iconst 1) 1 101 := ⟨by decide +kernel, rfl⟩
theorem d_X12_loads_101 : gd cX12_loads 101 (.invokevirtual 286) 3 104 := ⟨by decide +kernel, rfl⟩
theorem d_X12_loads_104 : gd cX12_loads 104 .iastore 1 105 := ⟨by decide +kernel, rfl⟩
theorem d_X12_loads_105 : gd cX12_loads 105 (.aload_n 0) 1 106 := ⟨by decide +kernel, rfl⟩
theorem d_X12_loads_106 : gd cX12_loads 106 (.getfield 71) 3 109 := ⟨by decide +kernel, rfl⟩
theorem d_X12_loads_109 : gd cX12_loads 109 (.bipush 7) 2 111 := ⟨by decide +kernel, rfl⟩
theorem d_X12_loads_111 : gd cX12_loads 111 (.iload 8) 2 113 := ⟨by decide +kernel, rfl⟩
theorem d_X12_loads_113 : gd cX12_loads 113 .imul 1 114 := ⟨by decide +kernel, rfl⟩
theorem d_X12_loads_114 : gd cX12_loads 114 (.iconst 2) 1 115 := ⟨by decide +kernel, rfl⟩
theorem d_X12_loads_115 : gd cX12_loads 115 .iadd 1 116 := ⟨by decide +kernel, rfl⟩
theorem d_X12_loads_116 : gd cX12_loads 116 (.aload_n 0) 1 117 := ⟨by decide +kernel, rfl⟩
theorem d_X12_loads_117 : gd cX12_loads 117 (.iload_n 2) 1 118 := ⟨by decide +kernel, rfl⟩
theorem d_X12_loads_118 : gd cX12_loads 118 (.iload 8) 2 120 := ⟨by decide +kernel, rfl⟩
theorem d_X12_loads_120 : gd cX12_loads 120 (.iconst 0) 1 121 := ⟨by decide +kernel, rfl⟩
theorem d_X12_loads_121 : gd cX12_loads 121 (.invokevirtual 293) 3 124 := ⟨by decide +kernel, rfl⟩
theorem d_X12_loads_124 : gd cX12_loads 124 .iastore 1 125 := ⟨by decide +kernel, rfl⟩
theorem d_X12_loads_125 : gd cX12_loads 125 (.aload_n 0) 1 126 := ⟨by decide +kernel, rfl⟩
theorem d_X12_loads_126 : gd cX12_loads 126 (.getfield 71) 3 129 := ⟨by decide +kernel, rfl⟩
theorem d_X12_loads_129 : gd cX12_loads 129 (.bipush 7) 2 131 := ⟨by decide +kernel, rfl⟩
theorem d_X12_loads_131 : gd cX12_loads 131 (.iload 8) 2 133 := ⟨by decide +kernel, rfl⟩
theorem d_X12_loads_133 : gd cX12_loads 133 .imul 1 134 := ⟨by decide +kernel, rfl⟩
theorem d_X12_loads_134 : gd cX12_loads 134 (.iconst 3) 1 135 := ⟨by decide +kernel, rfl⟩
theorem d_X12_loads_135 : gd cX12_loads 135 .iadd 1 136 := ⟨by decide +kernel, rfl⟩
theorem d_X12_loads_136 : gd cX12_loads 136 (.iload 8) 2 138 := ⟨by decide +kernel, rfl⟩
theorem d_X12_loads_138 : gd cX12_loads 138 (.iload_n 3) 1 139 := ⟨by decide +kernel, rfl⟩
theorem d_X12_loads_139 : gd cX12_loads 139 (.if_icmp .ne 8) 3 142 := ⟨by decide +kernel, rfl⟩
theorem d_X12_loads_142 : gd cX12_loads 142 (.iload 4) 2 144 := ⟨by decide +kernel, rfl⟩
theorem d_X12_loads_144 : gd cX12_loads 144 (.goto 11) 3 147 := ⟨by decide +kernel, rfl⟩
theorem d_X12_loads_147 : gd cX12_loads 147 (.aload_n 0) 1 148 := ⟨by decide +kernel, rfl⟩
theorem d_X12_loads_148 : gd cX12_loads 148 (.iload_n 2) 1 149 := ⟨by decide +kernel, rfl⟩
theorem d_X12_loads_149 : gd cX12_loads 149 (.iload 8) 2 151 := ⟨by decide +kernel, rfl⟩
theorem d_X12_loads_151 : gd cX12_loads 151 (.iconst 3) 1 152 := ⟨by decide +kernel, rfl⟩
theorem d_X12_loads_152 : gd cX12_loads 152 (.invokevirtual 293) 3 155 := ⟨by decide +kernel, rfl⟩
theorem d_X12_loads_155 : gd cX12_loads 155 .iastore 1 156 := ⟨by decide +kernel, rfl⟩
theorem d_X12_loads_156 : gd cX12_loads 156 (.aload_n 0) 1 157 := ⟨by decide +kernel, rfl⟩
theorem d_X12_loads_157 : gd cX12_loads 157 (.getfield 71) 3 160 := ⟨by decide +kernel, rfl⟩
theorem d_X12_loads_160 : gd cX12_loads 160 (.bipush 7) 2 162 := ⟨by decide +kernel, rfl⟩
theorem d_X12_loads_162 : gd cX12_loads 162 (.iload 8) 2 164 := ⟨by decide +kernel, rfl⟩
theorem d_X12_loads_164 : gd cX12_loads 164 .imul 1 165 := ⟨by decide +kernel, rfl⟩
theorem d_X12_loads_165 : gd cX12_loads 165 (.iconst 4) 1 166 := ⟨by decide +kernel, rfl⟩
theorem d_X12_loads_166 : gd cX12_loads 166 .iadd 1 167 := ⟨by decide +kernel, rfl⟩
theorem d_X12_loads_167 : gd cX12_loads 167 (.iload 8) 2 169 := ⟨by decide +kernel, rfl⟩
theorem d_X12_loads_169 : gd cX12_loads 169 (.iload_n 3) 1 170 := ⟨by decide +kernel, rfl⟩
theorem d_X12_loads_170 : gd cX12_loads 170 (.if_icmp .ne 8) 3 173 := ⟨by decide +kernel, rfl⟩
theorem d_X12_loads_173 : gd cX12_loads 173 (.iload 5) 2 175 := ⟨by decide +kernel, rfl⟩
theorem d_X12_loads_175 : gd cX12_loads 175 (.goto 11) 3 178 := ⟨by decide +kernel, rfl⟩
theorem d_X12_loads_178 : gd cX12_loads 178 (.aload_n 0) 1 179 := ⟨by decide +kernel, rfl⟩
theorem d_X12_loads_179 : gd cX12_loads 179 (.iload_n 2) 1 180 := ⟨by decide +kernel, rfl⟩
theorem d_X12_loads_180 : gd cX12_loads 180 (.iload 8) 2 182 := ⟨by decide +kernel, rfl⟩
theorem d_X12_loads_182 : gd cX12_loads 182 (.iconst 4) 1 183 := ⟨by decide +kernel, rfl⟩
theorem d_X12_loads_183 : gd cX12_loads 183 (.invokevirtual 293) 3 186 := ⟨by decide +kernel, rfl⟩
theorem d_X12_loads_186 : gd cX12_loads 186 .iastore 1 187 := ⟨by decide +kernel, rfl⟩
theorem d_X12_loads_187 : gd cX12_loads 187 (.aload_n 0) 1 188 := ⟨by decide +kernel, rfl⟩
theorem d_X12_loads_188 : gd cX12_loads 188 (.iload 8) 2 190 := ⟨by decide +kernel, rfl⟩
theorem d_X12_loads_190 : gd cX12_loads 190 (.aload_n 0) 1 191 := ⟨by decide +kernel, rfl⟩
theorem d_X12_loads_191 : gd cX12_loads 191 (.iload_n 2) 1 192 := ⟨by decide +kernel, rfl⟩
theorem d_X12_loads_192 : gd cX12_loads 192 (.iload 8) 2 194 := ⟨by decide +kernel, rfl⟩
theorem d_X12_loads_194 : gd cX12_loads 194 (.iconst 1) 1 195 := ⟨by decide +kernel, rfl⟩
theorem d_X12_loads_195 : gd cX12_loads 195 (.invokevirtual 293) 3 198 := ⟨by decide +kernel, rfl⟩
theorem d_X12_loads_198 : gd cX12_loads 198 (.aload_n 0) 1 199 := ⟨by decide +kernel, rfl⟩
theorem d_X12_loads_199 : gd cX12_loads 199 (.iload_n 2) 1 200 := ⟨by decide +kernel, rfl⟩
theorem d_X12_loads_200 : gd cX12_loads 200 (.iload 8) 2 202 := ⟨by decide +kernel, rfl⟩
theorem d_X12_loads_202 : gd cX12_loads 202 (.iconst 2) 1 203 := ⟨by decide +kernel, rfl⟩
theorem d_X12_loads_203 : gd cX12_loads 203 (.invokevirtual 293) 3 206 := ⟨by decide +kernel, rfl⟩
theorem d_X12_loads_206 : gd cX12_loads 206 (.iconst 1) 1 207 := ⟨by decide +kernel, rfl⟩
theorem d_X12_loads_207 : gd cX12_loads 207 (.if_icmp .ne 7) 3 210 := ⟨by decide +kernel, rfl⟩
theorem d_X12_loads_210 : gd cX12_loads 210 (.iconst 1) 1 211 := ⟨by decide +kernel, rfl⟩
theorem d_X12_loads_211 : gd cX12_loads 211 (.goto 4) 3 214 := ⟨by decide +kernel, rfl⟩
theorem d_X12_loads_214 : gd cX12_loads 214 (.iconst 0) 1 215 := ⟨by decide +kernel, rfl⟩
theorem d_X12_loads_215 : gd cX12_loads 215 (.invokevirtual 356) 3 218 := ⟨by decide +kernel, rfl⟩
theorem d_X12_loads_218 : gd cX12_loads 218 (.iinc 8 1) 3 221 := ⟨by decide +kernel, rfl⟩
theorem d_X12_loads_221 : gd cX12_loads 221 (.goto (-167)) 3 224 := ⟨by decide +kernel, rfl⟩
theorem d_X12_loads_224 : gd cX12_loads 224 .return_ 1 225 := ⟨by decide +kernel, rfl⟩
def B_X12_loads_215 (q54 : Int32 → Int32 → Int32 → Int32 → Int32 → Int32 → gs_M → Option (gs_M)) (x1 : Int32) (x2 : Int32) (x3 : Int32) (x4 : Int32) (x5 : Int32) (x8 : Int32) (xs1 : Int32) (xs2 : Int32) (xs3 : Int32) (μ : gs_M) : Option (gs_M) :=
  bd0 (D_X12_pours xs1 xs2 xs3 μ) (fun u2 => q54 x1 x2 x3 x4 x5 (x8 + (1 : Int32)) u2)
def B_X12_loads_186 (q54 : Int32 → Int32 → Int32 → Int32 → Int32 → Int32 → gs_M → Option (gs_M)) (x1 : Int32) (x2 : Int32) (x3 : Int32) (x4 : Int32) (x5 : Int32) (x8 : Int32) (xs1 : Int32) (xs2 : Int32) (μ : gs_M) : Option (gs_M) :=
  ck (inb xs1 81) (lt1 (sI μ 89 (Int32.toNatClampNeg xs1) xs2) (fun u2 => bd (D_X12_layingOf x2 x8 (1 : Int32) u2) (fun v5 u4 => bd (D_X12_layingOf x2 x8 (2 : Int32) u4) (fun v8 u7 => if v8 = (1 : Int32) then (B_X12_loads_215 q54 x1 x2 x3 x4 x5 x8 x8 v5 (1 : Int32) u7) else (B_X12_loads_215 q54 x1 x2 x3 x4 x5 x8 x8 v5 (0 : Int32) u7)))))
def B_X12_loads_155 (q54 : Int32 → Int32 → Int32 → Int32 → Int32 → Int32 → gs_M → Option (gs_M)) (x1 : Int32) (x2 : Int32) (x3 : Int32) (x4 : Int32) (x5 : Int32) (x8 : Int32) (xs1 : Int32) (xs2 : Int32) (μ : gs_M) : Option (gs_M) :=
  ck (inb xs1 81) (lt1 (sI μ 89 (Int32.toNatClampNeg xs1) xs2) (fun u2 => if x8 = x3 then (B_X12_loads_186 q54 x1 x2 x3 x4 x5 x8 (((7 : Int32) * x8) + (4 : Int32)) x5 u2) else (bd (D_X12_layingOf x2 x8 (4 : Int32) u2) (fun v6 u5 => B_X12_loads_186 q54 x1 x2 x3 x4 x5 x8 (((7 : Int32) * x8) + (4 : Int32)) v6 u5))))
def Bo_X12_loads_54 (q54 : Int32 → Int32 → Int32 → Int32 → Int32 → Int32 → gs_M → Option (gs_M)) (x1 : Int32) (x2 : Int32) (x3 : Int32) (x4 : Int32) (x5 : Int32) (x8 : Int32) (μ : gs_M) : Option (gs_M) :=
  bd (D_X12_now (76 : Int32) μ) (fun v3 u2 => if v3 ≤ x8 then (some u2) else (bd (D_X12_holdOf x1 x8 (0 : Int32) u2) (fun v7 u6 => ck (inb (((7 : Int32) * x8) + (0 : Int32)) 81) (lt1 (sI u6 89 (Int32.toNatClampNeg (((7 : Int32) * x8) + (0 : Int32))) v7) (fun u9 => bd (D_X12_holdOf x1 x8 (1 : Int32) u9) (fun v12 u11 => ck (inb (((7 : Int32) * x8) + (1 : Int32)) 81) (lt1 (sI u11 89 (Int32.toNatClampNeg (((7 : Int32) * x8) + (1 : Int32))) v12) (fun u14 => bd (D_X12_layingOf x2 x8 (0 : Int32) u14) (fun v17 u16 => ck (inb (((7 : Int32) * x8) + (2 : Int32)) 81) (lt1 (sI u16 89 (Int32.toNatClampNeg (((7 : Int32) * x8) + (2 : Int32))) v17) (fun u19 => if x8 = x3 then (B_X12_loads_155 q54 x1 x2 x3 x4 x5 x8 (((7 : Int32) * x8) + (3 : Int32)) x4 u19) else (bd (D_X12_layingOf x2 x8 (3 : Int32) u19) (fun v23 u22 => B_X12_loads_155 q54 x1 x2 x3 x4 x5 x8 (((7 : Int32) * x8) + (3 : Int32)) v23 u22)))))))))))))
def L_X12_loads_54  : Nat → Int32 → Int32 → Int32 → Int32 → Int32 → Int32 → gs_M → Option (gs_M)
  | 0 => fun _ _ _ _ _ _ _ => none
  | n + 1 => fun x1 x2 x3 x4 x5 x8 μ => Bo_X12_loads_54  (L_X12_loads_54  n) x1 x2 x3 x4 x5 x8 μ
def Bo_X12_loads_3 (q3 : Int32 → Int32 → Int32 → Int32 → Int32 → Int64 → Int32 → gs_M → Option (gs_M)) (x1 : Int32) (x2 : Int32) (x3 : Int32) (x4 : Int32) (x5 : Int32) (z6 : Int64) (x8 : Int32) (μ : gs_M) : Option (gs_M) :=
  if (81 : Int32) ≤ x8 then (ck (inb x1 4) (ck (inb (76 : Int32) 81) (lt1 (sI μ 89 (Int32.toNatClampNeg (76 : Int32)) (gI μ 86 (Int32.toNatClampNeg x1))) (fun u4 => ck (inb (80 : Int32) 81) (lt1 (sI u4 89 (Int32.toNatClampNeg (80 : Int32)) (1 : Int32)) (fun u6 => lt1 (sL u6 78 33 z6) (fun u7 => L_X12_loads_54 4096 x1 x2 x3 x4 x5 (0 : Int32) u7))))))) else (ck (inb x8 81) (lt1 (sI μ 89 (Int32.toNatClampNeg x8) (0 : Int32)) (fun u9 => q3 x1 x2 x3 x4 x5 z6 (x8 + (1 : Int32)) u9)))
def L_X12_loads_3  : Nat → Int32 → Int32 → Int32 → Int32 → Int32 → Int64 → Int32 → gs_M → Option (gs_M)
  | 0 => fun _ _ _ _ _ _ _ _ => none
  | n + 1 => fun x1 x2 x3 x4 x5 z6 x8 μ => Bo_X12_loads_3  (L_X12_loads_3  n) x1 x2 x3 x4 x5 z6 x8 μ
def D_X12_loads (x1 : Int32) (x2 : Int32) (x3 : Int32) (x4 : Int32) (x5 : Int32) (z6 : Int64) (μ : gs_M) : Option (gs_M) :=
  L_X12_loads_3 4096 x1 x2 x3 x4 x5 z6 (0 : Int32) μ
section S_X12_loads
variable {p : Program} {l : Launch} {e : Env} {R : Room} {s : State} {m : MethodId} {args : Array Value} {below : List Frame} {meth : Method} {c : Code} {ad : Nat → Nat} {g : va_G} {tyc : Nat → ClassId}
set_option maxRecDepth 20000 in
theorem T_X12_loads_215  (hK : KC p R s m args meth c ad g tyc RX12 cX12_loads 9 none 6) {μ2 : gs_M} {q54 : Int32 → Int32 → Int32 → Int32 → Int32 → Int32 → gs_M → Option (gs_M)} (hq54 : ∀ (x1 : Int32) (x2 : Int32) (x3 : Int32) (x4 : Int32) (x5 : Int32) (x8 : Int32) (μ : gs_M), q54 x1 x2 x3 x4 x5 x8 μ = some μ2 → WJ p l e R s m args below meth c 0 0 (MQ below (gs_Q ad g tyc none μ2) args s 0 0 (gs_A ad)) ad g tyc 9 54 [.ref 78, .int x1, .int x2, .int x3, .int x4, .int x5, gs_J, gs_J, .int x8] [] μ) {x1 : Int32} {x2 : Int32} {x3 : Int32} {x4 : Int32} {x5 : Int32} {x8 : Int32} {xs1 : Int32} {xs2 : Int32} {xs3 : Int32} {μ : gs_M}  (hD : B_X12_loads_215 q54 x1 x2 x3 x4 x5 x8 xs1 xs2 xs3 μ = some μ2) : WJ p l e R s m args below meth c 0 0 (MQ below (gs_Q ad g tyc none μ2) args s 0 0 (gs_A ad)) ad g tyc 9 215 [.ref 78, .int x1, .int x2, .int x3, .int x4, .int x5, gs_J, gs_J, .int x8] [.int xs3, .int xs2, .int xs1, .ref 78] μ := by
  unfold B_X12_loads_215 at hD
  obtain ⟨u2, e1, hD⟩ := bd0_e hD
  refine r_callV (As := [.int xs1, .int xs2, .int xs3]) (st := []) (stk2 := []) hK (C_X12_pours  e1) d_X12_loads_215 mf_X12_pours ml_RX12_356 im_X12_pours rfl se_11_RX12_X12_pours kd_78 rfl (Nat.le_of_ble_eq_true rfl) (by decide) ⟨Nat.zero_le _, Nat.zero_le _⟩ rfl rfl ?_
  refine r_iinc hK d_X12_loads_218 rfl (v := x8 + (1 : Int32)) (by rw [ci_1]) (by decide) (ls2 := [.ref 78, .int x1, .int x2, .int x3, .int x4, .int x5, gs_J, gs_J, .int (x8 + (1 : Int32))]) rfl ?_
  refine r_goto (tgt := 54) hK d_X12_loads_221 (by decide) ?_
  exact hq54 _ _ _ _ _ _ _  hD
set_option maxRecDepth 20000 in
theorem T_X12_loads_186  (hK : KC p R s m args meth c ad g tyc RX12 cX12_loads 9 none 6) {μ2 : gs_M} {q54 : Int32 → Int32 → Int32 → Int32 → Int32 → Int32 → gs_M → Option (gs_M)} (hq54 : ∀ (x1 : Int32) (x2 : Int32) (x3 : Int32) (x4 : Int32) (x5 : Int32) (x8 : Int32) (μ : gs_M), q54 x1 x2 x3 x4 x5 x8 μ = some μ2 → WJ p l e R s m args below meth c 0 0 (MQ below (gs_Q ad g tyc none μ2) args s 0 0 (gs_A ad)) ad g tyc 9 54 [.ref 78, .int x1, .int x2, .int x3, .int x4, .int x5, gs_J, gs_J, .int x8] [] μ) {x1 : Int32} {x2 : Int32} {x3 : Int32} {x4 : Int32} {x5 : Int32} {x8 : Int32} {xs1 : Int32} {xs2 : Int32} {μ : gs_M}  (hD : B_X12_loads_186 q54 x1 x2 x3 x4 x5 x8 xs1 xs2 μ = some μ2) : WJ p l e R s m args below meth c 0 0 (MQ below (gs_Q ad g tyc none μ2) args s 0 0 (gs_A ad)) ad g tyc 9 186 [.ref 78, .int x1, .int x2, .int x3, .int x4, .int x5, gs_J, gs_J, .int x8] [.int xs2, .int xs1, .ref 89] μ := by
  unfold B_X12_loads_186 at hD
  obtain ⟨h1, hD⟩ := ck_e hD
  refine r_iast hK d_X12_loads_186 kd_89 ln_89 (inb_in h1) ?_
  refine r_ltm hD (fun u2 hD => ?_)
  refine r_aload_n hK d_X12_loads_187 rfl rfl ?_
  refine r_iload hK d_X12_loads_188 rfl ?_
  refine r_aload_n hK d_X12_loads_190 rfl rfl ?_
  refine r_iload_n hK d_X12_loads_191 rfl rfl ?_
  refine r_iload hK d_X12_loads_192 rfl ?_
  refine r_iconst hK d_X12_loads_194 ci_1 ?_
  obtain ⟨v5, u4, e3, hD⟩ := bd_e hD
  refine r_callV (As := [.int x2, .int x8, .int (1 : Int32)]) (st := [.int x8, .ref 78]) (stk2 := [.int v5, .int x8, .ref 78]) hK (C_X12_layingOf  e3) d_X12_loads_195 mf_X12_layingOf ml_RX12_293 im_X12_layingOf rfl se_11_RX12_X12_layingOf kd_78 rfl (Nat.le_of_ble_eq_true rfl) (by decide) ⟨Nat.zero_le _, Nat.zero_le _⟩ rfl rfl ?_
  refine r_aload_n hK d_X12_loads_198 rfl rfl ?_
  refine r_iload_n hK d_X12_loads_199 rfl rfl ?_
  refine r_iload hK d_X12_loads_200 rfl ?_
  refine r_iconst hK d_X12_loads_202 ci_2 ?_
  obtain ⟨v8, u7, e6, hD⟩ := bd_e hD
  refine r_callV (As := [.int x2, .int x8, .int (2 : Int32)]) (st := [.int v5, .int x8, .ref 78]) (stk2 := [.int v8, .int v5, .int x8, .ref 78]) hK (C_X12_layingOf  e6) d_X12_loads_203 mf_X12_layingOf ml_RX12_293 im_X12_layingOf rfl se_11_RX12_X12_layingOf kd_78 rfl (Nat.le_of_ble_eq_true rfl) (by decide) ⟨Nat.zero_le _, Nat.zero_le _⟩ rfl rfl ?_
  refine r_iconst hK d_X12_loads_206 ci_1 ?_
  refine r_icmp_ne (tgt := 214) hK d_X12_loads_207 (by decide) (fun h9 => ?_) (fun h9 => ?_)
  · have hD := if_f hD h9
    refine r_iconst hK d_X12_loads_214 ci_0 ?_
    exact T_X12_loads_215 hK hq54  hD
  · have hD := if_t hD h9
    refine r_iconst hK d_X12_loads_210 ci_1 ?_
    refine r_goto (tgt := 215) hK d_X12_loads_211 (by decide) ?_
    exact T_X12_loads_215 hK hq54  hD
set_option maxRecDepth 20000 in
theorem T_X12_loads_155  (hK : KC p R s m args meth c ad g tyc RX12 cX12_loads 9 none 6) {μ2 : gs_M} {q54 : Int32 → Int32 → Int32 → Int32 → Int32 → Int32 → gs_M → Option (gs_M)} (hq54 : ∀ (x1 : Int32) (x2 : Int32) (x3 : Int32) (x4 : Int32) (x5 : Int32) (x8 : Int32) (μ : gs_M), q54 x1 x2 x3 x4 x5 x8 μ = some μ2 → WJ p l e R s m args below meth c 0 0 (MQ below (gs_Q ad g tyc none μ2) args s 0 0 (gs_A ad)) ad g tyc 9 54 [.ref 78, .int x1, .int x2, .int x3, .int x4, .int x5, gs_J, gs_J, .int x8] [] μ) {x1 : Int32} {x2 : Int32} {x3 : Int32} {x4 : Int32} {x5 : Int32} {x8 : Int32} {xs1 : Int32} {xs2 : Int32} {μ : gs_M}  (hD : B_X12_loads_155 q54 x1 x2 x3 x4 x5 x8 xs1 xs2 μ = some μ2) : WJ p l e R s m args below meth c 0 0 (MQ below (gs_Q ad g tyc none μ2) args s 0 0 (gs_A ad)) ad g tyc 9 155 [.ref 78, .int x1, .int x2, .int x3, .int x4, .int x5, gs_J, gs_J, .int x8] [.int xs2, .int xs1, .ref 89] μ := by
  unfold B_X12_loads_155 at hD
  obtain ⟨h1, hD⟩ := ck_e hD
  refine r_iast hK d_X12_loads_155 kd_89 ln_89 (inb_in h1) ?_
  refine r_ltm hD (fun u2 hD => ?_)
  refine r_aload_n hK d_X12_loads_156 rfl rfl ?_
  refine r_getR hK d_X12_loads_157 fl_RX12_71_11 rfl kd_78 ?_
  refine r_ref (b := 89) R0_78_30 ?_
  refine r_bipush hK d_X12_loads_160 cb_7 ?_
  refine r_iload hK d_X12_loads_162 rfl ?_
  refine r_imul hK d_X12_loads_164 ?_
  refine r_iconst hK d_X12_loads_165 ci_4 ?_
  refine r_iadd hK d_X12_loads_166 ?_
  refine r_iload hK d_X12_loads_167 rfl ?_
  refine r_iload_n hK d_X12_loads_169 rfl rfl ?_
  refine r_icmp_ne (tgt := 178) hK d_X12_loads_170 (by decide) (fun h3 => ?_) (fun h3 => ?_)
  · have hD := if_f hD h3
    refine r_aload_n hK d_X12_loads_178 rfl rfl ?_
    refine r_iload_n hK d_X12_loads_179 rfl rfl ?_
    refine r_iload hK d_X12_loads_180 rfl ?_
    refine r_iconst hK d_X12_loads_182 ci_4 ?_
    obtain ⟨v6, u5, e4, hD⟩ := bd_e hD
    refine r_callV (As := [.int x2, .int x8, .int (4 : Int32)]) (st := [.int (((7 : Int32) * x8) + (4 : Int32)), .ref 89]) (stk2 := [.int v6, .int (((7 : Int32) * x8) + (4 : Int32)), .ref 89]) hK (C_X12_layingOf  e4) d_X12_loads_183 mf_X12_layingOf ml_RX12_293 im_X12_layingOf rfl se_11_RX12_X12_layingOf kd_78 rfl (Nat.le_of_ble_eq_true rfl) (by decide) ⟨Nat.zero_le _, Nat.zero_le _⟩ rfl rfl ?_
    exact T_X12_loads_186 hK hq54  hD
  · have hD := if_t hD h3
    refine r_iload hK d_X12_loads_173 rfl ?_
    refine r_goto (tgt := 186) hK d_X12_loads_175 (by decide) ?_
    exact T_X12_loads_186 hK hq54  hD
set_option maxRecDepth 20000 in
theorem To_X12_loads_54  (hK : KC p R s m args meth c ad g tyc RX12 cX12_loads 9 none 6) {μ2 : gs_M} {q54 : Int32 → Int32 → Int32 → Int32 → Int32 → Int32 → gs_M → Option (gs_M)} (hq54 : ∀ (x1 : Int32) (x2 : Int32) (x3 : Int32) (x4 : Int32) (x5 : Int32) (x8 : Int32) (μ : gs_M), q54 x1 x2 x3 x4 x5 x8 μ = some μ2 → WJ p l e R s m args below meth c 0 0 (MQ below (gs_Q ad g tyc none μ2) args s 0 0 (gs_A ad)) ad g tyc 9 54 [.ref 78, .int x1, .int x2, .int x3, .int x4, .int x5, gs_J, gs_J, .int x8] [] μ) {x1 : Int32} {x2 : Int32} {x3 : Int32} {x4 : Int32} {x5 : Int32} {x8 : Int32} {μ : gs_M}  (hD : Bo_X12_loads_54 q54 x1 x2 x3 x4 x5 x8 μ = some μ2) : WJ p l e R s m args below meth c 0 0 (MQ below (gs_Q ad g tyc none μ2) args s 0 0 (gs_A ad)) ad g tyc 9 54 [.ref 78, .int x1, .int x2, .int x3, .int x4, .int x5, gs_J, gs_J, .int x8] [] μ := by
  unfold Bo_X12_loads_54 at hD
  refine r_iload hK d_X12_loads_54 rfl ?_
  refine r_aload_n hK d_X12_loads_56 rfl rfl ?_
  refine r_bipush hK d_X12_loads_57 cb_76 ?_
  obtain ⟨v3, u2, e1, hD⟩ := bd_e hD
  refine r_callV (As := [.int (76 : Int32)]) (st := [.int x8]) (stk2 := [.int v3, .int x8]) hK (C_X12_now  e1) d_X12_loads_59 mf_X12_now ml_RX12_337 im_X12_now rfl se_11_RX12_X12_now kd_78 rfl (Nat.le_of_ble_eq_true rfl) (by decide) ⟨Nat.zero_le _, Nat.zero_le _⟩ rfl rfl ?_
  refine r_icmp_ge (tgt := 224) hK d_X12_loads_62 (by decide) (fun h4 => ?_) (fun h4 => ?_)
  · have hD := if_t hD h4
    cases hD
    exact r_vret hK d_X12_loads_224
  · have hD := if_f hD h4
    refine r_aload_n hK d_X12_loads_65 rfl rfl ?_
    refine r_getR hK d_X12_loads_66 fl_RX12_71_11 rfl kd_78 ?_
    refine r_ref (b := 89) R0_78_30 ?_
    refine r_bipush hK d_X12_loads_69 cb_7 ?_
    refine r_iload hK d_X12_loads_71 rfl ?_
    refine r_imul hK d_X12_loads_73 ?_
    refine r_iconst hK d_X12_loads_74 ci_0 ?_
    refine r_iadd hK d_X12_loads_75 ?_
    refine r_aload_n hK d_X12_loads_76 rfl rfl ?_
    refine r_iload_n hK d_X12_loads_77 rfl rfl ?_
    refine r_iload hK d_X12_loads_78 rfl ?_
    refine r_iconst hK d_X12_loads_80 ci_0 ?_
    obtain ⟨v7, u6, e5, hD⟩ := bd_e hD
    refine r_callV (As := [.int x1, .int x8, .int (0 : Int32)]) (st := [.int (((7 : Int32) * x8) + (0 : Int32)), .ref 89]) (stk2 := [.int v7, .int (((7 : Int32) * x8) + (0 : Int32)), .ref 89]) hK (C_X12_holdOf  e5) d_X12_loads_81 mf_X12_holdOf ml_RX12_286 im_X12_holdOf rfl se_11_RX12_X12_holdOf kd_78 rfl (Nat.le_of_ble_eq_true rfl) (by decide) ⟨Nat.zero_le _, Nat.zero_le _⟩ rfl rfl ?_
    obtain ⟨h8, hD⟩ := ck_e hD
    refine r_iast hK d_X12_loads_84 kd_89 ln_89 (inb_in h8) ?_
    refine r_ltm hD (fun u9 hD => ?_)
    refine r_aload_n hK d_X12_loads_85 rfl rfl ?_
    refine r_getR hK d_X12_loads_86 fl_RX12_71_11 rfl kd_78 ?_
    refine r_ref (b := 89) R0_78_30 ?_
    refine r_bipush hK d_X12_loads_89 cb_7 ?_
    refine r_iload hK d_X12_loads_91 rfl ?_
    refine r_imul hK d_X12_loads_93 ?_
    refine r_iconst hK d_X12_loads_94 ci_1 ?_
    refine r_iadd hK d_X12_loads_95 ?_
    refine r_aload_n hK d_X12_loads_96 rfl rfl ?_
    refine r_iload_n hK d_X12_loads_97 rfl rfl ?_
    refine r_iload hK d_X12_loads_98 rfl ?_
    refine r_iconst hK d_X12_loads_100 ci_1 ?_
    obtain ⟨v12, u11, e10, hD⟩ := bd_e hD
    refine r_callV (As := [.int x1, .int x8, .int (1 : Int32)]) (st := [.int (((7 : Int32) * x8) + (1 : Int32)), .ref 89]) (stk2 := [.int v12, .int (((7 : Int32) * x8) + (1 : Int32)), .ref 89]) hK (C_X12_holdOf  e10) d_X12_loads_101 mf_X12_holdOf ml_RX12_286 im_X12_holdOf rfl se_11_RX12_X12_holdOf kd_78 rfl (Nat.le_of_ble_eq_true rfl) (by decide) ⟨Nat.zero_le _, Nat.zero_le _⟩ rfl rfl ?_
    obtain ⟨h13, hD⟩ := ck_e hD
    refine r_iast hK d_X12_loads_104 kd_89 ln_89 (inb_in h13) ?_
    refine r_ltm hD (fun u14 hD => ?_)
    refine r_aload_n hK d_X12_loads_105 rfl rfl ?_
    refine r_getR hK d_X12_loads_106 fl_RX12_71_11 rfl kd_78 ?_
    refine r_ref (b := 89) R0_78_30 ?_
    refine r_bipush hK d_X12_loads_109 cb_7 ?_
    refine r_iload hK d_X12_loads_111 rfl ?_
    refine r_imul hK d_X12_loads_113 ?_
    refine r_iconst hK d_X12_loads_114 ci_2 ?_
    refine r_iadd hK d_X12_loads_115 ?_
    refine r_aload_n hK d_X12_loads_116 rfl rfl ?_
    refine r_iload_n hK d_X12_loads_117 rfl rfl ?_
    refine r_iload hK d_X12_loads_118 rfl ?_
    refine r_iconst hK d_X12_loads_120 ci_0 ?_
    obtain ⟨v17, u16, e15, hD⟩ := bd_e hD
    refine r_callV (As := [.int x2, .int x8, .int (0 : Int32)]) (st := [.int (((7 : Int32) * x8) + (2 : Int32)), .ref 89]) (stk2 := [.int v17, .int (((7 : Int32) * x8) + (2 : Int32)), .ref 89]) hK (C_X12_layingOf  e15) d_X12_loads_121 mf_X12_layingOf ml_RX12_293 im_X12_layingOf rfl se_11_RX12_X12_layingOf kd_78 rfl (Nat.le_of_ble_eq_true rfl) (by decide) ⟨Nat.zero_le _, Nat.zero_le _⟩ rfl rfl ?_
    obtain ⟨h18, hD⟩ := ck_e hD
    refine r_iast hK d_X12_loads_124 kd_89 ln_89 (inb_in h18) ?_
    refine r_ltm hD (fun u19 hD => ?_)
    refine r_aload_n hK d_X12_loads_125 rfl rfl ?_
    refine r_getR hK d_X12_loads_126 fl_RX12_71_11 rfl kd_78 ?_
    refine r_ref (b := 89) R0_78_30 ?_
    refine r_bipush hK d_X12_loads_129 cb_7 ?_
    refine r_iload hK d_X12_loads_131 rfl ?_
    refine r_imul hK d_X12_loads_133 ?_
    refine r_iconst hK d_X12_loads_134 ci_3 ?_
    refine r_iadd hK d_X12_loads_135 ?_
    refine r_iload hK d_X12_loads_136 rfl ?_
    refine r_iload_n hK d_X12_loads_138 rfl rfl ?_
    refine r_icmp_ne (tgt := 147) hK d_X12_loads_139 (by decide) (fun h20 => ?_) (fun h20 => ?_)
    · have hD := if_f hD h20
      refine r_aload_n hK d_X12_loads_147 rfl rfl ?_
      refine r_iload_n hK d_X12_loads_148 rfl rfl ?_
      refine r_iload hK d_X12_loads_149 rfl ?_
      refine r_iconst hK d_X12_loads_151 ci_3 ?_
      obtain ⟨v23, u22, e21, hD⟩ := bd_e hD
      refine r_callV (As := [.int x2, .int x8, .int (3 : Int32)]) (st := [.int (((7 : Int32) * x8) + (3 : Int32)), .ref 89]) (stk2 := [.int v23, .int (((7 : Int32) * x8) + (3 : Int32)), .ref 89]) hK (C_X12_layingOf  e21) d_X12_loads_152 mf_X12_layingOf ml_RX12_293 im_X12_layingOf rfl se_11_RX12_X12_layingOf kd_78 rfl (Nat.le_of_ble_eq_true rfl) (by decide) ⟨Nat.zero_le _, Nat.zero_le _⟩ rfl rfl ?_
      exact T_X12_loads_155 hK hq54  hD
    · have hD := if_t hD h20
      refine r_iload hK d_X12_loads_142 rfl ?_
      refine r_goto (tgt := 155) hK d_X12_loads_144 (by decide) ?_
      exact T_X12_loads_155 hK hq54  hD
set_option maxRecDepth 20000 in
theorem TL_X12_loads_54  (hK : KC p R s m args meth c ad g tyc RX12 cX12_loads 9 none 6) {μ2 : gs_M}   : ∀ (n : Nat) (x1 : Int32) (x2 : Int32) (x3 : Int32) (x4 : Int32) (x5 : Int32) (x8 : Int32) (μ : gs_M), L_X12_loads_54  n x1 x2 x3 x4 x5 x8 μ = some μ2 → WJ p l e R s m args below meth c 0 0 (MQ below (gs_Q ad g tyc none μ2) args s 0 0 (gs_A ad)) ad g tyc 9 54 [.ref 78, .int x1, .int x2, .int x3, .int x4, .int x5, gs_J, gs_J, .int x8] [] μ := by
  intro n
  induction n with
  | zero => intro x1 x2 x3 x4 x5 x8 μ  hD; cases hD
  | succ n ih => intro x1 x2 x3 x4 x5 x8 μ  hD; exact To_X12_loads_54 hK  ih  hD
set_option maxRecDepth 20000 in
theorem To_X12_loads_3  (hK : KC p R s m args meth c ad g tyc RX12 cX12_loads 9 none 6) {μ2 : gs_M} {q3 : Int32 → Int32 → Int32 → Int32 → Int32 → Int64 → Int32 → gs_M → Option (gs_M)} (hq3 : ∀ (x1 : Int32) (x2 : Int32) (x3 : Int32) (x4 : Int32) (x5 : Int32) (z6 : Int64) (x8 : Int32) (μ : gs_M), q3 x1 x2 x3 x4 x5 z6 x8 μ = some μ2 → WJ p l e R s m args below meth c 0 0 (MQ below (gs_Q ad g tyc none μ2) args s 0 0 (gs_A ad)) ad g tyc 9 3 [.ref 78, .int x1, .int x2, .int x3, .int x4, .int x5, .long z6, gs_J, .int x8] [] μ) {x1 : Int32} {x2 : Int32} {x3 : Int32} {x4 : Int32} {x5 : Int32} {z6 : Int64} {x8 : Int32} {μ : gs_M}  (hD : Bo_X12_loads_3 q3 x1 x2 x3 x4 x5 z6 x8 μ = some μ2) : WJ p l e R s m args below meth c 0 0 (MQ below (gs_Q ad g tyc none μ2) args s 0 0 (gs_A ad)) ad g tyc 9 3 [.ref 78, .int x1, .int x2, .int x3, .int x4, .int x5, .long z6, gs_J, .int x8] [] μ := by
  unfold Bo_X12_loads_3 at hD
  refine r_iload hK d_X12_loads_3 rfl ?_
  refine r_bipush hK d_X12_loads_5 cb_81 ?_
  refine r_icmp_ge (tgt := 24) hK d_X12_loads_7 (by decide) (fun h1 => ?_) (fun h1 => ?_)
  · have hD := if_t hD h1
    refine r_aload_n hK d_X12_loads_24 rfl rfl ?_
    refine r_getR hK d_X12_loads_25 fl_RX12_71_11 rfl kd_78 ?_
    refine r_ref (b := 89) R0_78_30 ?_
    refine r_bipush hK d_X12_loads_28 cb_76 ?_
    refine r_aload_n hK d_X12_loads_30 rfl rfl ?_
    refine r_getR hK d_X12_loads_31 fl_RX12_46_11 rfl kd_78 ?_
    refine r_ref (b := 86) R0_78_21 ?_
    refine r_iload_n hK d_X12_loads_34 rfl rfl ?_
    obtain ⟨h2, hD⟩ := ck_e hD
    refine r_iald hK d_X12_loads_35 kd_86 ln_86 (inb_in h2) ?_
    obtain ⟨h3, hD⟩ := ck_e hD
    refine r_iast hK d_X12_loads_36 kd_89 ln_89 (inb_in h3) ?_
    refine r_ltm hD (fun u4 hD => ?_)
    refine r_aload_n hK d_X12_loads_37 rfl rfl ?_
    refine r_getR hK d_X12_loads_38 fl_RX12_71_11 rfl kd_78 ?_
    refine r_ref (b := 89) R0_78_30 ?_
    refine r_bipush hK d_X12_loads_41 cb_80 ?_
    refine r_iconst hK d_X12_loads_43 ci_1 ?_
    obtain ⟨h5, hD⟩ := ck_e hD
    refine r_iast hK d_X12_loads_44 kd_89 ln_89 (inb_in h5) ?_
    refine r_ltm hD (fun u6 hD => ?_)
    refine r_aload_n hK d_X12_loads_45 rfl rfl ?_
    refine r_lload hK d_X12_loads_46 rfl ?_
    refine r_putL hK d_X12_loads_48 fl_RX12_352_11 rfl rfl kd_78 ?_
    refine r_ltm hD (fun u7 hD => ?_)
    refine r_iconst hK d_X12_loads_51 ci_0 ?_
    refine r_istore hK d_X12_loads_52 (by decide) (ls2 := [.ref 78, .int x1, .int x2, .int x3, .int x4, .int x5, .long z6, gs_J, .int (0 : Int32)]) rfl ?_
    refine r_junk [true, true, true, true, true, true, false, false, true] (ls2 := [.ref 78, .int x1, .int x2, .int x3, .int x4, .int x5, gs_J, gs_J, .int (0 : Int32)]) rfl ?_
    exact TL_X12_loads_54 hK  _ _ _ _ _ _ _ _  hD
  · have hD := if_f hD h1
    refine r_aload_n hK d_X12_loads_10 rfl rfl ?_
    refine r_getR hK d_X12_loads_11 fl_RX12_71_11 rfl kd_78 ?_
    refine r_ref (b := 89) R0_78_30 ?_
    refine r_iload hK d_X12_loads_14 rfl ?_
    refine r_iconst hK d_X12_loads_16 ci_0 ?_
    obtain ⟨h8, hD⟩ := ck_e hD
    refine r_iast hK d_X12_loads_17 kd_89 ln_89 (inb_in h8) ?_
    refine r_ltm hD (fun u9 hD => ?_)
    refine r_iinc hK d_X12_loads_18 rfl (v := x8 + (1 : Int32)) (by rw [ci_1]) (by decide) (ls2 := [.ref 78, .int x1, .int x2, .int x3, .int x4, .int x5, .long z6, gs_J, .int (x8 + (1 : Int32))]) rfl ?_
    refine r_goto (tgt := 3) hK d_X12_loads_21 (by decide) ?_
    exact hq3 _ _ _ _ _ _ _ _  hD
set_option maxRecDepth 20000 in
theorem TL_X12_loads_3  (hK : KC p R s m args meth c ad g tyc RX12 cX12_loads 9 none 6) {μ2 : gs_M}   : ∀ (n : Nat) (x1 : Int32) (x2 : Int32) (x3 : Int32) (x4 : Int32) (x5 : Int32) (z6 : Int64) (x8 : Int32) (μ : gs_M), L_X12_loads_3  n x1 x2 x3 x4 x5 z6 x8 μ = some μ2 → WJ p l e R s m args below meth c 0 0 (MQ below (gs_Q ad g tyc none μ2) args s 0 0 (gs_A ad)) ad g tyc 9 3 [.ref 78, .int x1, .int x2, .int x3, .int x4, .int x5, .long z6, gs_J, .int x8] [] μ := by
  intro n
  induction n with
  | zero => intro x1 x2 x3 x4 x5 z6 x8 μ  hD; cases hD
  | succ n ih => intro x1 x2 x3 x4 x5 z6 x8 μ  hD; exact To_X12_loads_3 hK  ih  hD
set_option maxRecDepth 20000 in
theorem C_X12_loads  {x1 : Int32} {x2 : Int32} {x3 : Int32} {x4 : Int32} {x5 : Int32} {z6 : Int64} {μ : gs_M} {μ2 : gs_M}  (hD : D_X12_loads x1 x2 x3 x4 x5 z6 μ = some μ2) : CALL yX12_loads cX12_loads 9 none 6 [.ref 78, .int x1, .int x2, .int x3, .int x4, .int x5, .long z6] μ none μ2 := by
  unfold D_X12_loads at hD
  refine gs_enter mf_X12_loads (Nat.le_of_ble_eq_true rfl) (ls := [.ref 78, .int x1, .int x2, .int x3, .int x4, .int x5, .long z6, gs_J, gs_J]) rfl (fun p l e R s m args below meth c ad g tyc hK => ?_)
  have hK : KC p R s m args meth c ad g tyc RX12 cX12_loads 9 none 6 := hK
  refine r_iconst hK d_X12_loads_0 ci_0 ?_
  refine r_istore hK d_X12_loads_1 (by decide) (ls2 := [.ref 78, .int x1, .int x2, .int x3, .int x4, .int x5, .long z6, gs_J, .int (0 : Int32)]) rfl ?_
  exact TL_X12_loads_3 hK  _ _ _ _ _ _ _ _ _  hD
end S_X12_loads
theorem d_X12_load_0 : gd cX12_load 0 (.aload_n 0) 1 1 := ⟨by decide +kernel, rfl⟩
theorem d_X12_load_1 : gd cX12_load 1 (.iconst 0) 1 2 := ⟨by decide +kernel, rfl⟩
theorem d_X12_load_2 : gd cX12_load 2 (.putfield 98) 3 5 := ⟨by decide +kernel, rfl⟩
theorem d_X12_load_5 : gd cX12_load 5 (.aload_n 0) 1 6 := ⟨by decide +kernel, rfl⟩
theorem d_X12_load_6 : gd cX12_load 6 (.iload_n 1) 1 7 := ⟨by decide +kernel, rfl⟩
theorem d_X12_load_7 : gd cX12_load 7 (.iload_n 2) 1 8 := ⟨by decide +kernel, rfl⟩
theorem d_X12_load_8 : gd cX12_load 8 (.invokevirtual 360) 3 11 := ⟨by decide +kernel, rfl⟩
theorem d_X12_load_11 : gd cX12_load 11 (.ifCond .ne 5) 3 14 := ⟨by decide +kernel, rfl⟩
theorem d_X12_load_14 : gd cX12_load 14 (.iconst 0) 1 15 := ⟨by decide +kernel, rfl⟩
theorem d_X12_load_15 : gd cX12_load 15 .ireturn 1 16 := ⟨by decide +kernel, rfl⟩
theorem d_X12_load_16 : gd cX12_load 16 (.aload_n 0) 1 17 := ⟨by decide +kernel, rfl⟩
theorem d_X12_load_17 : gd cX12_load 17 (.iload_n 1) 1 18 := ⟨by decide +kernel, rfl⟩
theorem d_X12_load_18 : gd cX12_load 18 (.iload_n 2) 1 19 := ⟨by decide +kernel, rfl⟩
theorem d_X12_load_19 : gd cX12_load 19 (.iconst (-1)) 1 20 := ⟨by decide +kernel, rfl⟩
theorem d_X12_load_20 : gd cX12_load 20 (.iconst 0) 1 21 := ⟨by decide +kernel, rfl⟩
theorem d_X12_load_21 : gd cX12_load 21 (.iconst 0) 1 22 := ⟨by decide +kernel, rfl⟩
theorem d_X12_load_22 : gd cX12_load 22 (.lload_n 3) 1 23 := ⟨by decide +kernel, rfl⟩
theorem d_X12_load_23 : gd cX12_load 23 (.invokevirtual 363) 3 26 := ⟨by decide +kernel, rfl⟩
theorem d_X12_load_26 : gd cX12_load 26 (.iconst 1) 1 27 := ⟨by decide +kernel, rfl⟩
theorem d_X12_load_27 : gd cX12_load 27 .ireturn 1 28 := ⟨by decide +kernel, rfl⟩
def D_X12_load (x1 : Int32) (x2 : Int32) (z3 : Int64) (μ : gs_M) : Option (Int32 × gs_M) :=
  lt1 (sI μ 78 0 (0 : Int32)) (fun u1 => bd (D_X12_canLoad x1 x2 u1) (fun v4 u3 => if v4 = 0 then (some ((0 : Int32), u3)) else (bd0 (D_X12_loads x1 x2 (-1 : Int32) (0 : Int32) (0 : Int32) z3 u3) (fun u7 => some ((1 : Int32), u7)))))
section S_X12_load
variable {p : Program} {l : Launch} {e : Env} {R : Room} {s : State} {m : MethodId} {args : Array Value} {below : List Frame} {meth : Method} {c : Code} {ad : Nat → Nat} {g : va_G} {tyc : Nat → ClassId}
set_option maxRecDepth 20000 in
theorem C_X12_load  {x1 : Int32} {x2 : Int32} {z3 : Int64} {μ : gs_M} {r : Int32} {μ2 : gs_M}  (hD : D_X12_load x1 x2 z3 μ = some (r, μ2)) : CALL yX12_load cX12_load 5 (some .boolean) 7 [.ref 78, .int x1, .int x2, .long z3] μ (some (.int r)) μ2 := by
  unfold D_X12_load at hD
  refine gs_enter mf_X12_load (Nat.le_of_ble_eq_true rfl) (ls := [.ref 78, .int x1, .int x2, .long z3, gs_J]) rfl (fun p l e R s m args below meth c ad g tyc hK => ?_)
  have hK : KC p R s m args meth c ad g tyc RX12 cX12_load 5 (some .boolean) 7 := hK
  refine r_aload_n hK d_X12_load_0 rfl rfl ?_
  refine r_iconst hK d_X12_load_1 ci_0 ?_
  refine r_putI hK d_X12_load_2 fl_RX12_98_11 rfl rfl kd_78 ?_
  refine r_ltm hD (fun u1 hD => ?_)
  refine r_aload_n hK d_X12_load_5 rfl rfl ?_
  refine r_iload_n hK d_X12_load_6 rfl rfl ?_
  refine r_iload_n hK d_X12_load_7 rfl rfl ?_
  obtain ⟨v4, u3, e2, hD⟩ := bd_e hD
  refine r_callV (As := [.int x1, .int x2]) (st := []) (stk2 := [.int v4]) hK (C_X12_canLoad  e2) d_X12_load_8 mf_X12_canLoad ml_RX12_360 im_X12_canLoad rfl se_11_RX12_X12_canLoad kd_78 rfl (Nat.le_of_ble_eq_true rfl) (by decide) ⟨Nat.zero_le _, Nat.zero_le _⟩ rfl rfl ?_
  refine r_if_ne (tgt := 16) hK d_X12_load_11 (by decide) (fun h5 => ?_) (fun h5 => ?_)
  · have hD := if_f hD h5
    refine r_aload_n hK d_X12_load_16 rfl rfl ?_
    refine r_iload_n hK d_X12_load_17 rfl rfl ?_
    refine r_iload_n hK d_X12_load_18 rfl rfl ?_
    refine r_iconst hK d_X12_load_19 ci_m1 ?_
    refine r_iconst hK d_X12_load_20 ci_0 ?_
    refine r_iconst hK d_X12_load_21 ci_0 ?_
    refine r_lload_n hK d_X12_load_22 rfl rfl ?_
    obtain ⟨u7, e6, hD⟩ := bd0_e hD
    refine r_callV (As := [.int x1, .int x2, .int (-1 : Int32), .int (0 : Int32), .int (0 : Int32), .long z3]) (st := []) (stk2 := []) hK (C_X12_loads  e6) d_X12_load_23 mf_X12_loads ml_RX12_363 im_X12_loads rfl se_11_RX12_X12_loads kd_78 rfl (Nat.le_of_ble_eq_true rfl) (by decide) ⟨Nat.zero_le _, Nat.zero_le _⟩ rfl rfl ?_
    refine r_iconst hK d_X12_load_26 ci_1 ?_
    cases hD
    exact r_zret hK (Or.inr rfl) d_X12_load_27
  · have hD := if_t hD h5
    refine r_iconst hK d_X12_load_14 ci_0 ?_
    cases hD
    exact r_zret hK (Or.inl rfl) d_X12_load_15
end S_X12_load
theorem d_X12_isAfloat_0 : gd cX12_isAfloat 0 (.aload_n 0) 1 1 := ⟨by decide +kernel, rfl⟩
theorem d_X12_isAfloat_1 : gd cX12_isAfloat 1 (.bipush 80) 2 3 := ⟨by decide +kernel, rfl⟩
theorem d_X12_isAfloat_3 : gd cX12_isAfloat 3 (.invokevirtual 337) 3 6 := ⟨by decide +kernel, rfl⟩
theorem d_X12_isAfloat_6 : gd cX12_isAfloat 6 (.iconst 1) 1 7 := ⟨by decide +kernel, rfl⟩
theorem d_X12_isAfloat_7 : gd cX12_isAfloat 7 (.if_icmp .ne 16) 3 10 := ⟨by decide +kernel, rfl⟩
theorem d_X12_isAfloat_10 : gd cX12_isAfloat 10 (.aload_n 0) 1 11 := ⟨by decide +kernel, rfl⟩
theorem d_X12_isAfloat_11 : gd cX12_isAfloat 11 (.bipush 79) 2 13 := ⟨by decide +kernel, rfl⟩
theorem d_X12_isAfloat_13 : gd cX12_isAfloat 13 (.invokevirtual 337) 3 16 := ⟨by decide +kernel, rfl⟩
theorem d_X12_isAfloat_16 : gd cX12_isAfloat 16 (.ifCond .ne 7) 3 19 := ⟨by decide +kernel, rfl⟩
theorem d_X12_isAfloat_19 : gd cX12_isAfloat 19 (.iconst 1) 1 20 := ⟨by decide +kernel, rfl⟩
theorem d_X12_isAfloat_20 : gd cX12_isAfloat 20 (.goto 4) 3 23 := ⟨by decide +kernel, rfl⟩
theorem d_X12_isAfloat_23 : gd cX12_isAfloat 23 (.iconst 0) 1 24 := ⟨by decide +kernel, rfl⟩
theorem d_X12_isAfloat_24 : gd cX12_isAfloat 24 .ireturn 1 25 := ⟨by decide +kernel, rfl⟩
def B_X12_isAfloat_23   (μ : gs_M) : Option (Int32 × gs_M) :=
  some ((0 : Int32), μ)
def D_X12_isAfloat  (μ : gs_M) : Option (Int32 × gs_M) :=
  bd (D_X12_now (80 : Int32) μ) (fun v3 u2 => if v3 = (1 : Int32) then (bd (D_X12_now (79 : Int32) u2) (fun v7 u6 => if v7 = 0 then (some ((1 : Int32), u6)) else (B_X12_isAfloat_23 u6))) else (B_X12_isAfloat_23 u2))
section S_X12_isAfloat
variable {p : Program} {l : Launch} {e : Env} {R : Room} {s : State} {m : MethodId} {args : Array Value} {below : List Frame} {meth : Method} {c : Code} {ad : Nat → Nat} {g : va_G} {tyc : Nat → ClassId}
set_option maxRecDepth 20000 in
theorem T_X12_isAfloat_23  (hK : KC p R s m args meth c ad g tyc RX12 cX12_isAfloat 1 (some .boolean) 1) {r : Int32} {μ2 : gs_M}    {μ : gs_M}  (hD : B_X12_isAfloat_23   μ = some (r, μ2)) : WJ p l e R s m args below meth c 0 0 (MQ below (gs_Q ad g tyc (some (.int r)) μ2) args s 0 0 (gs_A ad)) ad g tyc 1 23 [gs_J] [] μ := by
  unfold B_X12_isAfloat_23 at hD
  refine r_iconst hK d_X12_isAfloat_23 ci_0 ?_
  cases hD
  exact r_zret hK (Or.inl rfl) d_X12_isAfloat_24
set_option maxRecDepth 20000 in
theorem C_X12_isAfloat   {μ : gs_M} {r : Int32} {μ2 : gs_M}  (hD : D_X12_isAfloat  μ = some (r, μ2)) : CALL yX12_isAfloat cX12_isAfloat 1 (some .boolean) 1 [.ref 78] μ (some (.int r)) μ2 := by
  unfold D_X12_isAfloat at hD
  refine gs_enter mf_X12_isAfloat (Nat.le_of_ble_eq_true rfl) (ls := [.ref 78]) rfl (fun p l e R s m args below meth c ad g tyc hK => ?_)
  have hK : KC p R s m args meth c ad g tyc RX12 cX12_isAfloat 1 (some .boolean) 1 := hK
  refine r_aload_n hK d_X12_isAfloat_0 rfl rfl ?_
  refine r_bipush hK d_X12_isAfloat_1 cb_80 ?_
  obtain ⟨v3, u2, e1, hD⟩ := bd_e hD
  refine r_callV (As := [.int (80 : Int32)]) (st := []) (stk2 := [.int v3]) hK (C_X12_now  e1) d_X12_isAfloat_3 mf_X12_now ml_RX12_337 im_X12_now rfl se_11_RX12_X12_now kd_78 rfl (Nat.le_of_ble_eq_true rfl) (by decide) ⟨Nat.zero_le _, Nat.zero_le _⟩ rfl rfl ?_
  refine r_iconst hK d_X12_isAfloat_6 ci_1 ?_
  refine r_icmp_ne (tgt := 23) hK d_X12_isAfloat_7 (by decide) (fun h4 => ?_) (fun h4 => ?_)
  · have hD := if_f hD h4
    refine r_junk [false] (ls2 := [gs_J]) rfl ?_
    exact T_X12_isAfloat_23 hK   hD
  · have hD := if_t hD h4
    refine r_aload_n hK d_X12_isAfloat_10 rfl rfl ?_
    refine r_bipush hK d_X12_isAfloat_11 cb_79 ?_
    obtain ⟨v7, u6, e5, hD⟩ := bd_e hD
    refine r_callV (As := [.int (79 : Int32)]) (st := []) (stk2 := [.int v7]) hK (C_X12_now  e5) d_X12_isAfloat_13 mf_X12_now ml_RX12_337 im_X12_now rfl se_11_RX12_X12_now kd_78 rfl (Nat.le_of_ble_eq_true rfl) (by decide) ⟨Nat.zero_le _, Nat.zero_le _⟩ rfl rfl ?_
    refine r_if_ne (tgt := 23) hK d_X12_isAfloat_16 (by decide) (fun h8 => ?_) (fun h8 => ?_)
    · have hD := if_f hD h8
      refine r_junk [false] (ls2 := [gs_J]) rfl ?_
      exact T_X12_isAfloat_23 hK   hD
    · have hD := if_t hD h8
      refine r_iconst hK d_X12_isAfloat_19 ci_1 ?_
      refine r_goto (tgt := 24) hK d_X12_isAfloat_20 (by decide) ?_
      cases hD
      exact r_zret hK (Or.inr rfl) d_X12_isAfloat_24
end S_X12_isAfloat
theorem d_X12_rolls_0 : gd cX12_rolls 0 (.aload_n 0) 1 1 := ⟨by decide +kernel, rfl⟩
theorem d_X12_rolls_1 : gd cX12_rolls 1 (.iconst 0) 1 2 := ⟨by decide +kernel, rfl⟩
theorem d_X12_rolls_2 : gd cX12_rolls 2 (.putfield 322) 3 5 := ⟨by decide +kernel, rfl⟩
theorem d_X12_rolls_5 : gd cX12_rolls 5 (.aload_n 0) 1 6 := ⟨by decide +kernel, rfl⟩
theorem d_X12_rolls_6 : gd cX12_rolls 6 (.iconst 0) 1 7 := ⟨by decide +kernel, rfl⟩
theorem d_X12_rolls_7 : gd cX12_rolls 7 (.putfield 325) 3 10 := ⟨by decide +kernel, rfl⟩
theorem d_X12_rolls_10 : gd cX12_rolls 10 (.aload_n 0) 1 11 := ⟨by decide +kernel, rfl⟩
theorem d_X12_rolls_11 : gd cX12_rolls 11 (.getfield 71) 3 14 := ⟨by decide +kernel, rfl⟩
theorem d_X12_rolls_14 : gd cX12_rolls 14 (.bipush 77) 2 16 := ⟨by decide +kernel, rfl⟩
theorem d_X12_rolls_16 : gd cX12_rolls 16 .dup2 1 17 := ⟨by decide +kernel, rfl⟩
theorem d_X12_rolls_17 : gd cX12_rolls 17 .iaload 1 18 := ⟨by decide +kernel, rfl⟩
theorem d_X12_rolls_18 : gd cX12_rolls 18 (.iconst 1) 1 19 := ⟨by decide +kernel, rfl⟩
theorem d_X12_rolls_19 : gd cX12_rolls 19 .iadd 1 20 := ⟨by decide +kernel, rfl⟩
theorem d_X12_rolls_20 : gd cX12_rolls 20 .iastore 1 21 := ⟨by decide +kernel, rfl⟩
theorem d_X12_rolls_21 : gd cX12_rolls 21 (.iconst 0) 1 22 := ⟨by decide +kernel, rfl⟩
theorem d_X12_rolls_22 : gd cX12_rolls 22 (.istore_n 2) 1 23 := ⟨by decide +kernel, rfl⟩
theorem d_X12_rolls_23 : gd cX12_rolls 23 (.iload_n 2) 1 24 := ⟨by decide +kernel, rfl⟩
theorem d_X12_rolls_24 : gd cX12_rolls 24 (.aload_n 0) 1 25 := ⟨by decide +kernel, rfl⟩
theorem d_X12_rolls_25 : gd cX12_rolls 25 (.bipush 76) 2 27 := ⟨by decide +kernel, rfl⟩
theorem d_X12_rolls_27 : gd cX12_rolls 27 (.invokevirtual 337) 3 30 := ⟨by decide +kernel, rfl⟩
theorem d_X12_rolls_30 : gd cX12_rolls 30 (.if_icmp .ge 25) 3 33 := ⟨by decide +kernel, rfl⟩
theorem d_X12_rolls_33 : gd cX12_rolls 33 (.aload_n 0) 1 34 := ⟨by decide +kernel, rfl⟩
theorem d_X12_rolls_34 : gd cX12_rolls 34 (.getfield 71) 3 37 := ⟨by decide +kernel, rfl⟩
theorem d_X12_rolls_37 : gd cX12_rolls 37 (.bipush 7) 2 39 := ⟨by decide +kernel, rfl⟩
theorem d_X12_rolls_39 : gd cX12_rolls 39 (.iload_n 2) 1 40 := ⟨by decide +kernel, rfl⟩
theorem d_X12_rolls_40 : gd cX12_rolls 40 .imul 1 41 := ⟨by decide +kernel, rfl⟩
theorem d_X12_rolls_41 : gd cX12_rolls 41 (.bipush 6) 2 43 := ⟨by decide +kernel, rfl⟩
theorem d_X12_rolls_43 : gd cX12_rolls 43 .iadd 1 44 := ⟨by decide +kernel, rfl⟩
theorem d_X12_rolls_44 : gd cX12_rolls 44 .dup2 1 45 := ⟨by decide +kernel, rfl⟩
theorem d_X12_rolls_45 : gd cX12_rolls 45 .iaload 1 46 := ⟨by decide +kernel, rfl⟩
theorem d_X12_rolls_46 : gd cX12_rolls 46 (.iload_n 1) 1 47 := ⟨by decide +kernel, rfl⟩
theorem d_X12_rolls_47 : gd cX12_rolls 47 .iadd 1 48 := ⟨by decide +kernel, rfl⟩
theorem d_X12_rolls_48 : gd cX12_rolls 48 .iastore 1 49 := ⟨by decide +kernel, rfl⟩
theorem d_X12_rolls_49 : gd cX12_rolls 49 (.iinc 2 1) 3 52 := ⟨by decide +kernel, rfl⟩
theorem d_X12_rolls_52 : gd cX12_rolls 52 (.goto (-29)) 3 55 := ⟨by decide +kernel, rfl⟩
theorem d_X12_rolls_55 : gd cX12_rolls 55 (.aload_n 0) 1 56 := ⟨by decide +kernel, rfl⟩
theorem d_X12_rolls_56 : gd cX12_rolls 56 (.invokevirtual 367) 3 59 := ⟨by decide +kernel, rfl⟩
theorem d_X12_rolls_59 : gd cX12_rolls 59 (.istore_n 2) 1 60 := ⟨by decide +kernel, rfl⟩
theorem d_X12_rolls_60 : gd cX12_rolls 60 (.iconst 0) 1 61 := ⟨by decide +kernel, rfl⟩
theorem d_X12_rolls_61 : gd cX12_rolls 61 (.istore_n 3) 1 62 := ⟨by decide +kernel, rfl⟩
theorem d_X12_rolls_62 : gd cX12_rolls 62 (.iload_n 3) 1 63 := ⟨by decide +kernel, rfl⟩
theorem d_X12_rolls_63 : gd cX12_rolls 63 (.aload_n 0) 1 64 := ⟨by decide +kernel, rfl⟩
theorem d_X12_rolls_64 : gd cX12_rolls 64 (.bipush 76) 2 66 := ⟨by decide +kernel, rfl⟩
theorem d_X12_rolls_66 : gd cX12_rolls 66 (.invokevirtual 337) 3 69 := ⟨by decide +kernel, rfl⟩
theorem d_X12_rolls_69 : gd cX12_rolls 69 (.if_icmp .ge 17) 3 72 := ⟨by decide +kernel, rfl⟩
theorem d_X12_rolls_72 : gd cX12_rolls 72 (.aload_n 0) 1 73 := ⟨by decide +kernel, rfl⟩
theorem d_X12_rolls_73 : gd cX12_rolls 73 (.iload_n 3) 1 74 := ⟨by decide +kernel, rfl⟩
theorem d_X12_rolls_74 : gd cX12_rolls 74 (.iload_n 2) 1 75 := ⟨by decide +kernel, rfl⟩
theorem d_X12_rolls_75 : gd cX12_rolls 75 (.iload_n 1) 1 76 := ⟨by decide +kernel, rfl⟩
theorem d_X12_rolls_76 : gd cX12_rolls 76 .iadd 1 77 := ⟨by decide +kernel, rfl⟩
theorem d_X12_rolls_77 : gd cX12_rolls 77 (.invokevirtual 349) 3 80 := ⟨by decide +kernel, rfl⟩
theorem d_X12_rolls_80 : gd cX12_rolls 80 (.iinc 3 1) 3 83 := ⟨by decide +kernel, rfl⟩
theorem d_X12_rolls_83 : gd cX12_rolls 83 (.goto (-21)) 3 86 := ⟨by decide +kernel, rfl⟩
theorem d_X12_rolls_86 : gd cX12_rolls 86 (.aload_n 0) 1 87 := ⟨by decide +kernel, rfl⟩
theorem d_X12_rolls_87 : gd cX12_rolls 87 (.invokevirtual 367) 3 90 := ⟨by decide +kernel, rfl⟩
theorem d_X12_rolls_90 : gd cX12_rolls 90 (.istore_n 3) 1 91 := ⟨by decide +kernel, rfl⟩
theorem d_X12_rolls_91 : gd cX12_rolls 91 (.iconst 0) 1 92 := ⟨by decide +kernel, rfl⟩
theorem d_X12_rolls_92 : gd cX12_rolls 92 (.istore 4) 2 94 := ⟨by decide +kernel, rfl⟩
theorem d_X12_rolls_94 : gd cX12_rolls 94 (.iload 4) 2 96 := ⟨by decide +kernel, rfl⟩
theorem d_X12_rolls_96 : gd cX12_rolls 96 (.aload_n 0) 1 97 := ⟨by decide +kernel, rfl⟩
theorem d_X12_rolls_97 : gd cX12_rolls 97 (.bipush 76) 2 99 := ⟨by decide +kernel, rfl⟩
theorem d_X12_rolls_99 : gd cX12_rolls 99 (.invokevirtual 337) 3 102 := ⟨by decide +kernel, rfl⟩
theorem d_X12_rolls_102 : gd cX12_rolls 102 (.if_icmp .ge 18) 3 105 := ⟨by decide +kernel, rfl⟩
theorem d_X12_rolls_105 : gd cX12_rolls 105 (.aload_n 0) 1 106 := ⟨by decide +kernel, rfl⟩
theorem d_X12_rolls_106 : gd cX12_rolls 106 (.iload 4) 2 108 := ⟨by decide +kernel, rfl⟩
theorem d_X12_rolls_108 : gd cX12_rolls 108 (.iload_n 3) 1 109 := ⟨by decide +kernel, rfl⟩
theorem d_X12_rolls_109 : gd cX12_rolls 109 (.iload_n 1) 1 110 := ⟨by decide +kernel, rfl⟩
theorem d_X12_rolls_110 : gd cX12_rolls 110 .isub 1 111 := ⟨by decide +kernel, rfl⟩
theorem d_X12_rolls_111 : gd cX12_rolls 111 (.invokevirtual 349) 3 114 := ⟨by decide +kernel, rfl⟩
theorem d_X12_rolls_114 : gd cX12_rolls 114 (.iinc 4 1) 3 117 := ⟨by decide +kernel, rfl⟩
theorem d_X12_rolls_117 : gd cX12_rolls 117 (.goto (-23)) 3 120 := ⟨by decide +kernel, rfl⟩
theorem d_X12_rolls_120 : gd cX12_rolls 120 (.aload_n 0) 1 121 := ⟨by decide +kernel, rfl⟩
theorem d_X12_rolls_121 : gd cX12_rolls 121 (.getfield 71) 3 124 := ⟨by decide +kernel, rfl⟩
theorem d_X12_rolls_124 : gd cX12_rolls 124 (.bipush 79) 2 126 := ⟨by decide +kernel, rfl⟩
theorem d_X12_rolls_126 : gd cX12_rolls 126 (.aload_n 0) 1 127 := ⟨by decide +kernel, rfl⟩
theorem d_X12_rolls_127 : gd cX12_rolls 127 (.invokevirtual 367) 3 130 := ⟨by decide +kernel, rfl⟩
theorem d_X12_rolls_130 : gd cX12_rolls 130 (.invokestatic 370) 3 133 := ⟨by decide +kernel, rfl⟩
theorem d_X12_rolls_133 : gd cX12_rolls 133 (.aload_n 0) 1 134 := ⟨by decide +kernel, rfl⟩
theorem d_X12_rolls_134 : gd cX12_rolls 134 (.getfield 68) 3 137 := ⟨by decide +kernel, rfl⟩
theorem d_X12_rolls_137 : gd cX12_rolls 137 (.if_icmp .lt 7) 3 140 := ⟨by decide +kernel, rfl⟩
theorem d_X12_rolls_140 : gd cX12_rolls 140 (.iconst 1) 1 141 := ⟨by decide +kernel, rfl⟩
theorem d_X12_rolls_141 : gd cX12_rolls 141 (.goto 4) 3 144 := ⟨by decide +kernel, rfl⟩
theorem d_X12_rolls_144 : gd cX12_rolls 144 (.iconst 0) 1 145 := ⟨by decide +kernel, rfl⟩
theorem d_X12_rolls_145 : gd cX12_rolls 145 .iastore 1 146 := ⟨by decide +kernel, rfl⟩
theorem d_X12_rolls_146 : gd cX12_rolls 146 .return_ 1 147 := ⟨by decide +kernel, rfl⟩
def B_X12_rolls_145  (xs1 : Int32) (xs2 : Int32) (μ : gs_M) : Option (gs_M) :=
  ck (inb xs1 81) (lt1 (sI μ 89 (Int32.toNatClampNeg xs1) xs2) (fun u2 => some u2))
def Bo_X12_rolls_94 (q94 : Int32 → Int32 → Int32 → gs_M → Option (gs_M)) (x1 : Int32) (x3 : Int32) (x4 : Int32) (μ : gs_M) : Option (gs_M) :=
  bd (D_X12_now (76 : Int32) μ) (fun v3 u2 => if v3 ≤ x4 then (bd (D_X12_lean u2) (fun v7 u6 => lt1 (if 0 ≤ v7 then v7 else 0 - v7) (fun v8 => if v8 < (gI u6 78 29) then (B_X12_rolls_145 (79 : Int32) (0 : Int32) u6) else (B_X12_rolls_145 (79 : Int32) (1 : Int32) u6)))) else (bd0 (D_X12_rests x4 (x3 - x1) u2) (fun u11 => q94 x1 x3 (x4 + (1 : Int32)) u11)))
def L_X12_rolls_94  : Nat → Int32 → Int32 → Int32 → gs_M → Option (gs_M)
  | 0 => fun _ _ _ _ => none
  | n + 1 => fun x1 x3 x4 μ => Bo_X12_rolls_94  (L_X12_rolls_94  n) x1 x3 x4 μ
def Bo_X12_rolls_62 (q62 : Int32 → Int32 → Int32 → gs_M → Option (gs_M)) (x1 : Int32) (x2 : Int32) (x3 : Int32) (μ : gs_M) : Option (gs_M) :=
  bd (D_X12_now (76 : Int32) μ) (fun v3 u2 => if v3 ≤ x3 then (bd (D_X12_lean u2) (fun v7 u6 => L_X12_rolls_94 4096 x1 v7 (0 : Int32) u6)) else (bd0 (D_X12_rests x3 (x2 + x1) u2) (fun u9 => q62 x1 x2 (x3 + (1 : Int32)) u9)))
def L_X12_rolls_62  : Nat → Int32 → Int32 → Int32 → gs_M → Option (gs_M)
  | 0 => fun _ _ _ _ => none
  | n + 1 => fun x1 x2 x3 μ => Bo_X12_rolls_62  (L_X12_rolls_62  n) x1 x2 x3 μ
def Bo_X12_rolls_23 (q23 : Int32 → Int32 → gs_M → Option (gs_M)) (x1 : Int32) (x2 : Int32) (μ : gs_M) : Option (gs_M) :=
  bd (D_X12_now (76 : Int32) μ) (fun v3 u2 => if v3 ≤ x2 then (bd (D_X12_lean u2) (fun v7 u6 => L_X12_rolls_62 4096 x1 v7 (0 : Int32) u6)) else (ck (inb (((7 : Int32) * x2) + (6 : Int32)) 81) (ck (inb (((7 : Int32) * x2) + (6 : Int32)) 81) (lt1 (sI u2 89 (Int32.toNatClampNeg (((7 : Int32) * x2) + (6 : Int32))) ((gI u2 89 (Int32.toNatClampNeg (((7 : Int32) * x2) + (6 : Int32)))) + x1)) (fun u10 => q23 x1 (x2 + (1 : Int32)) u10)))))
def L_X12_rolls_23  : Nat → Int32 → Int32 → gs_M → Option (gs_M)
  | 0 => fun _ _ _ => none
  | n + 1 => fun x1 x2 μ => Bo_X12_rolls_23  (L_X12_rolls_23  n) x1 x2 μ
def D_X12_rolls (x1 : Int32) (μ : gs_M) : Option (gs_M) :=
  lt1 (sI μ 78 37 (0 : Int32)) (fun u1 => lt1 (sI u1 78 38 (0 : Int32)) (fun u2 => ck (inb (77 : Int32) 81) (ck (inb (77 : Int32) 81) (lt1 (sI u2 89 (Int32.toNatClampNeg (77 : Int32)) ((gI u2 89 (Int32.toNatClampNeg (77 : Int32))) + (1 : Int32))) (fun u5 => L_X12_rolls_23 4096 x1 (0 : Int32) u5)))))
section S_X12_rolls
variable {p : Program} {l : Launch} {e : Env} {R : Room} {s : State} {m : MethodId} {args : Array Value} {below : List Frame} {meth : Method} {c : Code} {ad : Nat → Nat} {g : va_G} {tyc : Nat → ClassId}
set_option maxRecDepth 20000 in
theorem T_X12_rolls_145  (hK : KC p R s m args meth c ad g tyc RX12 cX12_rolls 5 none 5) {μ2 : gs_M}   {xs1 : Int32} {xs2 : Int32} {μ : gs_M}  (hD : B_X12_rolls_145  xs1 xs2 μ = some μ2) : WJ p l e R s m args below meth c 0 0 (MQ below (gs_Q ad g tyc none μ2) args s 0 0 (gs_A ad)) ad g tyc 5 145 [gs_J, gs_J, gs_J, gs_J, gs_J] [.int xs2, .int xs1, .ref 89] μ := by
  unfold B_X12_rolls_145 at hD
  obtain ⟨h1, hD⟩ := ck_e hD
  refine r_iast hK d_X12_rolls_145 kd_89 ln_89 (inb_in h1) ?_
  refine r_ltm hD (fun u2 hD => ?_)
  cases hD
  exact r_vret hK d_X12_rolls_146
set_option maxRecDepth 20000 in
theorem To_X12_rolls_94  (hK : KC p R s m args meth c ad g tyc RX12 cX12_rolls 5 none 5) {μ2 : gs_M} {q94 : Int32 → Int32 → Int32 → gs_M → Option (gs_M)} (hq94 : ∀ (x1 : Int32) (x3 : Int32) (x4 : Int32) (μ : gs_M), q94 x1 x3 x4 μ = some μ2 → WJ p l e R s m args below meth c 0 0 (MQ below (gs_Q ad g tyc none μ2) args s 0 0 (gs_A ad)) ad g tyc 5 94 [.ref 78, .int x1, gs_J, .int x3, .int x4] [] μ) {x1 : Int32} {x3 : Int32} {x4 : Int32} {μ : gs_M}  (hD : Bo_X12_rolls_94 q94 x1 x3 x4 μ = some μ2) : WJ p l e R s m args below meth c 0 0 (MQ below (gs_Q ad g tyc none μ2) args s 0 0 (gs_A ad)) ad g tyc 5 94 [.ref 78, .int x1, gs_J, .int x3, .int x4] [] μ := by
  unfold Bo_X12_rolls_94 at hD
  refine r_iload hK d_X12_rolls_94 rfl ?_
  refine r_aload_n hK d_X12_rolls_96 rfl rfl ?_
  refine r_bipush hK d_X12_rolls_97 cb_76 ?_
  obtain ⟨v3, u2, e1, hD⟩ := bd_e hD
  refine r_callV (As := [.int (76 : Int32)]) (st := [.int x4]) (stk2 := [.int v3, .int x4]) hK (C_X12_now  e1) d_X12_rolls_99 mf_X12_now ml_RX12_337 im_X12_now rfl se_11_RX12_X12_now kd_78 rfl (Nat.le_of_ble_eq_true rfl) (by decide) ⟨Nat.zero_le _, Nat.zero_le _⟩ rfl rfl ?_
  refine r_icmp_ge (tgt := 120) hK d_X12_rolls_102 (by decide) (fun h4 => ?_) (fun h4 => ?_)
  · have hD := if_t hD h4
    refine r_aload_n hK d_X12_rolls_120 rfl rfl ?_
    refine r_getR hK d_X12_rolls_121 fl_RX12_71_11 rfl kd_78 ?_
    refine r_ref (b := 89) R0_78_30 ?_
    refine r_bipush hK d_X12_rolls_124 cb_79 ?_
    refine r_aload_n hK d_X12_rolls_126 rfl rfl ?_
    obtain ⟨v7, u6, e5, hD⟩ := bd_e hD
    refine r_callV (As := []) (st := [.int (79 : Int32), .ref 89]) (stk2 := [.int v7, .int (79 : Int32), .ref 89]) hK (C_X12_lean  e5) d_X12_rolls_127 mf_X12_lean ml_RX12_367 im_X12_lean rfl se_11_RX12_X12_lean kd_78 rfl (Nat.le_of_ble_eq_true rfl) (by decide) ⟨Nat.zero_le _, Nat.zero_le _⟩ rfl rfl ?_
    refine r_mabs hK d_X12_rolls_130 mm_RX12_370 ms_abs mi_0 mc_abs (Nat.le_of_ble_eq_true rfl) (by decide) ⟨Nat.zero_le _, Nat.zero_le _⟩ ?_
    refine r_lti hD (fun v8 hD => ?_)
    refine r_aload_n hK d_X12_rolls_133 rfl rfl ?_
    refine r_getI hK d_X12_rolls_134 fl_RX12_68_11 rfl kd_78 ?_
    refine r_icmp_lt (tgt := 144) hK d_X12_rolls_137 (by decide) (fun h9 => ?_) (fun h9 => ?_)
    · have hD := if_t hD h9
      refine r_iconst hK d_X12_rolls_144 ci_0 ?_
      refine r_junk [false, false, false, false, false] (ls2 := [gs_J, gs_J, gs_J, gs_J, gs_J]) rfl ?_
      exact T_X12_rolls_145 hK   hD
    · have hD := if_f hD h9
      refine r_iconst hK d_X12_rolls_140 ci_1 ?_
      refine r_goto (tgt := 145) hK d_X12_rolls_141 (by decide) ?_
      refine r_junk [false, false, false, false, false] (ls2 := [gs_J, gs_J, gs_J, gs_J, gs_J]) rfl ?_
      exact T_X12_rolls_145 hK   hD
  · have hD := if_f hD h4
    refine r_aload_n hK d_X12_rolls_105 rfl rfl ?_
    refine r_iload hK d_X12_rolls_106 rfl ?_
    refine r_iload_n hK d_X12_rolls_108 rfl rfl ?_
    refine r_iload_n hK d_X12_rolls_109 rfl rfl ?_
    refine r_isub hK d_X12_rolls_110 ?_
    obtain ⟨u11, e10, hD⟩ := bd0_e hD
    refine r_callV (As := [.int x4, .int (x3 - x1)]) (st := []) (stk2 := []) hK (C_X12_rests  e10) d_X12_rolls_111 mf_X12_rests ml_RX12_349 im_X12_rests rfl se_11_RX12_X12_rests kd_78 rfl (Nat.le_of_ble_eq_true rfl) (by decide) ⟨Nat.zero_le _, Nat.zero_le _⟩ rfl rfl ?_
    refine r_iinc hK d_X12_rolls_114 rfl (v := x4 + (1 : Int32)) (by rw [ci_1]) (by decide) (ls2 := [.ref 78, .int x1, gs_J, .int x3, .int (x4 + (1 : Int32))]) rfl ?_
    refine r_goto (tgt := 94) hK d_X12_rolls_117 (by decide) ?_
    exact hq94 _ _ _ _  hD
set_option maxRecDepth 20000 in
theorem TL_X12_rolls_94  (hK : KC p R s m args meth c ad g tyc RX12 cX12_rolls 5 none 5) {μ2 : gs_M}   : ∀ (n : Nat) (x1 : Int32) (x3 : Int32) (x4 : Int32) (μ : gs_M), L_X12_rolls_94  n x1 x3 x4 μ = some μ2 → WJ p l e R s m args below meth c 0 0 (MQ below (gs_Q ad g tyc none μ2) args s 0 0 (gs_A ad)) ad g tyc 5 94 [.ref 78, .int x1, gs_J, .int x3, .int x4] [] μ := by
  intro n
  induction n with
  | zero => intro x1 x3 x4 μ  hD; cases hD
  | succ n ih => intro x1 x3 x4 μ  hD; exact To_X12_rolls_94 hK  ih  hD
set_option maxRecDepth 20000 in
theorem To_X12_rolls_62  (hK : KC p R s m args meth c ad g tyc RX12 cX12_rolls 5 none 5) {μ2 : gs_M} {q62 : Int32 → Int32 → Int32 → gs_M → Option (gs_M)} (hq62 : ∀ (x1 : Int32) (x2 : Int32) (x3 : Int32) (μ : gs_M), q62 x1 x2 x3 μ = some μ2 → WJ p l e R s m args below meth c 0 0 (MQ below (gs_Q ad g tyc none μ2) args s 0 0 (gs_A ad)) ad g tyc 5 62 [.ref 78, .int x1, .int x2, .int x3, gs_J] [] μ) {x1 : Int32} {x2 : Int32} {x3 : Int32} {μ : gs_M}  (hD : Bo_X12_rolls_62 q62 x1 x2 x3 μ = some μ2) : WJ p l e R s m args below meth c 0 0 (MQ below (gs_Q ad g tyc none μ2) args s 0 0 (gs_A ad)) ad g tyc 5 62 [.ref 78, .int x1, .int x2, .int x3, gs_J] [] μ := by
  unfold Bo_X12_rolls_62 at hD
  refine r_iload_n hK d_X12_rolls_62 rfl rfl ?_
  refine r_aload_n hK d_X12_rolls_63 rfl rfl ?_
  refine r_bipush hK d_X12_rolls_64 cb_76 ?_
  obtain ⟨v3, u2, e1, hD⟩ := bd_e hD
  refine r_callV (As := [.int (76 : Int32)]) (st := [.int x3]) (stk2 := [.int v3, .int x3]) hK (C_X12_now  e1) d_X12_rolls_66 mf_X12_now ml_RX12_337 im_X12_now rfl se_11_RX12_X12_now kd_78 rfl (Nat.le_of_ble_eq_true rfl) (by decide) ⟨Nat.zero_le _, Nat.zero_le _⟩ rfl rfl ?_
  refine r_icmp_ge (tgt := 86) hK d_X12_rolls_69 (by decide) (fun h4 => ?_) (fun h4 => ?_)
  · have hD := if_t hD h4
    refine r_aload_n hK d_X12_rolls_86 rfl rfl ?_
    obtain ⟨v7, u6, e5, hD⟩ := bd_e hD
    refine r_callV (As := []) (st := []) (stk2 := [.int v7]) hK (C_X12_lean  e5) d_X12_rolls_87 mf_X12_lean ml_RX12_367 im_X12_lean rfl se_11_RX12_X12_lean kd_78 rfl (Nat.le_of_ble_eq_true rfl) (by decide) ⟨Nat.zero_le _, Nat.zero_le _⟩ rfl rfl ?_
    refine r_istore_n hK d_X12_rolls_90 rfl (by decide) (ls2 := [.ref 78, .int x1, .int x2, .int v7, gs_J]) rfl ?_
    refine r_iconst hK d_X12_rolls_91 ci_0 ?_
    refine r_istore hK d_X12_rolls_92 (by decide) (ls2 := [.ref 78, .int x1, .int x2, .int v7, .int (0 : Int32)]) rfl ?_
    refine r_junk [true, true, false, true, true] (ls2 := [.ref 78, .int x1, gs_J, .int v7, .int (0 : Int32)]) rfl ?_
    exact TL_X12_rolls_94 hK  _ _ _ _ _  hD
  · have hD := if_f hD h4
    refine r_aload_n hK d_X12_rolls_72 rfl rfl ?_
    refine r_iload_n hK d_X12_rolls_73 rfl rfl ?_
    refine r_iload_n hK d_X12_rolls_74 rfl rfl ?_
    refine r_iload_n hK d_X12_rolls_75 rfl rfl ?_
    refine r_iadd hK d_X12_rolls_76 ?_
    obtain ⟨u9, e8, hD⟩ := bd0_e hD
    refine r_callV (As := [.int x3, .int (x2 + x1)]) (st := []) (stk2 := []) hK (C_X12_rests  e8) d_X12_rolls_77 mf_X12_rests ml_RX12_349 im_X12_rests rfl se_11_RX12_X12_rests kd_78 rfl (Nat.le_of_ble_eq_true rfl) (by decide) ⟨Nat.zero_le _, Nat.zero_le _⟩ rfl rfl ?_
    refine r_iinc hK d_X12_rolls_80 rfl (v := x3 + (1 : Int32)) (by rw [ci_1]) (by decide) (ls2 := [.ref 78, .int x1, .int x2, .int (x3 + (1 : Int32)), gs_J]) rfl ?_
    refine r_goto (tgt := 62) hK d_X12_rolls_83 (by decide) ?_
    exact hq62 _ _ _ _  hD
set_option maxRecDepth 20000 in
theorem TL_X12_rolls_62  (hK : KC p R s m args meth c ad g tyc RX12 cX12_rolls 5 none 5) {μ2 : gs_M}   : ∀ (n : Nat) (x1 : Int32) (x2 : Int32) (x3 : Int32) (μ : gs_M), L_X12_rolls_62  n x1 x2 x3 μ = some μ2 → WJ p l e R s m args below meth c 0 0 (MQ below (gs_Q ad g tyc none μ2) args s 0 0 (gs_A ad)) ad g tyc 5 62 [.ref 78, .int x1, .int x2, .int x3, gs_J] [] μ := by
  intro n
  induction n with
  | zero => intro x1 x2 x3 μ  hD; cases hD
  | succ n ih => intro x1 x2 x3 μ  hD; exact To_X12_rolls_62 hK  ih  hD
set_option maxRecDepth 20000 in
theorem To_X12_rolls_23  (hK : KC p R s m args meth c ad g tyc RX12 cX12_rolls 5 none 5) {μ2 : gs_M} {q23 : Int32 → Int32 → gs_M → Option (gs_M)} (hq23 : ∀ (x1 : Int32) (x2 : Int32) (μ : gs_M), q23 x1 x2 μ = some μ2 → WJ p l e R s m args below meth c 0 0 (MQ below (gs_Q ad g tyc none μ2) args s 0 0 (gs_A ad)) ad g tyc 5 23 [.ref 78, .int x1, .int x2, gs_J, gs_J] [] μ) {x1 : Int32} {x2 : Int32} {μ : gs_M}  (hD : Bo_X12_rolls_23 q23 x1 x2 μ = some μ2) : WJ p l e R s m args below meth c 0 0 (MQ below (gs_Q ad g tyc none μ2) args s 0 0 (gs_A ad)) ad g tyc 5 23 [.ref 78, .int x1, .int x2, gs_J, gs_J] [] μ := by
  unfold Bo_X12_rolls_23 at hD
  refine r_iload_n hK d_X12_rolls_23 rfl rfl ?_
  refine r_aload_n hK d_X12_rolls_24 rfl rfl ?_
  refine r_bipush hK d_X12_rolls_25 cb_76 ?_
  obtain ⟨v3, u2, e1, hD⟩ := bd_e hD
  refine r_callV (As := [.int (76 : Int32)]) (st := [.int x2]) (stk2 := [.int v3, .int x2]) hK (C_X12_now  e1) d_X12_rolls_27 mf_X12_now ml_RX12_337 im_X12_now rfl se_11_RX12_X12_now kd_78 rfl (Nat.le_of_ble_eq_true rfl) (by decide) ⟨Nat.zero_le _, Nat.zero_le _⟩ rfl rfl ?_
  refine r_icmp_ge (tgt := 55) hK d_X12_rolls_30 (by decide) (fun h4 => ?_) (fun h4 => ?_)
  · have hD := if_t hD h4
    refine r_aload_n hK d_X12_rolls_55 rfl rfl ?_
    obtain ⟨v7, u6, e5, hD⟩ := bd_e hD
    refine r_callV (As := []) (st := []) (stk2 := [.int v7]) hK (C_X12_lean  e5) d_X12_rolls_56 mf_X12_lean ml_RX12_367 im_X12_lean rfl se_11_RX12_X12_lean kd_78 rfl (Nat.le_of_ble_eq_true rfl) (by decide) ⟨Nat.zero_le _, Nat.zero_le _⟩ rfl rfl ?_
    refine r_istore_n hK d_X12_rolls_59 rfl (by decide) (ls2 := [.ref 78, .int x1, .int v7, gs_J, gs_J]) rfl ?_
    refine r_iconst hK d_X12_rolls_60 ci_0 ?_
    refine r_istore_n hK d_X12_rolls_61 rfl (by decide) (ls2 := [.ref 78, .int x1, .int v7, .int (0 : Int32), gs_J]) rfl ?_
    exact TL_X12_rolls_62 hK  _ _ _ _ _  hD
  · have hD := if_f hD h4
    refine r_aload_n hK d_X12_rolls_33 rfl rfl ?_
    refine r_getR hK d_X12_rolls_34 fl_RX12_71_11 rfl kd_78 ?_
    refine r_ref (b := 89) R0_78_30 ?_
    refine r_bipush hK d_X12_rolls_37 cb_7 ?_
    refine r_iload_n hK d_X12_rolls_39 rfl rfl ?_
    refine r_imul hK d_X12_rolls_40 ?_
    refine r_bipush hK d_X12_rolls_41 cb_6 ?_
    refine r_iadd hK d_X12_rolls_43 ?_
    refine r_dup2 hK d_X12_rolls_44 rfl rfl ?_
    obtain ⟨h8, hD⟩ := ck_e hD
    refine r_iald hK d_X12_rolls_45 kd_89 ln_89 (inb_in h8) ?_
    refine r_iload_n hK d_X12_rolls_46 rfl rfl ?_
    refine r_iadd hK d_X12_rolls_47 ?_
    obtain ⟨h9, hD⟩ := ck_e hD
    refine r_iast hK d_X12_rolls_48 kd_89 ln_89 (inb_in h9) ?_
    refine r_ltm hD (fun u10 hD => ?_)
    refine r_iinc hK d_X12_rolls_49 rfl (v := x2 + (1 : Int32)) (by rw [ci_1]) (by decide) (ls2 := [.ref 78, .int x1, .int (x2 + (1 : Int32)), gs_J, gs_J]) rfl ?_
    refine r_goto (tgt := 23) hK d_X12_rolls_52 (by decide) ?_
    exact hq23 _ _ _  hD
set_option maxRecDepth 20000 in
theorem TL_X12_rolls_23  (hK : KC p R s m args meth c ad g tyc RX12 cX12_rolls 5 none 5) {μ2 : gs_M}   : ∀ (n : Nat) (x1 : Int32) (x2 : Int32) (μ : gs_M), L_X12_rolls_23  n x1 x2 μ = some μ2 → WJ p l e R s m args below meth c 0 0 (MQ below (gs_Q ad g tyc none μ2) args s 0 0 (gs_A ad)) ad g tyc 5 23 [.ref 78, .int x1, .int x2, gs_J, gs_J] [] μ := by
  intro n
  induction n with
  | zero => intro x1 x2 μ  hD; cases hD
  | succ n ih => intro x1 x2 μ  hD; exact To_X12_rolls_23 hK  ih  hD
set_option maxRecDepth 20000 in
theorem C_X12_rolls  {x1 : Int32} {μ : gs_M} {μ2 : gs_M}  (hD : D_X12_rolls x1 μ = some μ2) : CALL yX12_rolls cX12_rolls 5 none 5 [.ref 78, .int x1] μ none μ2 := by
  unfold D_X12_rolls at hD
  refine gs_enter mf_X12_rolls (Nat.le_of_ble_eq_true rfl) (ls := [.ref 78, .int x1, gs_J, gs_J, gs_J]) rfl (fun p l e R s m args below meth c ad g tyc hK => ?_)
  have hK : KC p R s m args meth c ad g tyc RX12 cX12_rolls 5 none 5 := hK
  refine r_aload_n hK d_X12_rolls_0 rfl rfl ?_
  refine r_iconst hK d_X12_rolls_1 ci_0 ?_
  refine r_putI hK d_X12_rolls_2 fl_RX12_322_11 rfl rfl kd_78 ?_
  refine r_ltm hD (fun u1 hD => ?_)
  refine r_aload_n hK d_X12_rolls_5 rfl rfl ?_
  refine r_iconst hK d_X12_rolls_6 ci_0 ?_
  refine r_putI hK d_X12_rolls_7 fl_RX12_325_11 rfl rfl kd_78 ?_
  refine r_ltm hD (fun u2 hD => ?_)
  refine r_aload_n hK d_X12_rolls_10 rfl rfl ?_
  refine r_getR hK d_X12_rolls_11 fl_RX12_71_11 rfl kd_78 ?_
  refine r_ref (b := 89) R0_78_30 ?_
  refine r_bipush hK d_X12_rolls_14 cb_77 ?_
  refine r_dup2 hK d_X12_rolls_16 rfl rfl ?_
  obtain ⟨h3, hD⟩ := ck_e hD
  refine r_iald hK d_X12_rolls_17 kd_89 ln_89 (inb_in h3) ?_
  refine r_iconst hK d_X12_rolls_18 ci_1 ?_
  refine r_iadd hK d_X12_rolls_19 ?_
  obtain ⟨h4, hD⟩ := ck_e hD
  refine r_iast hK d_X12_rolls_20 kd_89 ln_89 (inb_in h4) ?_
  refine r_ltm hD (fun u5 hD => ?_)
  refine r_iconst hK d_X12_rolls_21 ci_0 ?_
  refine r_istore_n hK d_X12_rolls_22 rfl (by decide) (ls2 := [.ref 78, .int x1, .int (0 : Int32), gs_J, gs_J]) rfl ?_
  exact TL_X12_rolls_23 hK  _ _ _ _  hD
end S_X12_rolls
theorem d_X12_roll_0 : gd cX12_roll 0 (.aload_n 0) 1 1 := ⟨by decide +kernel, rfl⟩
theorem d_X12_roll_1 : gd cX12_roll 1 (.iconst 0) 1 2 := ⟨by decide +kernel, rfl⟩
theorem d_X12_roll_2 : gd cX12_roll 2 (.putfield 98) 3 5 := ⟨by decide +kernel, rfl⟩
theorem d_X12_roll_5 : gd cX12_roll 5 (.aload_n 0) 1 6 := ⟨by decide +kernel, rfl⟩
theorem d_X12_roll_6 : gd cX12_roll 6 (.invokevirtual 373) 3 9 := ⟨by decide +kernel, rfl⟩
theorem d_X12_roll_9 : gd cX12_roll 9 (.ifCond .eq 13) 3 12 := ⟨by decide +kernel, rfl⟩
theorem d_X12_roll_12 : gd cX12_roll 12 (.iload_n 1) 1 13 := ⟨by decide +kernel, rfl⟩
theorem d_X12_roll_13 : gd cX12_roll 13 (.iconst 0) 1 14 := ⟨by decide +kernel, rfl⟩
theorem d_X12_roll_14 : gd cX12_roll 14 (.bipush 40) 2 16 := ⟨by decide +kernel, rfl⟩
theorem d_X12_roll_16 : gd cX12_roll 16 (.invokestatic 217) 3 19 := ⟨by decide +kernel, rfl⟩
theorem d_X12_roll_19 : gd cX12_roll 19 (.ifCond .ne 5) 3 22 := ⟨by decide +kernel, rfl⟩
theorem d_X12_roll_22 : gd cX12_roll 22 (.iconst (-1)) 1 23 := ⟨by decide +kernel, rfl⟩
theorem d_X12_roll_23 : gd cX12_roll 23 .ireturn 1 24 := ⟨by decide +kernel, rfl⟩
theorem d_X12_roll_24 : gd cX12_roll 24 (.aload_n 0) 1 25 := ⟨by decide +kernel, rfl⟩
theorem d_X12_roll_25 : gd cX12_roll 25 (.iload_n 1) 1 26 := ⟨by decide +kernel, rfl⟩
theorem d_X12_roll_26 : gd cX12_roll 26 (.invokevirtual 376) 3 29 := ⟨by decide +kernel, rfl⟩
theorem d_X12_roll_29 : gd cX12_roll 29 (.aload_n 0) 1 30 := ⟨by decide +kernel, rfl⟩
theorem d_X12_roll_30 : gd cX12_roll 30 (.getfield 322) 3 33 := ⟨by decide +kernel, rfl⟩
theorem d_X12_roll_33 : gd cX12_roll 33 (.aload_n 0) 1 34 := ⟨by decide +kernel, rfl⟩
theorem d_X12_roll_34 : gd cX12_roll 34 (.getfield 325) 3 37 := ⟨by decide +kernel, rfl⟩
theorem d_X12_roll_37 : gd cX12_roll 37 .iadd 1 38 := ⟨by decide +kernel, rfl⟩
theorem d_X12_roll_38 : gd cX12_roll 38 .ireturn 1 39 := ⟨by decide +kernel, rfl⟩
def D_X12_roll (x1 : Int32) (μ : gs_M) : Option (Int32 × gs_M) :=
  lt1 (sI μ 78 0 (0 : Int32)) (fun u1 => bd (D_X12_isAfloat u1) (fun v4 u3 => if v4 = 0 then (some ((-1 : Int32), u3)) else (bd (D_X12_isIn x1 (0 : Int32) (40 : Int32) u3) (fun v8 u7 => if v8 = 0 then (some ((-1 : Int32), u7)) else (bd0 (D_X12_rolls x1 u7) (fun u11 => some ((gI u11 78 37) + (gI u11 78 38), u11)))))))
section S_X12_roll
variable {p : Program} {l : Launch} {e : Env} {R : Room} {s : State} {m : MethodId} {args : Array Value} {below : List Frame} {meth : Method} {c : Code} {ad : Nat → Nat} {g : va_G} {tyc : Nat → ClassId}
set_option maxRecDepth 20000 in
theorem C_X12_roll  {x1 : Int32} {μ : gs_M} {r : Int32} {μ2 : gs_M}  (hD : D_X12_roll x1 μ = some (r, μ2)) : CALL yX12_roll cX12_roll 2 (some .int) 6 [.ref 78, .int x1] μ (some (.int r)) μ2 := by
  unfold D_X12_roll at hD
  refine gs_enter mf_X12_roll (Nat.le_of_ble_eq_true rfl) (ls := [.ref 78, .int x1]) rfl (fun p l e R s m args below meth c ad g tyc hK => ?_)
  have hK : KC p R s m args meth c ad g tyc RX12 cX12_roll 2 (some .int) 6 := hK
  refine r_aload_n hK d_X12_roll_0 rfl rfl ?_
  refine r_iconst hK d_X12_roll_1 ci_0 ?_
  refine r_putI hK d_X12_roll_2 fl_RX12_98_11 rfl rfl kd_78 ?_
  refine r_ltm hD (fun u1 hD => ?_)
  refine r_aload_n hK d_X12_roll_5 rfl rfl ?_
  obtain ⟨v4, u3, e2, hD⟩ := bd_e hD
  refine r_callV (As := []) (st := []) (stk2 := [.int v4]) hK (C_X12_isAfloat  e2) d_X12_roll_6 mf_X12_isAfloat ml_RX12_373 im_X12_isAfloat rfl se_11_RX12_X12_isAfloat kd_78 rfl (Nat.le_of_ble_eq_true rfl) (by decide) ⟨Nat.zero_le _, Nat.zero_le _⟩ rfl rfl ?_
  refine r_if_eq (tgt := 22) hK d_X12_roll_9 (by decide) (fun h5 => ?_) (fun h5 => ?_)
  · have hD := if_t hD h5
    refine r_iconst hK d_X12_roll_22 ci_m1 ?_
    cases hD
    exact r_iret hK d_X12_roll_23
  · have hD := if_f hD h5
    refine r_iload_n hK d_X12_roll_12 rfl rfl ?_
    refine r_iconst hK d_X12_roll_13 ci_0 ?_
    refine r_bipush hK d_X12_roll_14 cb_40 ?_
    obtain ⟨v8, u7, e6, hD⟩ := bd_e hD
    refine r_callS (As := [.int x1, .int (0 : Int32), .int (40 : Int32)]) (st := []) (stk2 := [.int v8]) hK (C_X12_isIn  e6) d_X12_roll_16 mf_X12_isIn ml_RX12_217 ss_X12_isIn rfl (Nat.le_of_ble_eq_true rfl) (by decide) ⟨Nat.zero_le _, Nat.zero_le _⟩ rfl rfl ?_
    refine r_if_ne (tgt := 24) hK d_X12_roll_19 (by decide) (fun h9 => ?_) (fun h9 => ?_)
    · have hD := if_f hD h9
      refine r_aload_n hK d_X12_roll_24 rfl rfl ?_
      refine r_iload_n hK d_X12_roll_25 rfl rfl ?_
      obtain ⟨u11, e10, hD⟩ := bd0_e hD
      refine r_callV (As := [.int x1]) (st := []) (stk2 := []) hK (C_X12_rolls  e10) d_X12_roll_26 mf_X12_rolls ml_RX12_376 im_X12_rolls rfl se_11_RX12_X12_rolls kd_78 rfl (Nat.le_of_ble_eq_true rfl) (by decide) ⟨Nat.zero_le _, Nat.zero_le _⟩ rfl rfl ?_
      refine r_aload_n hK d_X12_roll_29 rfl rfl ?_
      refine r_getI hK d_X12_roll_30 fl_RX12_322_11 rfl kd_78 ?_
      refine r_aload_n hK d_X12_roll_33 rfl rfl ?_
      refine r_getI hK d_X12_roll_34 fl_RX12_325_11 rfl kd_78 ?_
      refine r_iadd hK d_X12_roll_37 ?_
      cases hD
      exact r_iret hK d_X12_roll_38
    · have hD := if_t hD h9
      refine r_iconst hK d_X12_roll_22 ci_m1 ?_
      cases hD
      exact r_iret hK d_X12_roll_23
end S_X12_roll
theorem d_X12_draw_0 : gd cX12_draw 0 (.aload_n 0) 1 1 := ⟨by decide +kernel, rfl⟩
theorem d_X12_draw_1 : gd cX12_draw 1 (.aload_n 0) 1 2 := ⟨by decide +kernel, rfl⟩
theorem d_X12_draw_2 : gd cX12_draw 2 (.getfield 352) 3 5 := ⟨by decide +kernel, rfl⟩
theorem d_X12_draw_5 : gd cX12_draw 5 (.ldc2_w 379) 3 8 := ⟨by decide +kernel, rfl⟩
theorem d_X12_draw_8 : gd cX12_draw 8 .lmul 1 9 := ⟨by decide +kernel, rfl⟩
theorem d_X12_draw_9 : gd cX12_draw 9 (.ldc2_w 381) 3 12 := ⟨by decide +kernel, rfl⟩
theorem d_X12_draw_12 : gd cX12_draw 12 .ladd 1 13 := ⟨by decide +kernel, rfl⟩
theorem d_X12_draw_13 : gd cX12_draw 13 (.putfield 352) 3 16 := ⟨by decide +kernel, rfl⟩
theorem d_X12_draw_16 : gd cX12_draw 16 (.aload_n 0) 1 17 := ⟨by decide +kernel, rfl⟩
theorem d_X12_draw_17 : gd cX12_draw 17 (.getfield 352) 3 20 := ⟨by decide +kernel, rfl⟩
theorem d_X12_draw_20 : gd cX12_draw 20 (.bipush 33) 2 22 := ⟨by decide +kernel, rfl⟩
theorem d_X12_draw_22 : gd cX12_draw 22 .lushr 1 23 := ⟨by decide +kernel, rfl⟩
theorem d_X12_draw_23 : gd cX12_draw 23 (.ldc2_w 383) 3 26 := ⟨by decide +kernel, rfl⟩
theorem d_X12_draw_26 : gd cX12_draw 26 .lrem 1 27 := ⟨by decide +kernel, rfl⟩
theorem d_X12_draw_27 : gd cX12_draw 27 .l2i 1 28 := ⟨by decide +kernel, rfl⟩
theorem d_X12_draw_28 : gd cX12_draw 28 .ireturn 1 29 := ⟨by decide +kernel, rfl⟩
def D_X12_draw  (μ : gs_M) : Option (Int32 × gs_M) :=
  lt1 (sL μ 78 33 (((gL μ 78 33) * (6364136223846793005 : Int64)) + (1442695040888963407 : Int64))) (fun u1 => some (Int64.toInt32 (((Int64.toUInt64 (gL u1 78 33) >>> ((Int32.toInt64 (33 : Int32)).toUInt64 &&& Int64.toUInt64 63)).toInt64) - ((Int64.toUInt64 (gL u1 78 33) >>> ((Int32.toInt64 (33 : Int32)).toUInt64 &&& Int64.toUInt64 63)).toInt64) / (6 : Int64) * (6 : Int64)), u1))
section S_X12_draw
variable {p : Program} {l : Launch} {e : Env} {R : Room} {s : State} {m : MethodId} {args : Array Value} {below : List Frame} {meth : Method} {c : Code} {ad : Nat → Nat} {g : va_G} {tyc : Nat → ClassId}
set_option maxRecDepth 20000 in
theorem C_X12_draw   {μ : gs_M} {r : Int32} {μ2 : gs_M}  (hD : D_X12_draw  μ = some (r, μ2)) : CALL yX12_draw cX12_draw 1 (some .int) 0 [.ref 78] μ (some (.int r)) μ2 := by
  unfold D_X12_draw at hD
  refine gs_enter mf_X12_draw (Nat.le_of_ble_eq_true rfl) (ls := [.ref 78]) rfl (fun p l e R s m args below meth c ad g tyc hK => ?_)
  have hK : KC p R s m args meth c ad g tyc RX12 cX12_draw 1 (some .int) 0 := hK
  refine r_aload_n hK d_X12_draw_0 rfl rfl ?_
  refine r_aload_n hK d_X12_draw_1 rfl rfl ?_
  refine r_getL hK d_X12_draw_2 fl_RX12_352_11 rfl kd_78 ?_
  refine r_ldc2 hK d_X12_draw_5 kl_RX12_379 ?_
  refine r_lmul hK d_X12_draw_8 ?_
  refine r_ldc2 hK d_X12_draw_9 kl_RX12_381 ?_
  refine r_ladd hK d_X12_draw_12 ?_
  refine r_putL hK d_X12_draw_13 fl_RX12_352_11 rfl rfl kd_78 ?_
  refine r_ltm hD (fun u1 hD => ?_)
  refine r_aload_n hK d_X12_draw_16 rfl rfl ?_
  refine r_getL hK d_X12_draw_17 fl_RX12_352_11 rfl kd_78 ?_
  refine r_bipush hK d_X12_draw_20 cb_33 ?_
  refine r_lushr hK d_X12_draw_22 ?_
  refine r_ldc2 hK d_X12_draw_23 kl_RX12_383 ?_
  refine r_lrem hK d_X12_draw_26 (by decide) ?_
  refine r_l2i hK d_X12_draw_27 ?_
  cases hD
  exact r_iret hK d_X12_draw_28
end S_X12_draw
theorem d_X12_days_0 : gd cX12_days 0 (.iconst 0) 1 1 := ⟨by decide +kernel, rfl⟩
theorem d_X12_days_1 : gd cX12_days 1 (.istore_n 2) 1 2 := ⟨by decide +kernel, rfl⟩
theorem d_X12_days_2 : gd cX12_days 2 (.iload_n 2) 1 3 := ⟨by decide +kernel, rfl⟩
theorem d_X12_days_3 : gd cX12_days 3 (.aload_n 0) 1 4 := ⟨by decide +kernel, rfl⟩
theorem d_X12_days_4 : gd cX12_days 4 (.bipush 76) 2 6 := ⟨by decide +kernel, rfl⟩
theorem d_X12_days_6 : gd cX12_days 6 (.invokevirtual 337) 3 9 := ⟨by decide +kernel, rfl⟩
theorem d_X12_days_9 : gd cX12_days 9 (.if_icmp .ge 44) 3 12 := ⟨by decide +kernel, rfl⟩
theorem d_X12_days_12 : gd cX12_days 12 (.aload_n 0) 1 13 := ⟨by decide +kernel, rfl⟩
theorem d_X12_days_13 : gd cX12_days 13 (.iload_n 2) 1 14 := ⟨by decide +kernel, rfl⟩
theorem d_X12_days_14 : gd cX12_days 14 (.iconst 5) 1 15 := ⟨by decide +kernel, rfl⟩
theorem d_X12_days_15 : gd cX12_days 15 (.invokevirtual 302) 3 18 := ⟨by decide +kernel, rfl⟩
theorem d_X12_days_18 : gd cX12_days 18 (.aload_n 0) 1 19 := ⟨by decide +kernel, rfl⟩
theorem d_X12_days_19 : gd cX12_days 19 (.aload_n 0) 1 20 := ⟨by decide +kernel, rfl⟩
theorem d_X12_days_20 : gd cX12_days 20 (.iload_n 2) 1 21 := ⟨by decide +kernel, rfl⟩
theorem d_X12_days_21 : gd cX12_days 21 (.iconst 2) 1 22 := ⟨by decide +kernel, rfl⟩
theorem d_X12_days_22 : gd cX12_days 22 (.invokevirtual 302) 3 25 := ⟨by decide +kernel, rfl⟩
theorem d_X12_days_25 : gd cX12_days 25 (.iconst 1) 1 26 := ⟨by decide +kernel, rfl⟩
theorem d_X12_days_26 : gd cX12_days 26 (.invokevirtual 280) 3 29 := ⟨by decide +kernel, rfl⟩
theorem d_X12_days_29 : gd cX12_days 29 (.if_icmp .ge 18) 3 32 := ⟨by decide +kernel, rfl⟩
theorem d_X12_days_32 : gd cX12_days 32 (.aload_n 0) 1 33 := ⟨by decide +kernel, rfl⟩
theorem d_X12_days_33 : gd cX12_days 33 (.getfield 71) 3 36 := ⟨by decide +kernel, rfl⟩
theorem d_X12_days_36 : gd cX12_days 36 (.bipush 7) 2 38 := ⟨by decide +kernel, rfl⟩
theorem d_X12_days_38 : gd cX12_days 38 (.iload_n 2) 1 39 := ⟨by decide +kernel, rfl⟩
theorem d_X12_days_39 : gd cX12_days 39 .imul 1 40 := ⟨by decide +kernel, rfl⟩
theorem d_X12_days_40 : gd cX12_days 40 (.iconst 5) 1 41 := ⟨by decide +kernel, rfl⟩
theorem d_X12_days_41 : gd cX12_days 41 .iadd 1 42 := ⟨by decide +kernel, rfl⟩
theorem d_X12_days_42 : gd cX12_days 42 .dup2 1 43 := ⟨by decide +kernel, rfl⟩
theorem d_X12_days_43 : gd cX12_days 43 .iaload 1 44 := ⟨by decide +kernel, rfl⟩
theorem d_X12_days_44 : gd cX12_days 44 (.iconst 1) 1 45 := ⟨by decide +kernel, rfl⟩
theorem d_X12_days_45 : gd cX12_days 45 .iadd 1 46 := ⟨by decide +kernel, rfl⟩
theorem d_X12_days_46 : gd cX12_days 46 .iastore 1 47 := ⟨by decide +kernel, rfl⟩
theorem d_X12_days_47 : gd cX12_days 47 (.iinc 2 1) 3 50 := ⟨by decide +kernel, rfl⟩
theorem d_X12_days_50 : gd cX12_days 50 (.goto (-48)) 3 53 := ⟨by decide +kernel, rfl⟩
theorem d_X12_days_53 : gd cX12_days 53 (.iconst 0) 1 54 := ⟨by decide +kernel, rfl⟩
theorem d_X12_days_54 : gd cX12_days 54 (.istore_n 2) 1 55 := ⟨by decide +kernel, rfl⟩
theorem d_X12_days_55 : gd cX12_days 55 (.iload_n 2) 1 56 := ⟨by decide +kernel, rfl⟩
theorem d_X12_days_56 : gd cX12_days 56 (.iconst 4) 1 57 := ⟨by decide +kernel, rfl⟩
theorem d_X12_days_57 : gd cX12_days 57 (.if_icmp .ge 28) 3 60 := ⟨by decide +kernel, rfl⟩
theorem d_X12_days_60 : gd cX12_days 60 (.aload_n 0) 1 61 := ⟨by decide +kernel, rfl⟩
theorem d_X12_days_61 : gd cX12_days 61 (.bipush 79) 2 63 := ⟨by decide +kernel, rfl⟩
theorem d_X12_days_63 : gd cX12_days 63 (.invokevirtual 337) 3 66 := ⟨by decide +kernel, rfl⟩
theorem d_X12_days_66 : gd cX12_days 66 (.ifCond .ne 19) 3 69 := ⟨by decide +kernel, rfl⟩
theorem d_X12_days_69 : gd cX12_days 69 (.aload_n 0) 1 70 := ⟨by decide +kernel, rfl⟩
theorem d_X12_days_70 : gd cX12_days 70 (.iload_n 1) 1 71 := ⟨by decide +kernel, rfl⟩
theorem d_X12_days_71 : gd cX12_days 71 (.aload_n 0) 1 72 := ⟨by decide +kernel, rfl⟩
theorem d_X12_days_72 : gd cX12_days 72 (.invokevirtual 385) 3 75 := ⟨by decide +kernel, rfl⟩
theorem d_X12_days_75 : gd cX12_days 75 .iadd 1 76 := ⟨by decide +kernel, rfl⟩
theorem d_X12_days_76 : gd cX12_days 76 (.invokevirtual 376) 3 79 := ⟨by decide +kernel, rfl⟩
theorem d_X12_days_79 : gd cX12_days 79 (.iinc 2 1) 3 82 := ⟨by decide +kernel, rfl⟩
theorem d_X12_days_82 : gd cX12_days 82 (.goto (-27)) 3 85 := ⟨by decide +kernel, rfl⟩
theorem d_X12_days_85 : gd cX12_days 85 (.aload_n 0) 1 86 := ⟨by decide +kernel, rfl⟩
theorem d_X12_days_86 : gd cX12_days 86 (.getfield 71) 3 89 := ⟨by decide +kernel, rfl⟩
theorem d_X12_days_89 : gd cX12_days 89 (.bipush 78) 2 91 := ⟨by decide +kernel, rfl⟩
theorem d_X12_days_91 : gd cX12_days 91 .dup2 1 92 := ⟨by decide +kernel, rfl⟩
theorem d_X12_days_92 : gd cX12_days 92 .iaload 1 93 := ⟨by decide +kernel, rfl⟩
theorem d_X12_days_93 : gd cX12_days 93 (.iconst 1) 1 94 := ⟨by decide +kernel, rfl⟩
theorem d_X12_days_94 : gd cX12_days 94 .iadd 1 95 := ⟨by decide +kernel, rfl⟩
theorem d_X12_days_95 : gd cX12_days 95 .iastore 1 96 := ⟨by decide +kernel, rfl⟩
theorem d_X12_days_96 : gd cX12_days 96 .return_ 1 97 := ⟨by decide +kernel, rfl⟩
def B_X12_days_85   (μ : gs_M) : Option (gs_M) :=
  ck (inb (78 : Int32) 81) (ck (inb (78 : Int32) 81) (lt1 (sI μ 89 (Int32.toNatClampNeg (78 : Int32)) ((gI μ 89 (Int32.toNatClampNeg (78 : Int32))) + (1 : Int32))) (fun u3 => some u3)))
def Bo_X12_days_55 (q55 : Int32 → Int32 → gs_M → Option (gs_M)) (x1 : Int32) (x2 : Int32) (μ : gs_M) : Option (gs_M) :=
  if (4 : Int32) ≤ x2 then (B_X12_days_85 μ) else (bd (D_X12_now (79 : Int32) μ) (fun v4 u3 => if v4 = 0 then (bd (D_X12_draw u3) (fun v8 u7 => bd0 (D_X12_rolls (x1 + v8) u7) (fun u10 => q55 x1 (x2 + (1 : Int32)) u10))) else (B_X12_days_85 u3)))
def L_X12_days_55  : Nat → Int32 → Int32 → gs_M → Option (gs_M)
  | 0 => fun _ _ _ => none
  | n + 1 => fun x1 x2 μ => Bo_X12_days_55  (L_X12_days_55  n) x1 x2 μ
def Bo_X12_days_2 (q2 : Int32 → Int32 → gs_M → Option (gs_M)) (x1 : Int32) (x2 : Int32) (μ : gs_M) : Option (gs_M) :=
  bd (D_X12_now (76 : Int32) μ) (fun v3 u2 => if v3 ≤ x2 then (L_X12_days_55 4096 x1 (0 : Int32) u2) else (bd (D_X12_of x2 (5 : Int32) u2) (fun v7 u6 => bd (D_X12_of x2 (2 : Int32) u6) (fun v10 u9 => bd (D_X12_partOf v10 (1 : Int32) u9) (fun v13 u12 => if v13 ≤ v7 then (q2 x1 (x2 + (1 : Int32)) u12) else (ck (inb (((7 : Int32) * x2) + (5 : Int32)) 81) (ck (inb (((7 : Int32) * x2) + (5 : Int32)) 81) (lt1 (sI u12 89 (Int32.toNatClampNeg (((7 : Int32) * x2) + (5 : Int32))) ((gI u12 89 (Int32.toNatClampNeg (((7 : Int32) * x2) + (5 : Int32)))) + (1 : Int32))) (fun u17 => q2 x1 (x2 + (1 : Int32)) u17)))))))))
def L_X12_days_2  : Nat → Int32 → Int32 → gs_M → Option (gs_M)
  | 0 => fun _ _ _ => none
  | n + 1 => fun x1 x2 μ => Bo_X12_days_2  (L_X12_days_2  n) x1 x2 μ
def D_X12_days (x1 : Int32) (μ : gs_M) : Option (gs_M) :=
  L_X12_days_2 4096 x1 (0 : Int32) μ
section S_X12_days
variable {p : Program} {l : Launch} {e : Env} {R : Room} {s : State} {m : MethodId} {args : Array Value} {below : List Frame} {meth : Method} {c : Code} {ad : Nat → Nat} {g : va_G} {tyc : Nat → ClassId}
set_option maxRecDepth 20000 in
theorem T_X12_days_85  (hK : KC p R s m args meth c ad g tyc RX12 cX12_days 3 none 6) {μ2 : gs_M}    {μ : gs_M}  (hD : B_X12_days_85   μ = some μ2) : WJ p l e R s m args below meth c 0 0 (MQ below (gs_Q ad g tyc none μ2) args s 0 0 (gs_A ad)) ad g tyc 3 85 [.ref 78, gs_J, gs_J] [] μ := by
  unfold B_X12_days_85 at hD
  refine r_aload_n hK d_X12_days_85 rfl rfl ?_
  refine r_getR hK d_X12_days_86 fl_RX12_71_11 rfl kd_78 ?_
  refine r_ref (b := 89) R0_78_30 ?_
  refine r_bipush hK d_X12_days_89 cb_78 ?_
  refine r_dup2 hK d_X12_days_91 rfl rfl ?_
  obtain ⟨h1, hD⟩ := ck_e hD
  refine r_iald hK d_X12_days_92 kd_89 ln_89 (inb_in h1) ?_
  refine r_iconst hK d_X12_days_93 ci_1 ?_
  refine r_iadd hK d_X12_days_94 ?_
  obtain ⟨h2, hD⟩ := ck_e hD
  refine r_iast hK d_X12_days_95 kd_89 ln_89 (inb_in h2) ?_
  refine r_ltm hD (fun u3 hD => ?_)
  cases hD
  exact r_vret hK d_X12_days_96
set_option maxRecDepth 20000 in
theorem To_X12_days_55  (hK : KC p R s m args meth c ad g tyc RX12 cX12_days 3 none 6) {μ2 : gs_M} {q55 : Int32 → Int32 → gs_M → Option (gs_M)} (hq55 : ∀ (x1 : Int32) (x2 : Int32) (μ : gs_M), q55 x1 x2 μ = some μ2 → WJ p l e R s m args below meth c 0 0 (MQ below (gs_Q ad g tyc none μ2) args s 0 0 (gs_A ad)) ad g tyc 3 55 [.ref 78, .int x1, .int x2] [] μ) {x1 : Int32} {x2 : Int32} {μ : gs_M}  (hD : Bo_X12_days_55 q55 x1 x2 μ = some μ2) : WJ p l e R s m args below meth c 0 0 (MQ below (gs_Q ad g tyc none μ2) args s 0 0 (gs_A ad)) ad g tyc 3 55 [.ref 78, .int x1, .int x2] [] μ := by
  unfold Bo_X12_days_55 at hD
  refine r_iload_n hK d_X12_days_55 rfl rfl ?_
  refine r_iconst hK d_X12_days_56 ci_4 ?_
  refine r_icmp_ge (tgt := 85) hK d_X12_days_57 (by decide) (fun h1 => ?_) (fun h1 => ?_)
  · have hD := if_t hD h1
    refine r_junk [true, false, false] (ls2 := [.ref 78, gs_J, gs_J]) rfl ?_
    exact T_X12_days_85 hK   hD
  · have hD := if_f hD h1
    refine r_aload_n hK d_X12_days_60 rfl rfl ?_
    refine r_bipush hK d_X12_days_61 cb_79 ?_
    obtain ⟨v4, u3, e2, hD⟩ := bd_e hD
    refine r_callV (As := [.int (79 : Int32)]) (st := []) (stk2 := [.int v4]) hK (C_X12_now  e2) d_X12_days_63 mf_X12_now ml_RX12_337 im_X12_now rfl se_11_RX12_X12_now kd_78 rfl (Nat.le_of_ble_eq_true rfl) (by decide) ⟨Nat.zero_le _, Nat.zero_le _⟩ rfl rfl ?_
    refine r_if_ne (tgt := 85) hK d_X12_days_66 (by decide) (fun h5 => ?_) (fun h5 => ?_)
    · have hD := if_f hD h5
      refine r_junk [true, false, false] (ls2 := [.ref 78, gs_J, gs_J]) rfl ?_
      exact T_X12_days_85 hK   hD
    · have hD := if_t hD h5
      refine r_aload_n hK d_X12_days_69 rfl rfl ?_
      refine r_iload_n hK d_X12_days_70 rfl rfl ?_
      refine r_aload_n hK d_X12_days_71 rfl rfl ?_
      obtain ⟨v8, u7, e6, hD⟩ := bd_e hD
      refine r_callV (As := []) (st := [.int x1, .ref 78]) (stk2 := [.int v8, .int x1, .ref 78]) hK (C_X12_draw  e6) d_X12_days_72 mf_X12_draw ml_RX12_385 im_X12_draw rfl se_11_RX12_X12_draw kd_78 rfl (Nat.le_of_ble_eq_true rfl) (by decide) ⟨Nat.zero_le _, Nat.zero_le _⟩ rfl rfl ?_
      refine r_iadd hK d_X12_days_75 ?_
      obtain ⟨u10, e9, hD⟩ := bd0_e hD
      refine r_callV (As := [.int (x1 + v8)]) (st := []) (stk2 := []) hK (C_X12_rolls  e9) d_X12_days_76 mf_X12_rolls ml_RX12_376 im_X12_rolls rfl se_11_RX12_X12_rolls kd_78 rfl (Nat.le_of_ble_eq_true rfl) (by decide) ⟨Nat.zero_le _, Nat.zero_le _⟩ rfl rfl ?_
      refine r_iinc hK d_X12_days_79 rfl (v := x2 + (1 : Int32)) (by rw [ci_1]) (by decide) (ls2 := [.ref 78, .int x1, .int (x2 + (1 : Int32))]) rfl ?_
      refine r_goto (tgt := 55) hK d_X12_days_82 (by decide) ?_
      exact hq55 _ _ _  hD
set_option maxRecDepth 20000 in
theorem TL_X12_days_55  (hK : KC p R s m args meth c ad g tyc RX12 cX12_days 3 none 6) {μ2 : gs_M}   : ∀ (n : Nat) (x1 : Int32) (x2 : Int32) (μ : gs_M), L_X12_days_55  n x1 x2 μ = some μ2 → WJ p l e R s m args below meth c 0 0 (MQ below (gs_Q ad g tyc none μ2) args s 0 0 (gs_A ad)) ad g tyc 3 55 [.ref 78, .int x1, .int x2] [] μ := by
  intro n
  induction n with
  | zero => intro x1 x2 μ  hD; cases hD
  | succ n ih => intro x1 x2 μ  hD; exact To_X12_days_55 hK  ih  hD
set_option maxRecDepth 20000 in
theorem To_X12_days_2  (hK : KC p R s m args meth c ad g tyc RX12 cX12_days 3 none 6) {μ2 : gs_M} {q2 : Int32 → Int32 → gs_M → Option (gs_M)} (hq2 : ∀ (x1 : Int32) (x2 : Int32) (μ : gs_M), q2 x1 x2 μ = some μ2 → WJ p l e R s m args below meth c 0 0 (MQ below (gs_Q ad g tyc none μ2) args s 0 0 (gs_A ad)) ad g tyc 3 2 [.ref 78, .int x1, .int x2] [] μ) {x1 : Int32} {x2 : Int32} {μ : gs_M}  (hD : Bo_X12_days_2 q2 x1 x2 μ = some μ2) : WJ p l e R s m args below meth c 0 0 (MQ below (gs_Q ad g tyc none μ2) args s 0 0 (gs_A ad)) ad g tyc 3 2 [.ref 78, .int x1, .int x2] [] μ := by
  unfold Bo_X12_days_2 at hD
  refine r_iload_n hK d_X12_days_2 rfl rfl ?_
  refine r_aload_n hK d_X12_days_3 rfl rfl ?_
  refine r_bipush hK d_X12_days_4 cb_76 ?_
  obtain ⟨v3, u2, e1, hD⟩ := bd_e hD
  refine r_callV (As := [.int (76 : Int32)]) (st := [.int x2]) (stk2 := [.int v3, .int x2]) hK (C_X12_now  e1) d_X12_days_6 mf_X12_now ml_RX12_337 im_X12_now rfl se_11_RX12_X12_now kd_78 rfl (Nat.le_of_ble_eq_true rfl) (by decide) ⟨Nat.zero_le _, Nat.zero_le _⟩ rfl rfl ?_
  refine r_icmp_ge (tgt := 53) hK d_X12_days_9 (by decide) (fun h4 => ?_) (fun h4 => ?_)
  · have hD := if_t hD h4
    refine r_iconst hK d_X12_days_53 ci_0 ?_
    refine r_istore_n hK d_X12_days_54 rfl (by decide) (ls2 := [.ref 78, .int x1, .int (0 : Int32)]) rfl ?_
    exact TL_X12_days_55 hK  _ _ _ _  hD
  · have hD := if_f hD h4
    refine r_aload_n hK d_X12_days_12 rfl rfl ?_
    refine r_iload_n hK d_X12_days_13 rfl rfl ?_
    refine r_iconst hK d_X12_days_14 ci_5 ?_
    obtain ⟨v7, u6, e5, hD⟩ := bd_e hD
    refine r_callV (As := [.int x2, .int (5 : Int32)]) (st := []) (stk2 := [.int v7]) hK (C_X12_of  e5) d_X12_days_15 mf_X12_of ml_RX12_302 im_X12_of rfl se_11_RX12_X12_of kd_78 rfl (Nat.le_of_ble_eq_true rfl) (by decide) ⟨Nat.zero_le _, Nat.zero_le _⟩ rfl rfl ?_
    refine r_aload_n hK d_X12_days_18 rfl rfl ?_
    refine r_aload_n hK d_X12_days_19 rfl rfl ?_
    refine r_iload_n hK d_X12_days_20 rfl rfl ?_
    refine r_iconst hK d_X12_days_21 ci_2 ?_
    obtain ⟨v10, u9, e8, hD⟩ := bd_e hD
    refine r_callV (As := [.int x2, .int (2 : Int32)]) (st := [.ref 78, .int v7]) (stk2 := [.int v10, .ref 78, .int v7]) hK (C_X12_of  e8) d_X12_days_22 mf_X12_of ml_RX12_302 im_X12_of rfl se_11_RX12_X12_of kd_78 rfl (Nat.le_of_ble_eq_true rfl) (by decide) ⟨Nat.zero_le _, Nat.zero_le _⟩ rfl rfl ?_
    refine r_iconst hK d_X12_days_25 ci_1 ?_
    obtain ⟨v13, u12, e11, hD⟩ := bd_e hD
    refine r_callV (As := [.int v10, .int (1 : Int32)]) (st := [.int v7]) (stk2 := [.int v13, .int v7]) hK (C_X12_partOf  e11) d_X12_days_26 mf_X12_partOf ml_RX12_280 im_X12_partOf rfl se_11_RX12_X12_partOf kd_78 rfl (Nat.le_of_ble_eq_true rfl) (by decide) ⟨Nat.zero_le _, Nat.zero_le _⟩ rfl rfl ?_
    refine r_icmp_ge (tgt := 47) hK d_X12_days_29 (by decide) (fun h14 => ?_) (fun h14 => ?_)
    · have hD := if_t hD h14
      refine r_iinc hK d_X12_days_47 rfl (v := x2 + (1 : Int32)) (by rw [ci_1]) (by decide) (ls2 := [.ref 78, .int x1, .int (x2 + (1 : Int32))]) rfl ?_
      refine r_goto (tgt := 2) hK d_X12_days_50 (by decide) ?_
      exact hq2 _ _ _  hD
    · have hD := if_f hD h14
      refine r_aload_n hK d_X12_days_32 rfl rfl ?_
      refine r_getR hK d_X12_days_33 fl_RX12_71_11 rfl kd_78 ?_
      refine r_ref (b := 89) R0_78_30 ?_
      refine r_bipush hK d_X12_days_36 cb_7 ?_
      refine r_iload_n hK d_X12_days_38 rfl rfl ?_
      refine r_imul hK d_X12_days_39 ?_
      refine r_iconst hK d_X12_days_40 ci_5 ?_
      refine r_iadd hK d_X12_days_41 ?_
      refine r_dup2 hK d_X12_days_42 rfl rfl ?_
      obtain ⟨h15, hD⟩ := ck_e hD
      refine r_iald hK d_X12_days_43 kd_89 ln_89 (inb_in h15) ?_
      refine r_iconst hK d_X12_days_44 ci_1 ?_
      refine r_iadd hK d_X12_days_45 ?_
      obtain ⟨h16, hD⟩ := ck_e hD
      refine r_iast hK d_X12_days_46 kd_89 ln_89 (inb_in h16) ?_
      refine r_ltm hD (fun u17 hD => ?_)
      refine r_iinc hK d_X12_days_47 rfl (v := x2 + (1 : Int32)) (by rw [ci_1]) (by decide) (ls2 := [.ref 78, .int x1, .int (x2 + (1 : Int32))]) rfl ?_
      refine r_goto (tgt := 2) hK d_X12_days_50 (by decide) ?_
      exact hq2 _ _ _  hD
set_option maxRecDepth 20000 in
theorem TL_X12_days_2  (hK : KC p R s m args meth c ad g tyc RX12 cX12_days 3 none 6) {μ2 : gs_M}   : ∀ (n : Nat) (x1 : Int32) (x2 : Int32) (μ : gs_M), L_X12_days_2  n x1 x2 μ = some μ2 → WJ p l e R s m args below meth c 0 0 (MQ below (gs_Q ad g tyc none μ2) args s 0 0 (gs_A ad)) ad g tyc 3 2 [.ref 78, .int x1, .int x2] [] μ := by
  intro n
  induction n with
  | zero => intro x1 x2 μ  hD; cases hD
  | succ n ih => intro x1 x2 μ  hD; exact To_X12_days_2 hK  ih  hD
set_option maxRecDepth 20000 in
theorem C_X12_days  {x1 : Int32} {μ : gs_M} {μ2 : gs_M}  (hD : D_X12_days x1 μ = some μ2) : CALL yX12_days cX12_days 3 none 6 [.ref 78, .int x1] μ none μ2 := by
  unfold D_X12_days at hD
  refine gs_enter mf_X12_days (Nat.le_of_ble_eq_true rfl) (ls := [.ref 78, .int x1, gs_J]) rfl (fun p l e R s m args below meth c ad g tyc hK => ?_)
  have hK : KC p R s m args meth c ad g tyc RX12 cX12_days 3 none 6 := hK
  refine r_iconst hK d_X12_days_0 ci_0 ?_
  refine r_istore_n hK d_X12_days_1 rfl (by decide) (ls2 := [.ref 78, .int x1, .int (0 : Int32)]) rfl ?_
  exact TL_X12_days_2 hK  _ _ _ _  hD
end S_X12_days
theorem d_X12_day_0 : gd cX12_day 0 (.aload_n 0) 1 1 := ⟨by decide +kernel, rfl⟩
theorem d_X12_day_1 : gd cX12_day 1 (.iconst 0) 1 2 := ⟨by decide +kernel, rfl⟩
theorem d_X12_day_2 : gd cX12_day 2 (.putfield 98) 3 5 := ⟨by decide +kernel, rfl⟩
theorem d_X12_day_5 : gd cX12_day 5 (.aload_n 0) 1 6 := ⟨by decide +kernel, rfl⟩
theorem d_X12_day_6 : gd cX12_day 6 (.invokevirtual 373) 3 9 := ⟨by decide +kernel, rfl⟩
theorem d_X12_day_9 : gd cX12_day 9 (.ifCond .eq 13) 3 12 := ⟨by decide +kernel, rfl⟩
theorem d_X12_day_12 : gd cX12_day 12 (.iload_n 1) 1 13 := ⟨by decide +kernel, rfl⟩
theorem d_X12_day_13 : gd cX12_day 13 (.iconst 0) 1 14 := ⟨by decide +kernel, rfl⟩
theorem d_X12_day_14 : gd cX12_day 14 (.bipush 30) 2 16 := ⟨by decide +kernel, rfl⟩
theorem d_X12_day_16 : gd cX12_day 16 (.invokestatic 217) 3 19 := ⟨by decide +kernel, rfl⟩
theorem d_X12_day_19 : gd cX12_day 19 (.ifCond .ne 5) 3 22 := ⟨by decide +kernel, rfl⟩
theorem d_X12_day_22 : gd cX12_day 22 (.iconst (-1)) 1 23 := ⟨by decide +kernel, rfl⟩
theorem d_X12_day_23 : gd cX12_day 23 .ireturn 1 24 := ⟨by decide +kernel, rfl⟩
theorem d_X12_day_24 : gd cX12_day 24 (.aload_n 0) 1 25 := ⟨by decide +kernel, rfl⟩
theorem d_X12_day_25 : gd cX12_day 25 (.iload_n 1) 1 26 := ⟨by decide +kernel, rfl⟩
theorem d_X12_day_26 : gd cX12_day 26 (.invokevirtual 388) 3 29 := ⟨by decide +kernel, rfl⟩
theorem d_X12_day_29 : gd cX12_day 29 (.aload_n 0) 1 30 := ⟨by decide +kernel, rfl⟩
theorem d_X12_day_30 : gd cX12_day 30 (.bipush 78) 2 32 := ⟨by decide +kernel, rfl⟩
theorem d_X12_day_32 : gd cX12_day 32 (.invokevirtual 337) 3 35 := ⟨by decide +kernel, rfl⟩
theorem d_X12_day_35 : gd cX12_day 35 .ireturn 1 36 := ⟨by decide +kernel, rfl⟩
def D_X12_day (x1 : Int32) (μ : gs_M) : Option (Int32 × gs_M) :=
  lt1 (sI μ 78 0 (0 : Int32)) (fun u1 => bd (D_X12_isAfloat u1) (fun v4 u3 => if v4 = 0 then (some ((-1 : Int32), u3)) else (bd (D_X12_isIn x1 (0 : Int32) (30 : Int32) u3) (fun v8 u7 => if v8 = 0 then (some ((-1 : Int32), u7)) else (bd0 (D_X12_days x1 u7) (fun u11 => bd (D_X12_now (78 : Int32) u11) (fun v14 u13 => some (v14, u13))))))))
section S_X12_day
variable {p : Program} {l : Launch} {e : Env} {R : Room} {s : State} {m : MethodId} {args : Array Value} {below : List Frame} {meth : Method} {c : Code} {ad : Nat → Nat} {g : va_G} {tyc : Nat → ClassId}
set_option maxRecDepth 20000 in
theorem C_X12_day  {x1 : Int32} {μ : gs_M} {r : Int32} {μ2 : gs_M}  (hD : D_X12_day x1 μ = some (r, μ2)) : CALL yX12_day cX12_day 2 (some .int) 7 [.ref 78, .int x1] μ (some (.int r)) μ2 := by
  unfold D_X12_day at hD
  refine gs_enter mf_X12_day (Nat.le_of_ble_eq_true rfl) (ls := [.ref 78, .int x1]) rfl (fun p l e R s m args below meth c ad g tyc hK => ?_)
  have hK : KC p R s m args meth c ad g tyc RX12 cX12_day 2 (some .int) 7 := hK
  refine r_aload_n hK d_X12_day_0 rfl rfl ?_
  refine r_iconst hK d_X12_day_1 ci_0 ?_
  refine r_putI hK d_X12_day_2 fl_RX12_98_11 rfl rfl kd_78 ?_
  refine r_ltm hD (fun u1 hD => ?_)
  refine r_aload_n hK d_X12_day_5 rfl rfl ?_
  obtain ⟨v4, u3, e2, hD⟩ := bd_e hD
  refine r_callV (As := []) (st := []) (stk2 := [.int v4]) hK (C_X12_isAfloat  e2) d_X12_day_6 mf_X12_isAfloat ml_RX12_373 im_X12_isAfloat rfl se_11_RX12_X12_isAfloat kd_78 rfl (Nat.le_of_ble_eq_true rfl) (by decide) ⟨Nat.zero_le _, Nat.zero_le _⟩ rfl rfl ?_
  refine r_if_eq (tgt := 22) hK d_X12_day_9 (by decide) (fun h5 => ?_) (fun h5 => ?_)
  · have hD := if_t hD h5
    refine r_iconst hK d_X12_day_22 ci_m1 ?_
    cases hD
    exact r_iret hK d_X12_day_23
  · have hD := if_f hD h5
    refine r_iload_n hK d_X12_day_12 rfl rfl ?_
    refine r_iconst hK d_X12_day_13 ci_0 ?_
    refine r_bipush hK d_X12_day_14 cb_30 ?_
    obtain ⟨v8, u7, e6, hD⟩ := bd_e hD
    refine r_callS (As := [.int x1, .int (0 : Int32), .int (30 : Int32)]) (st := []) (stk2 := [.int v8]) hK (C_X12_isIn  e6) d_X12_day_16 mf_X12_isIn ml_RX12_217 ss_X12_isIn rfl (Nat.le_of_ble_eq_true rfl) (by decide) ⟨Nat.zero_le _, Nat.zero_le _⟩ rfl rfl ?_
    refine r_if_ne (tgt := 24) hK d_X12_day_19 (by decide) (fun h9 => ?_) (fun h9 => ?_)
    · have hD := if_f hD h9
      refine r_aload_n hK d_X12_day_24 rfl rfl ?_
      refine r_iload_n hK d_X12_day_25 rfl rfl ?_
      obtain ⟨u11, e10, hD⟩ := bd0_e hD
      refine r_callV (As := [.int x1]) (st := []) (stk2 := []) hK (C_X12_days  e10) d_X12_day_26 mf_X12_days ml_RX12_388 im_X12_days rfl se_11_RX12_X12_days kd_78 rfl (Nat.le_of_ble_eq_true rfl) (by decide) ⟨Nat.zero_le _, Nat.zero_le _⟩ rfl rfl ?_
      refine r_aload_n hK d_X12_day_29 rfl rfl ?_
      refine r_bipush hK d_X12_day_30 cb_78 ?_
      obtain ⟨v14, u13, e12, hD⟩ := bd_e hD
      refine r_callV (As := [.int (78 : Int32)]) (st := []) (stk2 := [.int v14]) hK (C_X12_now  e12) d_X12_day_32 mf_X12_now ml_RX12_337 im_X12_now rfl se_11_RX12_X12_now kd_78 rfl (Nat.le_of_ble_eq_true rfl) (by decide) ⟨Nat.zero_le _, Nat.zero_le _⟩ rfl rfl ?_
      cases hD
      exact r_iret hK d_X12_day_35
    · have hD := if_t hD h9
      refine r_iconst hK d_X12_day_22 ci_m1 ?_
      cases hD
      exact r_iret hK d_X12_day_23
end S_X12_day
theorem d_X12_isHold_0 : gd cX12_isHold 0 (.aload_n 0) 1 1 := ⟨by decide +kernel, rfl⟩
theorem d_X12_isHold_1 : gd cX12_isHold 1 (.bipush 80) 2 3 := ⟨by decide +kernel, rfl⟩
theorem d_X12_isHold_3 : gd cX12_isHold 3 (.invokevirtual 337) 3 6 := ⟨by decide +kernel, rfl⟩
theorem d_X12_isHold_6 : gd cX12_isHold 6 (.iconst 1) 1 7 := ⟨by decide +kernel, rfl⟩
theorem d_X12_isHold_7 : gd cX12_isHold 7 (.if_icmp .ne 23) 3 10 := ⟨by decide +kernel, rfl⟩
theorem d_X12_isHold_10 : gd cX12_isHold 10 (.iload_n 1) 1 11 := ⟨by decide +kernel, rfl⟩
theorem d_X12_isHold_11 : gd cX12_isHold 11 (.iconst 0) 1 12 := ⟨by decide +kernel, rfl⟩
theorem d_X12_isHold_12 : gd cX12_isHold 12 (.aload_n 0) 1 13 := ⟨by decide +kernel, rfl⟩
theorem d_X12_isHold_13 : gd cX12_isHold 13 (.bipush 76) 2 15 := ⟨by decide +kernel, rfl⟩
theorem d_X12_isHold_15 : gd cX12_isHold 15 (.invokevirtual 337) 3 18 := ⟨by decide +kernel, rfl⟩
theorem d_X12_isHold_18 : gd cX12_isHold 18 (.iconst 1) 1 19 := ⟨by decide +kernel, rfl⟩
theorem d_X12_isHold_19 : gd cX12_isHold 19 .isub 1 20 := ⟨by decide +kernel, rfl⟩
theorem d_X12_isHold_20 : gd cX12_isHold 20 (.invokestatic 217) 3 23 := ⟨by decide +kernel, rfl⟩
theorem d_X12_isHold_23 : gd cX12_isHold 23 (.ifCond .eq 7) 3 26 := ⟨by decide +kernel, rfl⟩
theorem d_X12_isHold_26 : gd cX12_isHold 26 (.iconst 1) 1 27 := ⟨by decide +kernel, rfl⟩
theorem d_X12_isHold_27 : gd cX12_isHold 27 (.goto 4) 3 30 := ⟨by decide +kernel, rfl⟩
theorem d_X12_isHold_30 : gd cX12_isHold 30 (.iconst 0) 1 31 := ⟨by decide +kernel, rfl⟩
theorem d_X12_isHold_31 : gd cX12_isHold 31 .ireturn 1 32 := ⟨by decide +kernel, rfl⟩
def B_X12_isHold_30   (μ : gs_M) : Option (Int32 × gs_M) :=
  some ((0 : Int32), μ)
def D_X12_isHold (x1 : Int32) (μ : gs_M) : Option (Int32 × gs_M) :=
  bd (D_X12_now (80 : Int32) μ) (fun v3 u2 => if v3 = (1 : Int32) then (bd (D_X12_now (76 : Int32) u2) (fun v7 u6 => bd (D_X12_isIn x1 (0 : Int32) (v7 - (1 : Int32)) u6) (fun v10 u9 => if v10 = 0 then (B_X12_isHold_30 u9) else (some ((1 : Int32), u9))))) else (B_X12_isHold_30 u2))
section S_X12_isHold
variable {p : Program} {l : Launch} {e : Env} {R : Room} {s : State} {m : MethodId} {args : Array Value} {below : List Frame} {meth : Method} {c : Code} {ad : Nat → Nat} {g : va_G} {tyc : Nat → ClassId}
set_option maxRecDepth 20000 in
theorem T_X12_isHold_30  (hK : KC p R s m args meth c ad g tyc RX12 cX12_isHold 2 (some .boolean) 1) {r : Int32} {μ2 : gs_M}    {μ : gs_M}  (hD : B_X12_isHold_30   μ = some (r, μ2)) : WJ p l e R s m args below meth c 0 0 (MQ below (gs_Q ad g tyc (some (.int r)) μ2) args s 0 0 (gs_A ad)) ad g tyc 2 30 [gs_J, gs_J] [] μ := by
  unfold B_X12_isHold_30 at hD
  refine r_iconst hK d_X12_isHold_30 ci_0 ?_
  cases hD
  exact r_zret hK (Or.inl rfl) d_X12_isHold_31
set_option maxRecDepth 20000 in
theorem C_X12_isHold  {x1 : Int32} {μ : gs_M} {r : Int32} {μ2 : gs_M}  (hD : D_X12_isHold x1 μ = some (r, μ2)) : CALL yX12_isHold cX12_isHold 2 (some .boolean) 1 [.ref 78, .int x1] μ (some (.int r)) μ2 := by
  unfold D_X12_isHold at hD
  refine gs_enter mf_X12_isHold (Nat.le_of_ble_eq_true rfl) (ls := [.ref 78, .int x1]) rfl (fun p l e R s m args below meth c ad g tyc hK => ?_)
  have hK : KC p R s m args meth c ad g tyc RX12 cX12_isHold 2 (some .boolean) 1 := hK
  refine r_aload_n hK d_X12_isHold_0 rfl rfl ?_
  refine r_bipush hK d_X12_isHold_1 cb_80 ?_
  obtain ⟨v3, u2, e1, hD⟩ := bd_e hD
  refine r_callV (As := [.int (80 : Int32)]) (st := []) (stk2 := [.int v3]) hK (C_X12_now  e1) d_X12_isHold_3 mf_X12_now ml_RX12_337 im_X12_now rfl se_11_RX12_X12_now kd_78 rfl (Nat.le_of_ble_eq_true rfl) (by decide) ⟨Nat.zero_le _, Nat.zero_le _⟩ rfl rfl ?_
  refine r_iconst hK d_X12_isHold_6 ci_1 ?_
  refine r_icmp_ne (tgt := 30) hK d_X12_isHold_7 (by decide) (fun h4 => ?_) (fun h4 => ?_)
  · have hD := if_f hD h4
    refine r_junk [false, false] (ls2 := [gs_J, gs_J]) rfl ?_
    exact T_X12_isHold_30 hK   hD
  · have hD := if_t hD h4
    refine r_iload_n hK d_X12_isHold_10 rfl rfl ?_
    refine r_iconst hK d_X12_isHold_11 ci_0 ?_
    refine r_aload_n hK d_X12_isHold_12 rfl rfl ?_
    refine r_bipush hK d_X12_isHold_13 cb_76 ?_
    obtain ⟨v7, u6, e5, hD⟩ := bd_e hD
    refine r_callV (As := [.int (76 : Int32)]) (st := [.int (0 : Int32), .int x1]) (stk2 := [.int v7, .int (0 : Int32), .int x1]) hK (C_X12_now  e5) d_X12_isHold_15 mf_X12_now ml_RX12_337 im_X12_now rfl se_11_RX12_X12_now kd_78 rfl (Nat.le_of_ble_eq_true rfl) (by decide) ⟨Nat.zero_le _, Nat.zero_le _⟩ rfl rfl ?_
    refine r_iconst hK d_X12_isHold_18 ci_1 ?_
    refine r_isub hK d_X12_isHold_19 ?_
    obtain ⟨v10, u9, e8, hD⟩ := bd_e hD
    refine r_callS (As := [.int x1, .int (0 : Int32), .int (v7 - (1 : Int32))]) (st := []) (stk2 := [.int v10]) hK (C_X12_isIn  e8) d_X12_isHold_20 mf_X12_isIn ml_RX12_217 ss_X12_isIn rfl (Nat.le_of_ble_eq_true rfl) (by decide) ⟨Nat.zero_le _, Nat.zero_le _⟩ rfl rfl ?_
    refine r_if_eq (tgt := 30) hK d_X12_isHold_23 (by decide) (fun h11 => ?_) (fun h11 => ?_)
    · have hD := if_t hD h11
      refine r_junk [false, false] (ls2 := [gs_J, gs_J]) rfl ?_
      exact T_X12_isHold_30 hK   hD
    · have hD := if_f hD h11
      refine r_iconst hK d_X12_isHold_26 ci_1 ?_
      refine r_goto (tgt := 31) hK d_X12_isHold_27 (by decide) ?_
      cases hD
      exact r_zret hK (Or.inr rfl) d_X12_isHold_31
end S_X12_isHold
theorem d_X12_column_0 : gd cX12_column 0 (.aload_n 0) 1 1 := ⟨by decide +kernel, rfl⟩
theorem d_X12_column_1 : gd cX12_column 1 (.iconst 0) 1 2 := ⟨by decide +kernel, rfl⟩
theorem d_X12_column_2 : gd cX12_column 2 (.putfield 98) 3 5 := ⟨by decide +kernel, rfl⟩
theorem d_X12_column_5 : gd cX12_column 5 (.aload_n 0) 1 6 := ⟨by decide +kernel, rfl⟩
theorem d_X12_column_6 : gd cX12_column 6 (.iload_n 1) 1 7 := ⟨by decide +kernel, rfl⟩
theorem d_X12_column_7 : gd cX12_column 7 (.invokevirtual 391) 3 10 := ⟨by decide +kernel, rfl⟩
theorem d_X12_column_10 : gd cX12_column 10 (.ifCond .eq 28) 3 13 := ⟨by decide +kernel, rfl⟩
theorem d_X12_column_13 : gd cX12_column 13 (.iload_n 2) 1 14 := ⟨by decide +kernel, rfl⟩
theorem d_X12_column_14 : gd cX12_column 14 (.iconst 0) 1 15 := ⟨by decide +kernel, rfl⟩
theorem d_X12_column_15 : gd cX12_column 15 (.aload_n 0) 1 16 := ⟨by decide +kernel, rfl⟩
theorem d_X12_column_16 : gd cX12_column 16 (.iload_n 1) 1 17 := ⟨by decide +kernel, rfl⟩
theorem d_X12_column_17 : gd cX12_column 17 (.iconst 0) 1 18 := ⟨by decide +kernel, rfl⟩
theorem d_X12_column_18 : gd cX12_column 18 (.invokevirtual 302) 3 21 := ⟨by decide +kernel, rfl⟩
theorem d_X12_column_21 : gd cX12_column 21 (.iconst 1) 1 22 := ⟨by decide +kernel, rfl⟩
theorem d_X12_column_22 : gd cX12_column 22 .isub 1 23 := ⟨by decide +kernel, rfl⟩
theorem d_X12_column_23 : gd cX12_column 23 (.invokestatic 217) 3 26 := ⟨by decide +kernel, rfl⟩
theorem d_X12_column_26 : gd cX12_column 26 (.ifCond .eq 12) 3 29 := ⟨by decide +kernel, rfl⟩
theorem d_X12_column_29 : gd cX12_column 29 (.iload_n 3) 1 30 := ⟨by decide +kernel, rfl⟩
theorem d_X12_column_30 : gd cX12_column 30 (.iconst 0) 1 31 := ⟨by decide +kernel, rfl⟩
theorem d_X12_column_31 : gd cX12_column 31 (.iconst 1) 1 32 := ⟨by decide +kernel, rfl⟩
theorem d_X12_column_32 : gd cX12_column 32 (.invokestatic 217) 3 35 := ⟨by decide +kernel, rfl⟩
theorem d_X12_column_35 : gd cX12_column 35 (.ifCond .ne 5) 3 38 := ⟨by decide +kernel, rfl⟩
theorem d_X12_column_38 : gd cX12_column 38 (.iconst (-1)) 1 39 := ⟨by decide +kernel, rfl⟩
theorem d_X12_column_39 : gd cX12_column 39 .ireturn 1 40 := ⟨by decide +kernel, rfl⟩
theorem d_X12_column_40 : gd cX12_column 40 (.iload_n 3) 1 41 := ⟨by decide +kernel, rfl⟩
theorem d_X12_column_41 : gd cX12_column 41 (.ifCond .ne 12) 3 44 := ⟨by decide +kernel, rfl⟩
theorem d_X12_column_44 : gd cX12_column 44 (.aload_n 0) 1 45 := ⟨by decide +kernel, rfl⟩
theorem d_X12_column_45 : gd cX12_column 45 (.iload_n 1) 1 46 := ⟨by decide +kernel, rfl⟩
theorem d_X12_column_46 : gd cX12_column 46 (.iload_n 2) 1 47 := ⟨by decide +kernel, rfl⟩
theorem d_X12_column_47 : gd cX12_column 47 (.invokevirtual 305) 3 50 := ⟨by decide +kernel, rfl⟩
theorem d_X12_column_50 : gd cX12_column 50 (.goto 9) 3 53 := ⟨by decide +kernel, rfl⟩
theorem d_X12_column_53 : gd cX12_column 53 (.aload_n 0) 1 54 := ⟨by decide +kernel, rfl⟩
theorem d_X12_column_54 : gd cX12_column 54 (.iload_n 1) 1 55 := ⟨by decide +kernel, rfl⟩
theorem d_X12_column_55 : gd cX12_column 55 (.iload_n 2) 1 56 := ⟨by decide +kernel, rfl⟩
theorem d_X12_column_56 : gd cX12_column 56 (.invokevirtual 328) 3 59 := ⟨by decide +kernel, rfl⟩
theorem d_X12_column_59 : gd cX12_column 59 .ireturn 1 60 := ⟨by decide +kernel, rfl⟩
def D_X12_column (x1 : Int32) (x2 : Int32) (x3 : Int32) (μ : gs_M) : Option (Int32 × gs_M) :=
  lt1 (sI μ 78 0 (0 : Int32)) (fun u1 => bd (D_X12_isHold x1 u1) (fun v4 u3 => if v4 = 0 then (some ((-1 : Int32), u3)) else (bd (D_X12_of x1 (0 : Int32) u3) (fun v8 u7 => bd (D_X12_isIn x2 (0 : Int32) (v8 - (1 : Int32)) u7) (fun v11 u10 => if v11 = 0 then (some ((-1 : Int32), u10)) else (bd (D_X12_isIn x3 (0 : Int32) (1 : Int32) u10) (fun v15 u14 => if v15 = 0 then (some ((-1 : Int32), u14)) else (if x3 = 0 then (bd (D_X12_units x1 x2 u14) (fun v23 u22 => some (v23, u22))) else (bd (D_X12_tall x1 x2 u14) (fun v20 u19 => some (v20, u19)))))))))))
section S_X12_column
variable {p : Program} {l : Launch} {e : Env} {R : Room} {s : State} {m : MethodId} {args : Array Value} {below : List Frame} {meth : Method} {c : Code} {ad : Nat → Nat} {g : va_G} {tyc : Nat → ClassId}
set_option maxRecDepth 20000 in
theorem C_X12_column  {x1 : Int32} {x2 : Int32} {x3 : Int32} {μ : gs_M} {r : Int32} {μ2 : gs_M}  (hD : D_X12_column x1 x2 x3 μ = some (r, μ2)) : CALL yX12_column cX12_column 4 (some .int) 3 [.ref 78, .int x1, .int x2, .int x3] μ (some (.int r)) μ2 := by
  unfold D_X12_column at hD
  refine gs_enter mf_X12_column (Nat.le_of_ble_eq_true rfl) (ls := [.ref 78, .int x1, .int x2, .int x3]) rfl (fun p l e R s m args below meth c ad g tyc hK => ?_)
  have hK : KC p R s m args meth c ad g tyc RX12 cX12_column 4 (some .int) 3 := hK
  refine r_aload_n hK d_X12_column_0 rfl rfl ?_
  refine r_iconst hK d_X12_column_1 ci_0 ?_
  refine r_putI hK d_X12_column_2 fl_RX12_98_11 rfl rfl kd_78 ?_
  refine r_ltm hD (fun u1 hD => ?_)
  refine r_aload_n hK d_X12_column_5 rfl rfl ?_
  refine r_iload_n hK d_X12_column_6 rfl rfl ?_
  obtain ⟨v4, u3, e2, hD⟩ := bd_e hD
  refine r_callV (As := [.int x1]) (st := []) (stk2 := [.int v4]) hK (C_X12_isHold  e2) d_X12_column_7 mf_X12_isHold ml_RX12_391 im_X12_isHold rfl se_11_RX12_X12_isHold kd_78 rfl (Nat.le_of_ble_eq_true rfl) (by decide) ⟨Nat.zero_le _, Nat.zero_le _⟩ rfl rfl ?_
  refine r_if_eq (tgt := 38) hK d_X12_column_10 (by decide) (fun h5 => ?_) (fun h5 => ?_)
  · have hD := if_t hD h5
    refine r_iconst hK d_X12_column_38 ci_m1 ?_
    cases hD
    exact r_iret hK d_X12_column_39
  · have hD := if_f hD h5
    refine r_iload_n hK d_X12_column_13 rfl rfl ?_
    refine r_iconst hK d_X12_column_14 ci_0 ?_
    refine r_aload_n hK d_X12_column_15 rfl rfl ?_
    refine r_iload_n hK d_X12_column_16 rfl rfl ?_
    refine r_iconst hK d_X12_column_17 ci_0 ?_
    obtain ⟨v8, u7, e6, hD⟩ := bd_e hD
    refine r_callV (As := [.int x1, .int (0 : Int32)]) (st := [.int (0 : Int32), .int x2]) (stk2 := [.int v8, .int (0 : Int32), .int x2]) hK (C_X12_of  e6) d_X12_column_18 mf_X12_of ml_RX12_302 im_X12_of rfl se_11_RX12_X12_of kd_78 rfl (Nat.le_of_ble_eq_true rfl) (by decide) ⟨Nat.zero_le _, Nat.zero_le _⟩ rfl rfl ?_
    refine r_iconst hK d_X12_column_21 ci_1 ?_
    refine r_isub hK d_X12_column_22 ?_
    obtain ⟨v11, u10, e9, hD⟩ := bd_e hD
    refine r_callS (As := [.int x2, .int (0 : Int32), .int (v8 - (1 : Int32))]) (st := []) (stk2 := [.int v11]) hK (C_X12_isIn  e9) d_X12_column_23 mf_X12_isIn ml_RX12_217 ss_X12_isIn rfl (Nat.le_of_ble_eq_true rfl) (by decide) ⟨Nat.zero_le _, Nat.zero_le _⟩ rfl rfl ?_
    refine r_if_eq (tgt := 38) hK d_X12_column_26 (by decide) (fun h12 => ?_) (fun h12 => ?_)
    · have hD := if_t hD h12
      refine r_iconst hK d_X12_column_38 ci_m1 ?_
      cases hD
      exact r_iret hK d_X12_column_39
    · have hD := if_f hD h12
      refine r_iload_n hK d_X12_column_29 rfl rfl ?_
      refine r_iconst hK d_X12_column_30 ci_0 ?_
      refine r_iconst hK d_X12_column_31 ci_1 ?_
      obtain ⟨v15, u14, e13, hD⟩ := bd_e hD
      refine r_callS (As := [.int x3, .int (0 : Int32), .int (1 : Int32)]) (st := []) (stk2 := [.int v15]) hK (C_X12_isIn  e13) d_X12_column_32 mf_X12_isIn ml_RX12_217 ss_X12_isIn rfl (Nat.le_of_ble_eq_true rfl) (by decide) ⟨Nat.zero_le _, Nat.zero_le _⟩ rfl rfl ?_
      refine r_if_ne (tgt := 40) hK d_X12_column_35 (by decide) (fun h16 => ?_) (fun h16 => ?_)
      · have hD := if_f hD h16
        refine r_iload_n hK d_X12_column_40 rfl rfl ?_
        refine r_if_ne (tgt := 53) hK d_X12_column_41 (by decide) (fun h17 => ?_) (fun h17 => ?_)
        · have hD := if_f hD h17
          refine r_aload_n hK d_X12_column_53 rfl rfl ?_
          refine r_iload_n hK d_X12_column_54 rfl rfl ?_
          refine r_iload_n hK d_X12_column_55 rfl rfl ?_
          obtain ⟨v20, u19, e18, hD⟩ := bd_e hD
          refine r_callV (As := [.int x1, .int x2]) (st := []) (stk2 := [.int v20]) hK (C_X12_tall  e18) d_X12_column_56 mf_X12_tall ml_RX12_328 im_X12_tall rfl se_11_RX12_X12_tall kd_78 rfl (Nat.le_of_ble_eq_true rfl) (by decide) ⟨Nat.zero_le _, Nat.zero_le _⟩ rfl rfl ?_
          cases hD
          exact r_iret hK d_X12_column_59
        · have hD := if_t hD h17
          refine r_aload_n hK d_X12_column_44 rfl rfl ?_
          refine r_iload_n hK d_X12_column_45 rfl rfl ?_
          refine r_iload_n hK d_X12_column_46 rfl rfl ?_
          obtain ⟨v23, u22, e21, hD⟩ := bd_e hD
          refine r_callV (As := [.int x1, .int x2]) (st := []) (stk2 := [.int v23]) hK (C_X12_units  e21) d_X12_column_47 mf_X12_units ml_RX12_305 im_X12_units rfl se_11_RX12_X12_units kd_78 rfl (Nat.le_of_ble_eq_true rfl) (by decide) ⟨Nat.zero_le _, Nat.zero_le _⟩ rfl rfl ?_
          refine r_goto (tgt := 59) hK d_X12_column_50 (by decide) ?_
          cases hD
          exact r_iret hK d_X12_column_59
      · have hD := if_t hD h16
        refine r_iconst hK d_X12_column_38 ci_m1 ?_
        cases hD
        exact r_iret hK d_X12_column_39
end S_X12_column
theorem d_X12_hold_0 : gd cX12_hold 0 (.aload_n 0) 1 1 := ⟨by decide +kernel, rfl⟩
theorem d_X12_hold_1 : gd cX12_hold 1 (.iconst 0) 1 2 := ⟨by decide +kernel, rfl⟩
theorem d_X12_hold_2 : gd cX12_hold 2 (.putfield 98) 3 5 := ⟨by decide +kernel, rfl⟩
theorem d_X12_hold_5 : gd cX12_hold 5 (.aload_n 0) 1 6 := ⟨by decide +kernel, rfl⟩
theorem d_X12_hold_6 : gd cX12_hold 6 (.iload_n 1) 1 7 := ⟨by decide +kernel, rfl⟩
theorem d_X12_hold_7 : gd cX12_hold 7 (.invokevirtual 391) 3 10 := ⟨by decide +kernel, rfl⟩
theorem d_X12_hold_10 : gd cX12_hold 10 (.ifCond .eq 13) 3 13 := ⟨by decide +kernel, rfl⟩
theorem d_X12_hold_13 : gd cX12_hold 13 (.iload_n 2) 1 14 := ⟨by decide +kernel, rfl⟩
theorem d_X12_hold_14 : gd cX12_hold 14 (.iconst 0) 1 15 := ⟨by decide +kernel, rfl⟩
theorem d_X12_hold_15 : gd cX12_hold 15 (.bipush 6) 2 17 := ⟨by decide +kernel, rfl⟩
theorem d_X12_hold_17 : gd cX12_hold 17 (.invokestatic 217) 3 20 := ⟨by decide +kernel, rfl⟩
theorem d_X12_hold_20 : gd cX12_hold 20 (.ifCond .ne 7) 3 23 := ⟨by decide +kernel, rfl⟩
theorem d_X12_hold_23 : gd cX12_hold 23 (.ldc_w 394) 3 26 := ⟨by decide +kernel, rfl⟩
theorem d_X12_hold_26 : gd cX12_hold 26 .ireturn 1 27 := ⟨by decide +kernel, rfl⟩
theorem d_X12_hold_27 : gd cX12_hold 27 (.iconst 0) 1 28 := ⟨by decide +kernel, rfl⟩
theorem d_X12_hold_28 : gd cX12_hold 28 (.istore_n 3) 1 29 := ⟨by decide +kernel, rfl⟩
theorem d_X12_hold_29 : gd cX12_hold 29 (.iconst 0) 1 30 := ⟨by decide +kernel, rfl⟩
theorem d_X12_hold_30 : gd cX12_hold 30 (.istore 4) 2 32 := ⟨by decide +kernel, rfl⟩
theorem d_X12_hold_32 : gd cX12_hold 32 (.iconst 0) 1 33 := ⟨by decide +kernel, rfl⟩
theorem d_X12_hold_33 : gd cX12_hold 33 (.istore 5) 2 35 := ⟨by decide +kernel, rfl⟩
theorem d_X12_hold_35 : gd cX12_hold 35 (.iload 5) 2 37 := ⟨by decide +kernel, rfl⟩
theorem d_X12_hold_37 : gd cX12_hold 37 (.aload_n 0) 1 38 := ⟨by decide +kernel, rfl⟩
theorem d_X12_hold_38 : gd cX12_hold 38 (.iload_n 1) 1 39 := ⟨by decide +kernel, rfl⟩
theorem d_X12_hold_39 : gd cX12_hold 39 (.iconst 0) 1 40 := ⟨by decide +kernel, rfl⟩
theorem d_X12_hold_40 : gd cX12_hold 40 (.invokevirtual 302) 3 43 := ⟨by decide +kernel, rfl⟩
theorem d_X12_hold_43 : gd cX12_hold 43 (.if_icmp .ge 33) 3 46 := ⟨by decide +kernel, rfl⟩
theorem d_X12_hold_46 : gd cX12_hold 46 (.iload_n 3) 1 47 := ⟨by decide +kernel, rfl⟩
theorem d_X12_hold_47 : gd cX12_hold 47 (.aload_n 0) 1 48 := ⟨by decide +kernel, rfl⟩
theorem d_X12_hold_48 : gd cX12_hold 48 (.iload_n 1) 1 49 := ⟨by decide +kernel, rfl⟩
theorem d_X12_hold_49 : gd cX12_hold 49 (.iload 5) 2 51 := ⟨by decide +kernel, rfl⟩
theorem d_X12_hold_51 : gd cX12_hold 51 (.invokevirtual 305) 3 54 := ⟨by decide +kernel, rfl⟩
theorem d_X12_hold_54 : gd cX12_hold 54 .iadd 1 55 := ⟨by decide +kernel, rfl⟩
theorem d_X12_hold_55 : gd cX12_hold 55 (.istore_n 3) 1 56 := ⟨by decide +kernel, rfl⟩
theorem d_X12_hold_56 : gd cX12_hold 56 (.iload 4) 2 58 := ⟨by decide +kernel, rfl⟩
theorem d_X12_hold_58 : gd cX12_hold 58 (.aload_n 0) 1 59 := ⟨by decide +kernel, rfl⟩
theorem d_X12_hold_59 : gd cX12_hold 59 (.iload_n 1) 1 60 := ⟨by decide +kernel, rfl⟩
theorem d_X12_hold_60 : gd cX12_hold 60 (.iload 5) 2 62 := ⟨by decide +kernel, rfl⟩
theorem d_X12_hold_62 : gd cX12_hold 62 (.invokevirtual 328) 3 65 := ⟨by decide +kernel, rfl⟩
theorem d_X12_hold_65 : gd cX12_hold 65 (.invokestatic 316) 3 68 := ⟨by decide +kernel, rfl⟩
theorem d_X12_hold_68 : gd cX12_hold 68 (.istore 4) 2 70 := ⟨by decide +kernel, rfl⟩
theorem d_X12_hold_70 : gd cX12_hold 70 (.iinc 5 1) 3 73 := ⟨by decide +kernel, rfl⟩
theorem d_X12_hold_73 : gd cX12_hold 73 (.goto (-38)) 3 76 := ⟨by decide +kernel, rfl⟩
theorem d_X12_hold_76 : gd cX12_hold 76 (.iload_n 2) 1 77 := ⟨by decide +kernel, rfl⟩
theorem d_X12_hold_77 : gd cX12_hold 77 (.tableswitch 82 0 5 #[39, 41, 47, 54, 62, 76]) 39 116 := ⟨by decide +kernel, rfl⟩
theorem d_X12_hold_116 : gd cX12_hold 116 (.iload_n 3) 1 117 := ⟨by decide +kernel, rfl⟩
theorem d_X12_hold_117 : gd cX12_hold 117 .ireturn 1 118 := ⟨by decide +kernel, rfl⟩
theorem d_X12_hold_118 : gd cX12_hold 118 (.aload_n 0) 1 119 := ⟨by decide +kernel, rfl⟩
theorem d_X12_hold_119 : gd cX12_hold 119 (.iload_n 1) 1 120 := ⟨by decide +kernel, rfl⟩
theorem d_X12_hold_120 : gd cX12_hold 120 (.invokevirtual 340) 3 123 := ⟨by decide +kernel, rfl⟩
theorem d_X12_hold_123 : gd cX12_hold 123 .ireturn 1 124 := ⟨by decide +kernel, rfl⟩
theorem d_X12_hold_124 : gd cX12_hold 124 (.aload_n 0) 1 125 := ⟨by decide +kernel, rfl⟩
theorem d_X12_hold_125 : gd cX12_hold 125 (.iload_n 1) 1 126 := ⟨by decide +kernel, rfl⟩
theorem d_X12_hold_126 : gd cX12_hold 126 (.iconst 5) 1 127 := ⟨by decide +kernel, rfl⟩
theorem d_X12_hold_127 : gd cX12_hold 127 (.invokevirtual 302) 3 130 := ⟨by decide +kernel, rfl⟩
theorem d_X12_hold_130 : gd cX12_hold 130 .ireturn 1 131 := ⟨by decide +kernel, rfl⟩
theorem d_X12_hold_131 : gd cX12_hold 131 (.aload_n 0) 1 132 := ⟨by decide +kernel, rfl⟩
theorem d_X12_hold_132 : gd cX12_hold 132 (.iload_n 1) 1 133 := ⟨by decide +kernel, rfl⟩
theorem d_X12_hold_133 : gd cX12_hold 133 (.bipush 6) 2 135 := ⟨by decide +kernel, rfl⟩
theorem d_X12_hold_135 : gd cX12_hold 135 (.invokevirtual 302) 3 138 := ⟨by decide +kernel, rfl⟩
theorem d_X12_hold_138 : gd cX12_hold 138 .ireturn 1 139 := ⟨by decide +kernel, rfl⟩
theorem d_X12_hold_139 : gd cX12_hold 139 (.aload_n 0) 1 140 := ⟨by decide +kernel, rfl⟩
theorem d_X12_hold_140 : gd cX12_hold 140 (.iload_n 1) 1 141 := ⟨by decide +kernel, rfl⟩
theorem d_X12_hold_141 : gd cX12_hold 141 (.invokevirtual 311) 3 144 := ⟨by decide +kernel, rfl⟩
theorem d_X12_hold_144 : gd cX12_hold 144 (.ifCond .eq 7) 3 147 := ⟨by decide +kernel, rfl⟩
theorem d_X12_hold_147 : gd cX12_hold 147 (.iconst 1) 1 148 := ⟨by decide +kernel, rfl⟩
theorem d_X12_hold_148 : gd cX12_hold 148 (.goto 4) 3 151 := ⟨by decide +kernel, rfl⟩
theorem d_X12_hold_151 : gd cX12_hold 151 (.iconst 0) 1 152 := ⟨by decide +kernel, rfl⟩
theorem d_X12_hold_152 : gd cX12_hold 152 .ireturn 1 153 := ⟨by decide +kernel, rfl⟩
theorem d_X12_hold_153 : gd cX12_hold 153 (.aload_n 0) 1 154 := ⟨by decide +kernel, rfl⟩
theorem d_X12_hold_154 : gd cX12_hold 154 (.iload_n 1) 1 155 := ⟨by decide +kernel, rfl⟩
theorem d_X12_hold_155 : gd cX12_hold 155 (.invokevirtual 331) 3 158 := ⟨by decide +kernel, rfl⟩
theorem d_X12_hold_158 : gd cX12_hold 158 .ireturn 1 159 := ⟨by decide +kernel, rfl⟩
theorem d_X12_hold_159 : gd cX12_hold 159 (.bipush 10) 2 161 := ⟨by decide +kernel, rfl⟩
theorem d_X12_hold_161 : gd cX12_hold 161 (.aload_n 0) 1 162 := ⟨by decide +kernel, rfl⟩
theorem d_X12_hold_162 : gd cX12_hold 162 (.iload_n 1) 1 163 := ⟨by decide +kernel, rfl⟩
theorem d_X12_hold_163 : gd cX12_hold 163 (.iconst 1) 1 164 := ⟨by decide +kernel, rfl⟩
theorem d_X12_hold_164 : gd cX12_hold 164 (.invokevirtual 302) 3 167 := ⟨by decide +kernel, rfl⟩
theorem d_X12_hold_167 : gd cX12_hold 167 .imul 1 168 := ⟨by decide +kernel, rfl⟩
theorem d_X12_hold_168 : gd cX12_hold 168 (.iload 4) 2 170 := ⟨by decide +kernel, rfl⟩
theorem d_X12_hold_170 : gd cX12_hold 170 .isub 1 171 := ⟨by decide +kernel, rfl⟩
theorem d_X12_hold_171 : gd cX12_hold 171 .ireturn 1 172 := ⟨by decide +kernel, rfl⟩
def Bo_X12_hold_35 (q35 : Int32 → Int32 → Int32 → Int32 → Int32 → gs_M → Option (Int32 × gs_M)) (x1 : Int32) (x2 : Int32) (x3 : Int32) (x4 : Int32) (x5 : Int32) (μ : gs_M) : Option (Int32 × gs_M) :=
  bd (D_X12_of x1 (0 : Int32) μ) (fun v3 u2 => if v3 ≤ x5 then (lt1 x2 (fun v5 => if v5 = (0 : Int32) then (some (x3, u2)) else (if v5 = (1 : Int32) then (bd (D_X12_momentOf x1 u2) (fun v10 u9 => some (v10, u9))) else (if v5 = (2 : Int32) then (bd (D_X12_of x1 (5 : Int32) u2) (fun v14 u13 => some (v14, u13))) else (if v5 = (3 : Int32) then (bd (D_X12_of x1 (6 : Int32) u2) (fun v18 u17 => some (v18, u17))) else (if v5 = (4 : Int32) then (bd (D_X12_isSoup x1 u2) (fun v22 u21 => if v22 = 0 then (some ((0 : Int32), u21)) else (some ((1 : Int32), u21)))) else (if v5 = (5 : Int32) then (bd (D_X12_fast x1 u2) (fun v27 u26 => some (v27, u26))) else (bd (D_X12_of x1 (1 : Int32) u2) (fun v30 u29 => some (((10 : Int32) * v30) - x4, u29)))))))))) else (bd (D_X12_units x1 x5 u2) (fun v33 u32 => lt1 (x3 + v33) (fun v34 => bd (D_X12_tall x1 x5 u32) (fun v37 u36 => lt1 (if x4 < v37 then v37 else x4) (fun v38 => q35 x1 x2 v34 v38 (x5 + (1 : Int32)) u36))))))
def L_X12_hold_35  : Nat → Int32 → Int32 → Int32 → Int32 → Int32 → gs_M → Option (Int32 × gs_M)
  | 0 => fun _ _ _ _ _ _ => none
  | n + 1 => fun x1 x2 x3 x4 x5 μ => Bo_X12_hold_35  (L_X12_hold_35  n) x1 x2 x3 x4 x5 μ
def D_X12_hold (x1 : Int32) (x2 : Int32) (μ : gs_M) : Option (Int32 × gs_M) :=
  lt1 (sI μ 78 0 (0 : Int32)) (fun u1 => bd (D_X12_isHold x1 u1) (fun v4 u3 => if v4 = 0 then (some ((-1000000 : Int32), u3)) else (bd (D_X12_isIn x2 (0 : Int32) (6 : Int32) u3) (fun v8 u7 => if v8 = 0 then (some ((-1000000 : Int32), u7)) else (L_X12_hold_35 4096 x1 x2 (0 : Int32) (0 : Int32) (0 : Int32) u7)))))
section S_X12_hold
variable {p : Program} {l : Launch} {e : Env} {R : Room} {s : State} {m : MethodId} {args : Array Value} {below : List Frame} {meth : Method} {c : Code} {ad : Nat → Nat} {g : va_G} {tyc : Nat → ClassId}
set_option maxRecDepth 20000 in
theorem To_X12_hold_35  (hK : KC p R s m args meth c ad g tyc RX12 cX12_hold 6 (some .int) 3) {r : Int32} {μ2 : gs_M} {q35 : Int32 → Int32 → Int32 → Int32 → Int32 → gs_M → Option (Int32 × gs_M)} (hq35 : ∀ (x1 : Int32) (x2 : Int32) (x3 : Int32) (x4 : Int32) (x5 : Int32) (μ : gs_M), q35 x1 x2 x3 x4 x5 μ = some (r, μ2) → WJ p l e R s m args below meth c 0 0 (MQ below (gs_Q ad g tyc (some (.int r)) μ2) args s 0 0 (gs_A ad)) ad g tyc 6 35 [.ref 78, .int x1, .int x2, .int x3, .int x4, .int x5] [] μ) {x1 : Int32} {x2 : Int32} {x3 : Int32} {x4 : Int32} {x5 : Int32} {μ : gs_M}  (hD : Bo_X12_hold_35 q35 x1 x2 x3 x4 x5 μ = some (r, μ2)) : WJ p l e R s m args below meth c 0 0 (MQ below (gs_Q ad g tyc (some (.int r)) μ2) args s 0 0 (gs_A ad)) ad g tyc 6 35 [.ref 78, .int x1, .int x2, .int x3, .int x4, .int x5] [] μ := by
  unfold Bo_X12_hold_35 at hD
  refine r_iload hK d_X12_hold_35 rfl ?_
  refine r_aload_n hK d_X12_hold_37 rfl rfl ?_
  refine r_iload_n hK d_X12_hold_38 rfl rfl ?_
  refine r_iconst hK d_X12_hold_39 ci_0 ?_
  obtain ⟨v3, u2, e1, hD⟩ := bd_e hD
  refine r_callV (As := [.int x1, .int (0 : Int32)]) (st := [.int x5]) (stk2 := [.int v3, .int x5]) hK (C_X12_of  e1) d_X12_hold_40 mf_X12_of ml_RX12_302 im_X12_of rfl se_11_RX12_X12_of kd_78 rfl (Nat.le_of_ble_eq_true rfl) (by decide) ⟨Nat.zero_le _, Nat.zero_le _⟩ rfl rfl ?_
  refine r_icmp_ge (tgt := 76) hK d_X12_hold_43 (by decide) (fun h4 => ?_) (fun h4 => ?_)
  · have hD := if_t hD h4
    refine r_iload_n hK d_X12_hold_76 rfl rfl ?_
    refine r_lti hD (fun v5 hD => ?_)
    by_cases h6 : v5 = (0 : Int32)
    · subst h6
      have hD := if_t hD rfl
      refine r_tableIn (off := 39) (tgt := 116) hK d_X12_hold_77 (by decide) (by decide) (by decide) (by decide) ?_
      refine r_iload_n hK d_X12_hold_116 rfl rfl ?_
      cases hD
      exact r_iret hK d_X12_hold_117
    have hD := if_f hD h6
    by_cases h7 : v5 = (1 : Int32)
    · subst h7
      have hD := if_t hD rfl
      refine r_tableIn (off := 41) (tgt := 118) hK d_X12_hold_77 (by decide) (by decide) (by decide) (by decide) ?_
      refine r_aload_n hK d_X12_hold_118 rfl rfl ?_
      refine r_iload_n hK d_X12_hold_119 rfl rfl ?_
      obtain ⟨v10, u9, e8, hD⟩ := bd_e hD
      refine r_callV (As := [.int x1]) (st := []) (stk2 := [.int v10]) hK (C_X12_momentOf  e8) d_X12_hold_120 mf_X12_momentOf ml_RX12_340 im_X12_momentOf rfl se_11_RX12_X12_momentOf kd_78 rfl (Nat.le_of_ble_eq_true rfl) (by decide) ⟨Nat.zero_le _, Nat.zero_le _⟩ rfl rfl ?_
      cases hD
      exact r_iret hK d_X12_hold_123
    have hD := if_f hD h7
    by_cases h11 : v5 = (2 : Int32)
    · subst h11
      have hD := if_t hD rfl
      refine r_tableIn (off := 47) (tgt := 124) hK d_X12_hold_77 (by decide) (by decide) (by decide) (by decide) ?_
      refine r_aload_n hK d_X12_hold_124 rfl rfl ?_
      refine r_iload_n hK d_X12_hold_125 rfl rfl ?_
      refine r_iconst hK d_X12_hold_126 ci_5 ?_
      obtain ⟨v14, u13, e12, hD⟩ := bd_e hD
      refine r_callV (As := [.int x1, .int (5 : Int32)]) (st := []) (stk2 := [.int v14]) hK (C_X12_of  e12) d_X12_hold_127 mf_X12_of ml_RX12_302 im_X12_of rfl se_11_RX12_X12_of kd_78 rfl (Nat.le_of_ble_eq_true rfl) (by decide) ⟨Nat.zero_le _, Nat.zero_le _⟩ rfl rfl ?_
      cases hD
      exact r_iret hK d_X12_hold_130
    have hD := if_f hD h11
    by_cases h15 : v5 = (3 : Int32)
    · subst h15
      have hD := if_t hD rfl
      refine r_tableIn (off := 54) (tgt := 131) hK d_X12_hold_77 (by decide) (by decide) (by decide) (by decide) ?_
      refine r_aload_n hK d_X12_hold_131 rfl rfl ?_
      refine r_iload_n hK d_X12_hold_132 rfl rfl ?_
      refine r_bipush hK d_X12_hold_133 cb_6 ?_
      obtain ⟨v18, u17, e16, hD⟩ := bd_e hD
      refine r_callV (As := [.int x1, .int (6 : Int32)]) (st := []) (stk2 := [.int v18]) hK (C_X12_of  e16) d_X12_hold_135 mf_X12_of ml_RX12_302 im_X12_of rfl se_11_RX12_X12_of kd_78 rfl (Nat.le_of_ble_eq_true rfl) (by decide) ⟨Nat.zero_le _, Nat.zero_le _⟩ rfl rfl ?_
      cases hD
      exact r_iret hK d_X12_hold_138
    have hD := if_f hD h15
    by_cases h19 : v5 = (4 : Int32)
    · subst h19
      have hD := if_t hD rfl
      refine r_tableIn (off := 62) (tgt := 139) hK d_X12_hold_77 (by decide) (by decide) (by decide) (by decide) ?_
      refine r_aload_n hK d_X12_hold_139 rfl rfl ?_
      refine r_iload_n hK d_X12_hold_140 rfl rfl ?_
      obtain ⟨v22, u21, e20, hD⟩ := bd_e hD
      refine r_callV (As := [.int x1]) (st := []) (stk2 := [.int v22]) hK (C_X12_isSoup  e20) d_X12_hold_141 mf_X12_isSoup ml_RX12_311 im_X12_isSoup rfl se_11_RX12_X12_isSoup kd_78 rfl (Nat.le_of_ble_eq_true rfl) (by decide) ⟨Nat.zero_le _, Nat.zero_le _⟩ rfl rfl ?_
      refine r_if_eq (tgt := 151) hK d_X12_hold_144 (by decide) (fun h23 => ?_) (fun h23 => ?_)
      · have hD := if_t hD h23
        refine r_iconst hK d_X12_hold_151 ci_0 ?_
        cases hD
        exact r_iret hK d_X12_hold_152
      · have hD := if_f hD h23
        refine r_iconst hK d_X12_hold_147 ci_1 ?_
        refine r_goto (tgt := 152) hK d_X12_hold_148 (by decide) ?_
        cases hD
        exact r_iret hK d_X12_hold_152
    have hD := if_f hD h19
    by_cases h24 : v5 = (5 : Int32)
    · subst h24
      have hD := if_t hD rfl
      refine r_tableIn (off := 76) (tgt := 153) hK d_X12_hold_77 (by decide) (by decide) (by decide) (by decide) ?_
      refine r_aload_n hK d_X12_hold_153 rfl rfl ?_
      refine r_iload_n hK d_X12_hold_154 rfl rfl ?_
      obtain ⟨v27, u26, e25, hD⟩ := bd_e hD
      refine r_callV (As := [.int x1]) (st := []) (stk2 := [.int v27]) hK (C_X12_fast  e25) d_X12_hold_155 mf_X12_fast ml_RX12_331 im_X12_fast rfl se_11_RX12_X12_fast kd_78 rfl (Nat.le_of_ble_eq_true rfl) (by decide) ⟨Nat.zero_le _, Nat.zero_le _⟩ rfl rfl ?_
      cases hD
      exact r_iret hK d_X12_hold_158
    have hD := if_f hD h24
    refine r_tableOut (tgt := 159) hK d_X12_hold_77 (sw_out (fun k q1 q2 => by rcases (show k = 0 ∨ k = 1 ∨ k = 2 ∨ k = 3 ∨ k = 4 ∨ k = 5 by omega) with rfl | rfl | rfl | rfl | rfl | rfl <;> assumption)) (by decide) ?_
    refine r_bipush hK d_X12_hold_159 cb_10 ?_
    refine r_aload_n hK d_X12_hold_161 rfl rfl ?_
    refine r_iload_n hK d_X12_hold_162 rfl rfl ?_
    refine r_iconst hK d_X12_hold_163 ci_1 ?_
    obtain ⟨v30, u29, e28, hD⟩ := bd_e hD
    refine r_callV (As := [.int x1, .int (1 : Int32)]) (st := [.int (10 : Int32)]) (stk2 := [.int v30, .int (10 : Int32)]) hK (C_X12_of  e28) d_X12_hold_164 mf_X12_of ml_RX12_302 im_X12_of rfl se_11_RX12_X12_of kd_78 rfl (Nat.le_of_ble_eq_true rfl) (by decide) ⟨Nat.zero_le _, Nat.zero_le _⟩ rfl rfl ?_
    refine r_imul hK d_X12_hold_167 ?_
    refine r_iload hK d_X12_hold_168 rfl ?_
    refine r_isub hK d_X12_hold_170 ?_
    cases hD
    exact r_iret hK d_X12_hold_171
  · have hD := if_f hD h4
    refine r_iload_n hK d_X12_hold_46 rfl rfl ?_
    refine r_aload_n hK d_X12_hold_47 rfl rfl ?_
    refine r_iload_n hK d_X12_hold_48 rfl rfl ?_
    refine r_iload hK d_X12_hold_49 rfl ?_
    obtain ⟨v33, u32, e31, hD⟩ := bd_e hD
    refine r_callV (As := [.int x1, .int x5]) (st := [.int x3]) (stk2 := [.int v33, .int x3]) hK (C_X12_units  e31) d_X12_hold_51 mf_X12_units ml_RX12_305 im_X12_units rfl se_11_RX12_X12_units kd_78 rfl (Nat.le_of_ble_eq_true rfl) (by decide) ⟨Nat.zero_le _, Nat.zero_le _⟩ rfl rfl ?_
    refine r_iadd hK d_X12_hold_54 ?_
    refine r_lti hD (fun v34 hD => ?_)
    refine r_istore_n hK d_X12_hold_55 rfl (by decide) (ls2 := [.ref 78, .int x1, .int x2, .int v34, .int x4, .int x5]) rfl ?_
    refine r_iload hK d_X12_hold_56 rfl ?_
    refine r_aload_n hK d_X12_hold_58 rfl rfl ?_
    refine r_iload_n hK d_X12_hold_59 rfl rfl ?_
    refine r_iload hK d_X12_hold_60 rfl ?_
    obtain ⟨v37, u36, e35, hD⟩ := bd_e hD
    refine r_callV (As := [.int x1, .int x5]) (st := [.int x4]) (stk2 := [.int v37, .int x4]) hK (C_X12_tall  e35) d_X12_hold_62 mf_X12_tall ml_RX12_328 im_X12_tall rfl se_11_RX12_X12_tall kd_78 rfl (Nat.le_of_ble_eq_true rfl) (by decide) ⟨Nat.zero_le _, Nat.zero_le _⟩ rfl rfl ?_
    refine r_mmax hK d_X12_hold_65 mm_RX12_316 ms_max mi_0 mc_max (Nat.le_of_ble_eq_true rfl) (by decide) ⟨Nat.zero_le _, Nat.zero_le _⟩ ?_
    refine r_lti hD (fun v38 hD => ?_)
    refine r_istore hK d_X12_hold_68 (by decide) (ls2 := [.ref 78, .int x1, .int x2, .int v34, .int v38, .int x5]) rfl ?_
    refine r_iinc hK d_X12_hold_70 rfl (v := x5 + (1 : Int32)) (by rw [ci_1]) (by decide) (ls2 := [.ref 78, .int x1, .int x2, .int v34, .int v38, .int (x5 + (1 : Int32))]) rfl ?_
    refine r_goto (tgt := 35) hK d_X12_hold_73 (by decide) ?_
    exact hq35 _ _ _ _ _ _  hD
set_option maxRecDepth 20000 in
theorem TL_X12_hold_35  (hK : KC p R s m args meth c ad g tyc RX12 cX12_hold 6 (some .int) 3) {r : Int32} {μ2 : gs_M}   : ∀ (n : Nat) (x1 : Int32) (x2 : Int32) (x3 : Int32) (x4 : Int32) (x5 : Int32) (μ : gs_M), L_X12_hold_35  n x1 x2 x3 x4 x5 μ = some (r, μ2) → WJ p l e R s m args below meth c 0 0 (MQ below (gs_Q ad g tyc (some (.int r)) μ2) args s 0 0 (gs_A ad)) ad g tyc 6 35 [.ref 78, .int x1, .int x2, .int x3, .int x4, .int x5] [] μ := by
  intro n
  induction n with
  | zero => intro x1 x2 x3 x4 x5 μ  hD; cases hD
  | succ n ih => intro x1 x2 x3 x4 x5 μ  hD; exact To_X12_hold_35 hK  ih  hD
set_option maxRecDepth 20000 in
theorem C_X12_hold  {x1 : Int32} {x2 : Int32} {μ : gs_M} {r : Int32} {μ2 : gs_M}  (hD : D_X12_hold x1 x2 μ = some (r, μ2)) : CALL yX12_hold cX12_hold 6 (some .int) 3 [.ref 78, .int x1, .int x2] μ (some (.int r)) μ2 := by
  unfold D_X12_hold at hD
  refine gs_enter mf_X12_hold (Nat.le_of_ble_eq_true rfl) (ls := [.ref 78, .int x1, .int x2, gs_J, gs_J, gs_J]) rfl (fun p l e R s m args below meth c ad g tyc hK => ?_)
  have hK : KC p R s m args meth c ad g tyc RX12 cX12_hold 6 (some .int) 3 := hK
  refine r_aload_n hK d_X12_hold_0 rfl rfl ?_
  refine r_iconst hK d_X12_hold_1 ci_0 ?_
  refine r_putI hK d_X12_hold_2 fl_RX12_98_11 rfl rfl kd_78 ?_
  refine r_ltm hD (fun u1 hD => ?_)
  refine r_aload_n hK d_X12_hold_5 rfl rfl ?_
  refine r_iload_n hK d_X12_hold_6 rfl rfl ?_
  obtain ⟨v4, u3, e2, hD⟩ := bd_e hD
  refine r_callV (As := [.int x1]) (st := []) (stk2 := [.int v4]) hK (C_X12_isHold  e2) d_X12_hold_7 mf_X12_isHold ml_RX12_391 im_X12_isHold rfl se_11_RX12_X12_isHold kd_78 rfl (Nat.le_of_ble_eq_true rfl) (by decide) ⟨Nat.zero_le _, Nat.zero_le _⟩ rfl rfl ?_
  refine r_if_eq (tgt := 23) hK d_X12_hold_10 (by decide) (fun h5 => ?_) (fun h5 => ?_)
  · have hD := if_t hD h5
    refine r_ldcw hK d_X12_hold_23 kc_RX12_394 ?_
    cases hD
    exact r_iret hK d_X12_hold_26
  · have hD := if_f hD h5
    refine r_iload_n hK d_X12_hold_13 rfl rfl ?_
    refine r_iconst hK d_X12_hold_14 ci_0 ?_
    refine r_bipush hK d_X12_hold_15 cb_6 ?_
    obtain ⟨v8, u7, e6, hD⟩ := bd_e hD
    refine r_callS (As := [.int x2, .int (0 : Int32), .int (6 : Int32)]) (st := []) (stk2 := [.int v8]) hK (C_X12_isIn  e6) d_X12_hold_17 mf_X12_isIn ml_RX12_217 ss_X12_isIn rfl (Nat.le_of_ble_eq_true rfl) (by decide) ⟨Nat.zero_le _, Nat.zero_le _⟩ rfl rfl ?_
    refine r_if_ne (tgt := 27) hK d_X12_hold_20 (by decide) (fun h9 => ?_) (fun h9 => ?_)
    · have hD := if_f hD h9
      refine r_iconst hK d_X12_hold_27 ci_0 ?_
      refine r_istore_n hK d_X12_hold_28 rfl (by decide) (ls2 := [.ref 78, .int x1, .int x2, .int (0 : Int32), gs_J, gs_J]) rfl ?_
      refine r_iconst hK d_X12_hold_29 ci_0 ?_
      refine r_istore hK d_X12_hold_30 (by decide) (ls2 := [.ref 78, .int x1, .int x2, .int (0 : Int32), .int (0 : Int32), gs_J]) rfl ?_
      refine r_iconst hK d_X12_hold_32 ci_0 ?_
      refine r_istore hK d_X12_hold_33 (by decide) (ls2 := [.ref 78, .int x1, .int x2, .int (0 : Int32), .int (0 : Int32), .int (0 : Int32)]) rfl ?_
      exact TL_X12_hold_35 hK  _ _ _ _ _ _ _  hD
    · have hD := if_t hD h9
      refine r_ldcw hK d_X12_hold_23 kc_RX12_394 ?_
      cases hD
      exact r_iret hK d_X12_hold_26
end S_X12_hold
theorem d_X12_about_0 : gd cX12_about 0 (.aload_n 0) 1 1 := ⟨by decide +kernel, rfl⟩
theorem d_X12_about_1 : gd cX12_about 1 (.iconst 0) 1 2 := ⟨by decide +kernel, rfl⟩
theorem d_X12_about_2 : gd cX12_about 2 (.putfield 98) 3 5 := ⟨by decide +kernel, rfl⟩
theorem d_X12_about_5 : gd cX12_about 5 (.aload_n 0) 1 6 := ⟨by decide +kernel, rfl⟩
theorem d_X12_about_6 : gd cX12_about 6 (.bipush 80) 2 8 := ⟨by decide +kernel, rfl⟩
theorem d_X12_about_8 : gd cX12_about 8 (.invokevirtual 337) 3 11 := ⟨by decide +kernel, rfl⟩
theorem d_X12_about_11 : gd cX12_about 11 (.ifCond .ne 7) 3 14 := ⟨by decide +kernel, rfl⟩
theorem d_X12_about_14 : gd cX12_about 14 (.ldc_w 394) 3 17 := ⟨by decide +kernel, rfl⟩
theorem d_X12_about_17 : gd cX12_about 17 .ireturn 1 18 := ⟨by decide +kernel, rfl⟩
theorem d_X12_about_18 : gd cX12_about 18 (.iload_n 1) 1 19 := ⟨by decide +kernel, rfl⟩
theorem d_X12_about_19 : gd cX12_about 19 (.tableswitch 75 0 5 #[37, 42, 49, 56, 63, 70]) 37 56 := ⟨by decide +kernel, rfl⟩
theorem d_X12_about_56 : gd cX12_about 56 (.aload_n 0) 1 57 := ⟨by decide +kernel, rfl⟩
theorem d_X12_about_57 : gd cX12_about 57 (.invokevirtual 367) 3 60 := ⟨by decide +kernel, rfl⟩
theorem d_X12_about_60 : gd cX12_about 60 .ireturn 1 61 := ⟨by decide +kernel, rfl⟩
theorem d_X12_about_61 : gd cX12_about 61 (.aload_n 0) 1 62 := ⟨by decide +kernel, rfl⟩
theorem d_X12_about_62 : gd cX12_about 62 (.bipush 77) 2 64 := ⟨by decide +kernel, rfl⟩
theorem d_X12_about_64 : gd cX12_about 64 (.invokevirtual 337) 3 67 := ⟨by decide +kernel, rfl⟩
theorem d_X12_about_67 : gd cX12_about 67 .ireturn 1 68 := ⟨by decide +kernel, rfl⟩
theorem d_X12_about_68 : gd cX12_about 68 (.aload_n 0) 1 69 := ⟨by decide +kernel, rfl⟩
theorem d_X12_about_69 : gd cX12_about 69 (.bipush 78) 2 71 := ⟨by decide +kernel, rfl⟩
theorem d_X12_about_71 : gd cX12_about 71 (.invokevirtual 337) 3 74 := ⟨by decide +kernel, rfl⟩
theorem d_X12_about_74 : gd cX12_about 74 .ireturn 1 75 := ⟨by decide +kernel, rfl⟩
theorem d_X12_about_75 : gd cX12_about 75 (.aload_n 0) 1 76 := ⟨by decide +kernel, rfl⟩
theorem d_X12_about_76 : gd cX12_about 76 (.bipush 79) 2 78 := ⟨by decide +kernel, rfl⟩
theorem d_X12_about_78 : gd cX12_about 78 (.invokevirtual 337) 3 81 := ⟨by decide +kernel, rfl⟩
theorem d_X12_about_81 : gd cX12_about 81 .ireturn 1 82 := ⟨by decide +kernel, rfl⟩
theorem d_X12_about_82 : gd cX12_about 82 (.aload_n 0) 1 83 := ⟨by decide +kernel, rfl⟩
theorem d_X12_about_83 : gd cX12_about 83 (.bipush 76) 2 85 := ⟨by decide +kernel, rfl⟩
theorem d_X12_about_85 : gd cX12_about 85 (.invokevirtual 337) 3 88 := ⟨by decide +kernel, rfl⟩
theorem d_X12_about_88 : gd cX12_about 88 .ireturn 1 89 := ⟨by decide +kernel, rfl⟩
theorem d_X12_about_89 : gd cX12_about 89 (.aload_n 0) 1 90 := ⟨by decide +kernel, rfl⟩
theorem d_X12_about_90 : gd cX12_about 90 (.invokevirtual 343) 3 93 := ⟨by decide +kernel, rfl⟩
theorem d_X12_about_93 : gd cX12_about 93 .ireturn 1 94 := ⟨by decide +kernel, rfl⟩
theorem d_X12_about_94 : gd cX12_about 94 (.ldc_w 394) 3 97 := ⟨by decide +kernel, rfl⟩
theorem d_X12_about_97 : gd cX12_about 97 .ireturn 1 98 := ⟨by decide +kernel, rfl⟩
def D_X12_about (x1 : Int32) (μ : gs_M) : Option (Int32 × gs_M) :=
  lt1 (sI μ 78 0 (0 : Int32)) (fun u1 => bd (D_X12_now (80 : Int32) u1) (fun v4 u3 => if v4 = 0 then (some ((-1000000 : Int32), u3)) else (lt1 x1 (fun v6 => if v6 = (0 : Int32) then (bd (D_X12_lean u3) (fun v10 u9 => some (v10, u9))) else (if v6 = (1 : Int32) then (bd (D_X12_now (77 : Int32) u3) (fun v14 u13 => some (v14, u13))) else (if v6 = (2 : Int32) then (bd (D_X12_now (78 : Int32) u3) (fun v18 u17 => some (v18, u17))) else (if v6 = (3 : Int32) then (bd (D_X12_now (79 : Int32) u3) (fun v22 u21 => some (v22, u21))) else (if v6 = (4 : Int32) then (bd (D_X12_now (76 : Int32) u3) (fun v26 u25 => some (v26, u25))) else (if v6 = (5 : Int32) then (bd (D_X12_moments u3) (fun v30 u29 => some (v30, u29))) else (some ((-1000000 : Int32), u3)))))))))))
section S_X12_about
variable {p : Program} {l : Launch} {e : Env} {R : Room} {s : State} {m : MethodId} {args : Array Value} {below : List Frame} {meth : Method} {c : Code} {ad : Nat → Nat} {g : va_G} {tyc : Nat → ClassId}
set_option maxRecDepth 20000 in
theorem C_X12_about  {x1 : Int32} {μ : gs_M} {r : Int32} {μ2 : gs_M}  (hD : D_X12_about x1 μ = some (r, μ2)) : CALL yX12_about cX12_about 2 (some .int) 5 [.ref 78, .int x1] μ (some (.int r)) μ2 := by
  unfold D_X12_about at hD
  refine gs_enter mf_X12_about (Nat.le_of_ble_eq_true rfl) (ls := [.ref 78, .int x1]) rfl (fun p l e R s m args below meth c ad g tyc hK => ?_)
  have hK : KC p R s m args meth c ad g tyc RX12 cX12_about 2 (some .int) 5 := hK
  refine r_aload_n hK d_X12_about_0 rfl rfl ?_
  refine r_iconst hK d_X12_about_1 ci_0 ?_
  refine r_putI hK d_X12_about_2 fl_RX12_98_11 rfl rfl kd_78 ?_
  refine r_ltm hD (fun u1 hD => ?_)
  refine r_aload_n hK d_X12_about_5 rfl rfl ?_
  refine r_bipush hK d_X12_about_6 cb_80 ?_
  obtain ⟨v4, u3, e2, hD⟩ := bd_e hD
  refine r_callV (As := [.int (80 : Int32)]) (st := []) (stk2 := [.int v4]) hK (C_X12_now  e2) d_X12_about_8 mf_X12_now ml_RX12_337 im_X12_now rfl se_11_RX12_X12_now kd_78 rfl (Nat.le_of_ble_eq_true rfl) (by decide) ⟨Nat.zero_le _, Nat.zero_le _⟩ rfl rfl ?_
  refine r_if_ne (tgt := 18) hK d_X12_about_11 (by decide) (fun h5 => ?_) (fun h5 => ?_)
  · have hD := if_f hD h5
    refine r_iload_n hK d_X12_about_18 rfl rfl ?_
    refine r_lti hD (fun v6 hD => ?_)
    by_cases h7 : v6 = (0 : Int32)
    · subst h7
      have hD := if_t hD rfl
      refine r_tableIn (off := 37) (tgt := 56) hK d_X12_about_19 (by decide) (by decide) (by decide) (by decide) ?_
      refine r_aload_n hK d_X12_about_56 rfl rfl ?_
      obtain ⟨v10, u9, e8, hD⟩ := bd_e hD
      refine r_callV (As := []) (st := []) (stk2 := [.int v10]) hK (C_X12_lean  e8) d_X12_about_57 mf_X12_lean ml_RX12_367 im_X12_lean rfl se_11_RX12_X12_lean kd_78 rfl (Nat.le_of_ble_eq_true rfl) (by decide) ⟨Nat.zero_le _, Nat.zero_le _⟩ rfl rfl ?_
      cases hD
      exact r_iret hK d_X12_about_60
    have hD := if_f hD h7
    by_cases h11 : v6 = (1 : Int32)
    · subst h11
      have hD := if_t hD rfl
      refine r_tableIn (off := 42) (tgt := 61) hK d_X12_about_19 (by decide) (by decide) (by decide) (by decide) ?_
      refine r_aload_n hK d_X12_about_61 rfl rfl ?_
      refine r_bipush hK d_X12_about_62 cb_77 ?_
      obtain ⟨v14, u13, e12, hD⟩ := bd_e hD
      refine r_callV (As := [.int (77 : Int32)]) (st := []) (stk2 := [.int v14]) hK (C_X12_now  e12) d_X12_about_64 mf_X12_now ml_RX12_337 im_X12_now rfl se_11_RX12_X12_now kd_78 rfl (Nat.le_of_ble_eq_true rfl) (by decide) ⟨Nat.zero_le _, Nat.zero_le _⟩ rfl rfl ?_
      cases hD
      exact r_iret hK d_X12_about_67
    have hD := if_f hD h11
    by_cases h15 : v6 = (2 : Int32)
    · subst h15
      have hD := if_t hD rfl
      refine r_tableIn (off := 49) (tgt := 68) hK d_X12_about_19 (by decide) (by decide) (by decide) (by decide) ?_
      refine r_aload_n hK d_X12_about_68 rfl rfl ?_
      refine r_bipush hK d_X12_about_69 cb_78 ?_
      obtain ⟨v18, u17, e16, hD⟩ := bd_e hD
      refine r_callV (As := [.int (78 : Int32)]) (st := []) (stk2 := [.int v18]) hK (C_X12_now  e16) d_X12_about_71 mf_X12_now ml_RX12_337 im_X12_now rfl se_11_RX12_X12_now kd_78 rfl (Nat.le_of_ble_eq_true rfl) (by decide) ⟨Nat.zero_le _, Nat.zero_le _⟩ rfl rfl ?_
      cases hD
      exact r_iret hK d_X12_about_74
    have hD := if_f hD h15
    by_cases h19 : v6 = (3 : Int32)
    · subst h19
      have hD := if_t hD rfl
      refine r_tableIn (off := 56) (tgt := 75) hK d_X12_about_19 (by decide) (by decide) (by decide) (by decide) ?_
      refine r_aload_n hK d_X12_about_75 rfl rfl ?_
      refine r_bipush hK d_X12_about_76 cb_79 ?_
      obtain ⟨v22, u21, e20, hD⟩ := bd_e hD
      refine r_callV (As := [.int (79 : Int32)]) (st := []) (stk2 := [.int v22]) hK (C_X12_now  e20) d_X12_about_78 mf_X12_now ml_RX12_337 im_X12_now rfl se_11_RX12_X12_now kd_78 rfl (Nat.le_of_ble_eq_true rfl) (by decide) ⟨Nat.zero_le _, Nat.zero_le _⟩ rfl rfl ?_
      cases hD
      exact r_iret hK d_X12_about_81
    have hD := if_f hD h19
    by_cases h23 : v6 = (4 : Int32)
    · subst h23
      have hD := if_t hD rfl
      refine r_tableIn (off := 63) (tgt := 82) hK d_X12_about_19 (by decide) (by decide) (by decide) (by decide) ?_
      refine r_aload_n hK d_X12_about_82 rfl rfl ?_
      refine r_bipush hK d_X12_about_83 cb_76 ?_
      obtain ⟨v26, u25, e24, hD⟩ := bd_e hD
      refine r_callV (As := [.int (76 : Int32)]) (st := []) (stk2 := [.int v26]) hK (C_X12_now  e24) d_X12_about_85 mf_X12_now ml_RX12_337 im_X12_now rfl se_11_RX12_X12_now kd_78 rfl (Nat.le_of_ble_eq_true rfl) (by decide) ⟨Nat.zero_le _, Nat.zero_le _⟩ rfl rfl ?_
      cases hD
      exact r_iret hK d_X12_about_88
    have hD := if_f hD h23
    by_cases h27 : v6 = (5 : Int32)
    · subst h27
      have hD := if_t hD rfl
      refine r_tableIn (off := 70) (tgt := 89) hK d_X12_about_19 (by decide) (by decide) (by decide) (by decide) ?_
      refine r_aload_n hK d_X12_about_89 rfl rfl ?_
      obtain ⟨v30, u29, e28, hD⟩ := bd_e hD
      refine r_callV (As := []) (st := []) (stk2 := [.int v30]) hK (C_X12_moments  e28) d_X12_about_90 mf_X12_moments ml_RX12_343 im_X12_moments rfl se_11_RX12_X12_moments kd_78 rfl (Nat.le_of_ble_eq_true rfl) (by decide) ⟨Nat.zero_le _, Nat.zero_le _⟩ rfl rfl ?_
      cases hD
      exact r_iret hK d_X12_about_93
    have hD := if_f hD h27
    refine r_tableOut (tgt := 94) hK d_X12_about_19 (sw_out (fun k q1 q2 => by rcases (show k = 0 ∨ k = 1 ∨ k = 2 ∨ k = 3 ∨ k = 4 ∨ k = 5 by omega) with rfl | rfl | rfl | rfl | rfl | rfl <;> assumption)) (by decide) ?_
    refine r_ldcw hK d_X12_about_94 kc_RX12_394 ?_
    cases hD
    exact r_iret hK d_X12_about_97
  · have hD := if_t hD h5
    refine r_ldcw hK d_X12_about_14 kc_RX12_394 ?_
    cases hD
    exact r_iret hK d_X12_about_17
end S_X12_about
theorem d_X12_keeps_0 : gd cX12_keeps 0 (.aload_n 0) 1 1 := ⟨by decide +kernel, rfl⟩
theorem d_X12_keeps_1 : gd cX12_keeps 1 (.getfield 71) 3 4 := ⟨by decide +kernel, rfl⟩
theorem d_X12_keeps_4 : gd cX12_keeps 4 (.aload_n 0) 1 5 := ⟨by decide +kernel, rfl⟩
theorem d_X12_keeps_5 : gd cX12_keeps 5 (.getfield 74) 3 8 := ⟨by decide +kernel, rfl⟩
theorem d_X12_keeps_8 : gd cX12_keeps 8 (.invokestatic 395) 3 11 := ⟨by decide +kernel, rfl⟩
theorem d_X12_keeps_11 : gd cX12_keeps 11 (.aload_n 0) 1 12 := ⟨by decide +kernel, rfl⟩
theorem d_X12_keeps_12 : gd cX12_keeps 12 (.aload_n 0) 1 13 := ⟨by decide +kernel, rfl⟩
theorem d_X12_keeps_13 : gd cX12_keeps 13 (.getfield 352) 3 16 := ⟨by decide +kernel, rfl⟩
theorem d_X12_keeps_16 : gd cX12_keeps 16 (.putfield 399) 3 19 := ⟨by decide +kernel, rfl⟩
theorem d_X12_keeps_19 : gd cX12_keeps 19 .return_ 1 20 := ⟨by decide +kernel, rfl⟩
def D_X12_keeps  (μ : gs_M) : Option (gs_M) :=
  bd0 (D_X12_copy 89 90 μ) (fun u2 => lt1 (sL u2 78 34 (gL u2 78 33)) (fun u3 => some u3))
section S_X12_keeps
variable {p : Program} {l : Launch} {e : Env} {R : Room} {s : State} {m : MethodId} {args : Array Value} {below : List Frame} {meth : Method} {c : Code} {ad : Nat → Nat} {g : va_G} {tyc : Nat → ClassId}
set_option maxRecDepth 20000 in
theorem C_X12_keeps   {μ : gs_M} {μ2 : gs_M}  (hD : D_X12_keeps  μ = some μ2) : CALL yX12_keeps cX12_keeps 1 none 1 [.ref 78] μ none μ2 := by
  unfold D_X12_keeps at hD
  refine gs_enter mf_X12_keeps (Nat.le_of_ble_eq_true rfl) (ls := [.ref 78]) rfl (fun p l e R s m args below meth c ad g tyc hK => ?_)
  have hK : KC p R s m args meth c ad g tyc RX12 cX12_keeps 1 none 1 := hK
  refine r_aload_n hK d_X12_keeps_0 rfl rfl ?_
  refine r_getR hK d_X12_keeps_1 fl_RX12_71_11 rfl kd_78 ?_
  refine r_ref (b := 89) R0_78_30 ?_
  refine r_aload_n hK d_X12_keeps_4 rfl rfl ?_
  refine r_getR hK d_X12_keeps_5 fl_RX12_74_11 rfl kd_78 ?_
  refine r_ref (b := 90) R0_78_31 ?_
  obtain ⟨u2, e1, hD⟩ := bd0_e hD
  refine r_callS (As := [.ref 89, .ref 90]) (st := []) (stk2 := []) hK (C_X12_copy kd_89 kd_90 e1) d_X12_keeps_8 mf_X12_copy ml_RX12_395 ss_X12_copy rfl (Nat.le_of_ble_eq_true rfl) (by decide) ⟨Nat.zero_le _, Nat.zero_le _⟩ rfl rfl ?_
  refine r_aload_n hK d_X12_keeps_11 rfl rfl ?_
  refine r_aload_n hK d_X12_keeps_12 rfl rfl ?_
  refine r_getL hK d_X12_keeps_13 fl_RX12_352_11 rfl kd_78 ?_
  refine r_putL hK d_X12_keeps_16 fl_RX12_399_11 rfl rfl kd_78 ?_
  refine r_ltm hD (fun u3 hD => ?_)
  cases hD
  exact r_vret hK d_X12_keeps_19
end S_X12_keeps
theorem d_X12_putBack_0 : gd cX12_putBack 0 (.aload_n 0) 1 1 := ⟨by decide +kernel, rfl⟩
theorem d_X12_putBack_1 : gd cX12_putBack 1 (.getfield 74) 3 4 := ⟨by decide +kernel, rfl⟩
theorem d_X12_putBack_4 : gd cX12_putBack 4 (.aload_n 0) 1 5 := ⟨by decide +kernel, rfl⟩
theorem d_X12_putBack_5 : gd cX12_putBack 5 (.getfield 71) 3 8 := ⟨by decide +kernel, rfl⟩
theorem d_X12_putBack_8 : gd cX12_putBack 8 (.invokestatic 395) 3 11 := ⟨by decide +kernel, rfl⟩
theorem d_X12_putBack_11 : gd cX12_putBack 11 (.aload_n 0) 1 12 := ⟨by decide +kernel, rfl⟩
theorem d_X12_putBack_12 : gd cX12_putBack 12 (.aload_n 0) 1 13 := ⟨by decide +kernel, rfl⟩
theorem d_X12_putBack_13 : gd cX12_putBack 13 (.getfield 399) 3 16 := ⟨by decide +kernel, rfl⟩
theorem d_X12_putBack_16 : gd cX12_putBack 16 (.putfield 352) 3 19 := ⟨by decide +kernel, rfl⟩
theorem d_X12_putBack_19 : gd cX12_putBack 19 .return_ 1 20 := ⟨by decide +kernel, rfl⟩
def D_X12_putBack  (μ : gs_M) : Option (gs_M) :=
  bd0 (D_X12_copy 90 89 μ) (fun u2 => lt1 (sL u2 78 33 (gL u2 78 34)) (fun u3 => some u3))
section S_X12_putBack
variable {p : Program} {l : Launch} {e : Env} {R : Room} {s : State} {m : MethodId} {args : Array Value} {below : List Frame} {meth : Method} {c : Code} {ad : Nat → Nat} {g : va_G} {tyc : Nat → ClassId}
set_option maxRecDepth 20000 in
theorem C_X12_putBack   {μ : gs_M} {μ2 : gs_M}  (hD : D_X12_putBack  μ = some μ2) : CALL yX12_putBack cX12_putBack 1 none 1 [.ref 78] μ none μ2 := by
  unfold D_X12_putBack at hD
  refine gs_enter mf_X12_putBack (Nat.le_of_ble_eq_true rfl) (ls := [.ref 78]) rfl (fun p l e R s m args below meth c ad g tyc hK => ?_)
  have hK : KC p R s m args meth c ad g tyc RX12 cX12_putBack 1 none 1 := hK
  refine r_aload_n hK d_X12_putBack_0 rfl rfl ?_
  refine r_getR hK d_X12_putBack_1 fl_RX12_74_11 rfl kd_78 ?_
  refine r_ref (b := 90) R0_78_31 ?_
  refine r_aload_n hK d_X12_putBack_4 rfl rfl ?_
  refine r_getR hK d_X12_putBack_5 fl_RX12_71_11 rfl kd_78 ?_
  refine r_ref (b := 89) R0_78_30 ?_
  obtain ⟨u2, e1, hD⟩ := bd0_e hD
  refine r_callS (As := [.ref 90, .ref 89]) (st := []) (stk2 := []) hK (C_X12_copy kd_90 kd_89 e1) d_X12_putBack_8 mf_X12_copy ml_RX12_395 ss_X12_copy rfl (Nat.le_of_ble_eq_true rfl) (by decide) ⟨Nat.zero_le _, Nat.zero_le _⟩ rfl rfl ?_
  refine r_aload_n hK d_X12_putBack_11 rfl rfl ?_
  refine r_aload_n hK d_X12_putBack_12 rfl rfl ?_
  refine r_getL hK d_X12_putBack_13 fl_RX12_399_11 rfl kd_78 ?_
  refine r_putL hK d_X12_putBack_16 fl_RX12_352_11 rfl rfl kd_78 ?_
  refine r_ltm hD (fun u3 hD => ?_)
  cases hD
  exact r_vret hK d_X12_putBack_19
end S_X12_putBack
theorem d_X12_goes_0 : gd cX12_goes 0 (.aload_n 0) 1 1 := ⟨by decide +kernel, rfl⟩
theorem d_X12_goes_1 : gd cX12_goes 1 (.iconst 0) 1 2 := ⟨by decide +kernel, rfl⟩
theorem d_X12_goes_2 : gd cX12_goes 2 (.putfield 98) 3 5 := ⟨by decide +kernel, rfl⟩
theorem d_X12_goes_5 : gd cX12_goes 5 (.aload_n 0) 1 6 := ⟨by decide +kernel, rfl⟩
theorem d_X12_goes_6 : gd cX12_goes 6 (.invokevirtual 373) 3 9 := ⟨by decide +kernel, rfl⟩
theorem d_X12_goes_9 : gd cX12_goes 9 (.ifCond .eq 22) 3 12 := ⟨by decide +kernel, rfl⟩
theorem d_X12_goes_12 : gd cX12_goes 12 (.iload_n 1) 1 13 := ⟨by decide +kernel, rfl⟩
theorem d_X12_goes_13 : gd cX12_goes 13 (.iconst 0) 1 14 := ⟨by decide +kernel, rfl⟩
theorem d_X12_goes_14 : gd cX12_goes 14 (.bipush 40) 2 16 := ⟨by decide +kernel, rfl⟩
theorem d_X12_goes_16 : gd cX12_goes 16 (.invokestatic 217) 3 19 := ⟨by decide +kernel, rfl⟩
theorem d_X12_goes_19 : gd cX12_goes 19 (.ifCond .eq 12) 3 22 := ⟨by decide +kernel, rfl⟩
theorem d_X12_goes_22 : gd cX12_goes 22 (.iload_n 2) 1 23 := ⟨by decide +kernel, rfl⟩
theorem d_X12_goes_23 : gd cX12_goes 23 (.iconst 0) 1 24 := ⟨by decide +kernel, rfl⟩
theorem d_X12_goes_24 : gd cX12_goes 24 (.iconst 2) 1 25 := ⟨by decide +kernel, rfl⟩
theorem d_X12_goes_25 : gd cX12_goes 25 (.invokestatic 217) 3 28 := ⟨by decide +kernel, rfl⟩
theorem d_X12_goes_28 : gd cX12_goes 28 (.ifCond .ne 7) 3 31 := ⟨by decide +kernel, rfl⟩
theorem d_X12_goes_31 : gd cX12_goes 31 (.ldc_w 394) 3 34 := ⟨by decide +kernel, rfl⟩
theorem d_X12_goes_34 : gd cX12_goes 34 .ireturn 1 35 := ⟨by decide +kernel, rfl⟩
theorem d_X12_goes_35 : gd cX12_goes 35 (.aload_n 0) 1 36 := ⟨by decide +kernel, rfl⟩
theorem d_X12_goes_36 : gd cX12_goes 36 (.invokevirtual 402) 3 39 := ⟨by decide +kernel, rfl⟩
theorem d_X12_goes_39 : gd cX12_goes 39 (.aload_n 0) 1 40 := ⟨by decide +kernel, rfl⟩
theorem d_X12_goes_40 : gd cX12_goes 40 (.iload_n 1) 1 41 := ⟨by decide +kernel, rfl⟩
theorem d_X12_goes_41 : gd cX12_goes 41 (.invokevirtual 376) 3 44 := ⟨by decide +kernel, rfl⟩
theorem d_X12_goes_44 : gd cX12_goes 44 (.iload_n 2) 1 45 := ⟨by decide +kernel, rfl⟩
theorem d_X12_goes_45 : gd cX12_goes 45 (.ifCond .ne 10) 3 48 := ⟨by decide +kernel, rfl⟩
theorem d_X12_goes_48 : gd cX12_goes 48 (.aload_n 0) 1 49 := ⟨by decide +kernel, rfl⟩
theorem d_X12_goes_49 : gd cX12_goes 49 (.getfield 322) 3 52 := ⟨by decide +kernel, rfl⟩
theorem d_X12_goes_52 : gd cX12_goes 52 (.goto 19) 3 55 := ⟨by decide +kernel, rfl⟩
theorem d_X12_goes_55 : gd cX12_goes 55 (.iload_n 2) 1 56 := ⟨by decide +kernel, rfl⟩
theorem d_X12_goes_56 : gd cX12_goes 56 (.iconst 1) 1 57 := ⟨by decide +kernel, rfl⟩
theorem d_X12_goes_57 : gd cX12_goes 57 (.if_icmp .ne 10) 3 60 := ⟨by decide +kernel, rfl⟩
theorem d_X12_goes_60 : gd cX12_goes 60 (.aload_n 0) 1 61 := ⟨by decide +kernel, rfl⟩
theorem d_X12_goes_61 : gd cX12_goes 61 (.getfield 325) 3 64 := ⟨by decide +kernel, rfl⟩
theorem d_X12_goes_64 : gd cX12_goes 64 (.goto 7) 3 67 := ⟨by decide +kernel, rfl⟩
theorem d_X12_goes_67 : gd cX12_goes 67 (.aload_n 0) 1 68 := ⟨by decide +kernel, rfl⟩
theorem d_X12_goes_68 : gd cX12_goes 68 (.invokevirtual 367) 3 71 := ⟨by decide +kernel, rfl⟩
theorem d_X12_goes_71 : gd cX12_goes 71 (.istore_n 3) 1 72 := ⟨by decide +kernel, rfl⟩
theorem d_X12_goes_72 : gd cX12_goes 72 (.aload_n 0) 1 73 := ⟨by decide +kernel, rfl⟩
theorem d_X12_goes_73 : gd cX12_goes 73 (.invokevirtual 405) 3 76 := ⟨by decide +kernel, rfl⟩
theorem d_X12_goes_76 : gd cX12_goes 76 (.iload_n 3) 1 77 := ⟨by decide +kernel, rfl⟩
theorem d_X12_goes_77 : gd cX12_goes 77 .ireturn 1 78 := ⟨by decide +kernel, rfl⟩
def B_X12_goes_71  (xs0 : Int32) (μ : gs_M) : Option (Int32 × gs_M) :=
  bd0 (D_X12_putBack μ) (fun u2 => some (xs0, u2))
def D_X12_goes (x1 : Int32) (x2 : Int32) (μ : gs_M) : Option (Int32 × gs_M) :=
  lt1 (sI μ 78 0 (0 : Int32)) (fun u1 => bd (D_X12_isAfloat u1) (fun v4 u3 => if v4 = 0 then (some ((-1000000 : Int32), u3)) else (bd (D_X12_isIn x1 (0 : Int32) (40 : Int32) u3) (fun v8 u7 => if v8 = 0 then (some ((-1000000 : Int32), u7)) else (bd (D_X12_isIn x2 (0 : Int32) (2 : Int32) u7) (fun v12 u11 => if v12 = 0 then (some ((-1000000 : Int32), u11)) else (bd0 (D_X12_keeps u11) (fun u15 => bd0 (D_X12_rolls x1 u15) (fun u17 => if x2 = 0 then (B_X12_goes_71 (gI u17 78 37) u17) else (if x2 = (1 : Int32) then (B_X12_goes_71 (gI u17 78 38) u17) else (bd (D_X12_lean u17) (fun v22 u21 => B_X12_goes_71 v22 u21))))))))))))
section S_X12_goes
variable {p : Program} {l : Launch} {e : Env} {R : Room} {s : State} {m : MethodId} {args : Array Value} {below : List Frame} {meth : Method} {c : Code} {ad : Nat → Nat} {g : va_G} {tyc : Nat → ClassId}
set_option maxRecDepth 20000 in
theorem T_X12_goes_71  (hK : KC p R s m args meth c ad g tyc RX12 cX12_goes 4 (some .int) 6) {r : Int32} {μ2 : gs_M}   {xs0 : Int32} {μ : gs_M}  (hD : B_X12_goes_71  xs0 μ = some (r, μ2)) : WJ p l e R s m args below meth c 0 0 (MQ below (gs_Q ad g tyc (some (.int r)) μ2) args s 0 0 (gs_A ad)) ad g tyc 4 71 [.ref 78, gs_J, gs_J, gs_J] [.int xs0] μ := by
  unfold B_X12_goes_71 at hD
  refine r_istore_n hK d_X12_goes_71 rfl (by decide) (ls2 := [.ref 78, gs_J, gs_J, .int xs0]) rfl ?_
  refine r_aload_n hK d_X12_goes_72 rfl rfl ?_
  obtain ⟨u2, e1, hD⟩ := bd0_e hD
  refine r_callV (As := []) (st := []) (stk2 := []) hK (C_X12_putBack  e1) d_X12_goes_73 mf_X12_putBack ml_RX12_405 im_X12_putBack rfl se_11_RX12_X12_putBack kd_78 rfl (Nat.le_of_ble_eq_true rfl) (by decide) ⟨Nat.zero_le _, Nat.zero_le _⟩ rfl rfl ?_
  refine r_iload_n hK d_X12_goes_76 rfl rfl ?_
  cases hD
  exact r_iret hK d_X12_goes_77
set_option maxRecDepth 20000 in
theorem C_X12_goes  {x1 : Int32} {x2 : Int32} {μ : gs_M} {r : Int32} {μ2 : gs_M}  (hD : D_X12_goes x1 x2 μ = some (r, μ2)) : CALL yX12_goes cX12_goes 4 (some .int) 6 [.ref 78, .int x1, .int x2] μ (some (.int r)) μ2 := by
  unfold D_X12_goes at hD
  refine gs_enter mf_X12_goes (Nat.le_of_ble_eq_true rfl) (ls := [.ref 78, .int x1, .int x2, gs_J]) rfl (fun p l e R s m args below meth c ad g tyc hK => ?_)
  have hK : KC p R s m args meth c ad g tyc RX12 cX12_goes 4 (some .int) 6 := hK
  refine r_aload_n hK d_X12_goes_0 rfl rfl ?_
  refine r_iconst hK d_X12_goes_1 ci_0 ?_
  refine r_putI hK d_X12_goes_2 fl_RX12_98_11 rfl rfl kd_78 ?_
  refine r_ltm hD (fun u1 hD => ?_)
  refine r_aload_n hK d_X12_goes_5 rfl rfl ?_
  obtain ⟨v4, u3, e2, hD⟩ := bd_e hD
  refine r_callV (As := []) (st := []) (stk2 := [.int v4]) hK (C_X12_isAfloat  e2) d_X12_goes_6 mf_X12_isAfloat ml_RX12_373 im_X12_isAfloat rfl se_11_RX12_X12_isAfloat kd_78 rfl (Nat.le_of_ble_eq_true rfl) (by decide) ⟨Nat.zero_le _, Nat.zero_le _⟩ rfl rfl ?_
  refine r_if_eq (tgt := 31) hK d_X12_goes_9 (by decide) (fun h5 => ?_) (fun h5 => ?_)
  · have hD := if_t hD h5
    refine r_ldcw hK d_X12_goes_31 kc_RX12_394 ?_
    cases hD
    exact r_iret hK d_X12_goes_34
  · have hD := if_f hD h5
    refine r_iload_n hK d_X12_goes_12 rfl rfl ?_
    refine r_iconst hK d_X12_goes_13 ci_0 ?_
    refine r_bipush hK d_X12_goes_14 cb_40 ?_
    obtain ⟨v8, u7, e6, hD⟩ := bd_e hD
    refine r_callS (As := [.int x1, .int (0 : Int32), .int (40 : Int32)]) (st := []) (stk2 := [.int v8]) hK (C_X12_isIn  e6) d_X12_goes_16 mf_X12_isIn ml_RX12_217 ss_X12_isIn rfl (Nat.le_of_ble_eq_true rfl) (by decide) ⟨Nat.zero_le _, Nat.zero_le _⟩ rfl rfl ?_
    refine r_if_eq (tgt := 31) hK d_X12_goes_19 (by decide) (fun h9 => ?_) (fun h9 => ?_)
    · have hD := if_t hD h9
      refine r_ldcw hK d_X12_goes_31 kc_RX12_394 ?_
      cases hD
      exact r_iret hK d_X12_goes_34
    · have hD := if_f hD h9
      refine r_iload_n hK d_X12_goes_22 rfl rfl ?_
      refine r_iconst hK d_X12_goes_23 ci_0 ?_
      refine r_iconst hK d_X12_goes_24 ci_2 ?_
      obtain ⟨v12, u11, e10, hD⟩ := bd_e hD
      refine r_callS (As := [.int x2, .int (0 : Int32), .int (2 : Int32)]) (st := []) (stk2 := [.int v12]) hK (C_X12_isIn  e10) d_X12_goes_25 mf_X12_isIn ml_RX12_217 ss_X12_isIn rfl (Nat.le_of_ble_eq_true rfl) (by decide) ⟨Nat.zero_le _, Nat.zero_le _⟩ rfl rfl ?_
      refine r_if_ne (tgt := 35) hK d_X12_goes_28 (by decide) (fun h13 => ?_) (fun h13 => ?_)
      · have hD := if_f hD h13
        refine r_aload_n hK d_X12_goes_35 rfl rfl ?_
        obtain ⟨u15, e14, hD⟩ := bd0_e hD
        refine r_callV (As := []) (st := []) (stk2 := []) hK (C_X12_keeps  e14) d_X12_goes_36 mf_X12_keeps ml_RX12_402 im_X12_keeps rfl se_11_RX12_X12_keeps kd_78 rfl (Nat.le_of_ble_eq_true rfl) (by decide) ⟨Nat.zero_le _, Nat.zero_le _⟩ rfl rfl ?_
        refine r_aload_n hK d_X12_goes_39 rfl rfl ?_
        refine r_iload_n hK d_X12_goes_40 rfl rfl ?_
        obtain ⟨u17, e16, hD⟩ := bd0_e hD
        refine r_callV (As := [.int x1]) (st := []) (stk2 := []) hK (C_X12_rolls  e16) d_X12_goes_41 mf_X12_rolls ml_RX12_376 im_X12_rolls rfl se_11_RX12_X12_rolls kd_78 rfl (Nat.le_of_ble_eq_true rfl) (by decide) ⟨Nat.zero_le _, Nat.zero_le _⟩ rfl rfl ?_
        refine r_iload_n hK d_X12_goes_44 rfl rfl ?_
        refine r_if_ne (tgt := 55) hK d_X12_goes_45 (by decide) (fun h18 => ?_) (fun h18 => ?_)
        · have hD := if_f hD h18
          refine r_iload_n hK d_X12_goes_55 rfl rfl ?_
          refine r_iconst hK d_X12_goes_56 ci_1 ?_
          refine r_icmp_ne (tgt := 67) hK d_X12_goes_57 (by decide) (fun h19 => ?_) (fun h19 => ?_)
          · have hD := if_f hD h19
            refine r_aload_n hK d_X12_goes_67 rfl rfl ?_
            obtain ⟨v22, u21, e20, hD⟩ := bd_e hD
            refine r_callV (As := []) (st := []) (stk2 := [.int v22]) hK (C_X12_lean  e20) d_X12_goes_68 mf_X12_lean ml_RX12_367 im_X12_lean rfl se_11_RX12_X12_lean kd_78 rfl (Nat.le_of_ble_eq_true rfl) (by decide) ⟨Nat.zero_le _, Nat.zero_le _⟩ rfl rfl ?_
            refine r_junk [true, false, false, false] (ls2 := [.ref 78, gs_J, gs_J, gs_J]) rfl ?_
            exact T_X12_goes_71 hK   hD
          · have hD := if_t hD h19
            refine r_aload_n hK d_X12_goes_60 rfl rfl ?_
            refine r_getI hK d_X12_goes_61 fl_RX12_325_11 rfl kd_78 ?_
            refine r_goto (tgt := 71) hK d_X12_goes_64 (by decide) ?_
            refine r_junk [true, false, false, false] (ls2 := [.ref 78, gs_J, gs_J, gs_J]) rfl ?_
            exact T_X12_goes_71 hK   hD
        · have hD := if_t hD h18
          refine r_aload_n hK d_X12_goes_48 rfl rfl ?_
          refine r_getI hK d_X12_goes_49 fl_RX12_322_11 rfl kd_78 ?_
          refine r_goto (tgt := 71) hK d_X12_goes_52 (by decide) ?_
          refine r_junk [true, false, false, false] (ls2 := [.ref 78, gs_J, gs_J, gs_J]) rfl ?_
          exact T_X12_goes_71 hK   hD
      · have hD := if_t hD h13
        refine r_ldcw hK d_X12_goes_31 kc_RX12_394 ?_
        cases hD
        exact r_iret hK d_X12_goes_34
end S_X12_goes
theorem d_X12_least_0 : gd cX12_least 0 (.aload_n 0) 1 1 := ⟨by decide +kernel, rfl⟩
theorem d_X12_least_1 : gd cX12_least 1 (.iconst 0) 1 2 := ⟨by decide +kernel, rfl⟩
theorem d_X12_least_2 : gd cX12_least 2 (.putfield 98) 3 5 := ⟨by decide +kernel, rfl⟩
theorem d_X12_least_5 : gd cX12_least 5 (.aload_n 0) 1 6 := ⟨by decide +kernel, rfl⟩
theorem d_X12_least_6 : gd cX12_least 6 (.invokevirtual 373) 3 9 := ⟨by decide +kernel, rfl⟩
theorem d_X12_least_9 : gd cX12_least 9 (.ifCond .ne 5) 3 12 := ⟨by decide +kernel, rfl⟩
theorem d_X12_least_12 : gd cX12_least 12 (.iconst (-1)) 1 13 := ⟨by decide +kernel, rfl⟩
theorem d_X12_least_13 : gd cX12_least 13 .ireturn 1 14 := ⟨by decide +kernel, rfl⟩
theorem d_X12_least_14 : gd cX12_least 14 (.iconst 0) 1 15 := ⟨by decide +kernel, rfl⟩
theorem d_X12_least_15 : gd cX12_least 15 (.istore_n 1) 1 16 := ⟨by decide +kernel, rfl⟩
theorem d_X12_least_16 : gd cX12_least 16 (.iload_n 1) 1 17 := ⟨by decide +kernel, rfl⟩
theorem d_X12_least_17 : gd cX12_least 17 (.bipush 40) 2 19 := ⟨by decide +kernel, rfl⟩
theorem d_X12_least_19 : gd cX12_least 19 (.if_icmp .gt 38) 3 22 := ⟨by decide +kernel, rfl⟩
theorem d_X12_least_22 : gd cX12_least 22 (.aload_n 0) 1 23 := ⟨by decide +kernel, rfl⟩
theorem d_X12_least_23 : gd cX12_least 23 (.invokevirtual 402) 3 26 := ⟨by decide +kernel, rfl⟩
theorem d_X12_least_26 : gd cX12_least 26 (.aload_n 0) 1 27 := ⟨by decide +kernel, rfl⟩
theorem d_X12_least_27 : gd cX12_least 27 (.iload_n 1) 1 28 := ⟨by decide +kernel, rfl⟩
theorem d_X12_least_28 : gd cX12_least 28 (.invokevirtual 376) 3 31 := ⟨by decide +kernel, rfl⟩
theorem d_X12_least_31 : gd cX12_least 31 (.aload_n 0) 1 32 := ⟨by decide +kernel, rfl⟩
theorem d_X12_least_32 : gd cX12_least 32 (.getfield 322) 3 35 := ⟨by decide +kernel, rfl⟩
theorem d_X12_least_35 : gd cX12_least 35 (.aload_n 0) 1 36 := ⟨by decide +kernel, rfl⟩
theorem d_X12_least_36 : gd cX12_least 36 (.getfield 325) 3 39 := ⟨by decide +kernel, rfl⟩
theorem d_X12_least_39 : gd cX12_least 39 .iadd 1 40 := ⟨by decide +kernel, rfl⟩
theorem d_X12_least_40 : gd cX12_least 40 (.istore_n 2) 1 41 := ⟨by decide +kernel, rfl⟩
theorem d_X12_least_41 : gd cX12_least 41 (.aload_n 0) 1 42 := ⟨by decide +kernel, rfl⟩
theorem d_X12_least_42 : gd cX12_least 42 (.invokevirtual 405) 3 45 := ⟨by decide +kernel, rfl⟩
theorem d_X12_least_45 : gd cX12_least 45 (.iload_n 2) 1 46 := ⟨by decide +kernel, rfl⟩
theorem d_X12_least_46 : gd cX12_least 46 (.ifCond .le 5) 3 49 := ⟨by decide +kernel, rfl⟩
theorem d_X12_least_49 : gd cX12_least 49 (.iload_n 1) 1 50 := ⟨by decide +kernel, rfl⟩
theorem d_X12_least_50 : gd cX12_least 50 .ireturn 1 51 := ⟨by decide +kernel, rfl⟩
theorem d_X12_least_51 : gd cX12_least 51 (.iinc 1 1) 3 54 := ⟨by decide +kernel, rfl⟩
theorem d_X12_least_54 : gd cX12_least 54 (.goto (-38)) 3 57 := ⟨by decide +kernel, rfl⟩
theorem d_X12_least_57 : gd cX12_least 57 (.iconst (-1)) 1 58 := ⟨by decide +kernel, rfl⟩
theorem d_X12_least_58 : gd cX12_least 58 .ireturn 1 59 := ⟨by decide +kernel, rfl⟩
def Bo_X12_least_16 (q16 : Int32 → gs_M → Option (Int32 × gs_M)) (x1 : Int32) (μ : gs_M) : Option (Int32 × gs_M) :=
  if (40 : Int32) < x1 then (some ((-1 : Int32), μ)) else (bd0 (D_X12_keeps μ) (fun u3 => bd0 (D_X12_rolls x1 u3) (fun u5 => lt1 ((gI u5 78 37) + (gI u5 78 38)) (fun v6 => bd0 (D_X12_putBack u5) (fun u8 => if v6 ≤ 0 then (q16 (x1 + (1 : Int32)) u8) else (some (x1, u8)))))))
def L_X12_least_16  : Nat → Int32 → gs_M → Option (Int32 × gs_M)
  | 0 => fun _ _ => none
  | n + 1 => fun x1 μ => Bo_X12_least_16  (L_X12_least_16  n) x1 μ
def D_X12_least  (μ : gs_M) : Option (Int32 × gs_M) :=
  lt1 (sI μ 78 0 (0 : Int32)) (fun u1 => bd (D_X12_isAfloat u1) (fun v4 u3 => if v4 = 0 then (some ((-1 : Int32), u3)) else (L_X12_least_16 4096 (0 : Int32) u3)))
section S_X12_least
variable {p : Program} {l : Launch} {e : Env} {R : Room} {s : State} {m : MethodId} {args : Array Value} {below : List Frame} {meth : Method} {c : Code} {ad : Nat → Nat} {g : va_G} {tyc : Nat → ClassId}
set_option maxRecDepth 20000 in
theorem To_X12_least_16  (hK : KC p R s m args meth c ad g tyc RX12 cX12_least 3 (some .int) 6) {r : Int32} {μ2 : gs_M} {q16 : Int32 → gs_M → Option (Int32 × gs_M)} (hq16 : ∀ (x1 : Int32) (μ : gs_M), q16 x1 μ = some (r, μ2) → WJ p l e R s m args below meth c 0 0 (MQ below (gs_Q ad g tyc (some (.int r)) μ2) args s 0 0 (gs_A ad)) ad g tyc 3 16 [.ref 78, .int x1, gs_J] [] μ) {x1 : Int32} {μ : gs_M}  (hD : Bo_X12_least_16 q16 x1 μ = some (r, μ2)) : WJ p l e R s m args below meth c 0 0 (MQ below (gs_Q ad g tyc (some (.int r)) μ2) args s 0 0 (gs_A ad)) ad g tyc 3 16 [.ref 78, .int x1, gs_J] [] μ := by
  unfold Bo_X12_least_16 at hD
  refine r_iload_n hK d_X12_least_16 rfl rfl ?_
  refine r_bipush hK d_X12_least_17 cb_40 ?_
  refine r_icmp_gt (tgt := 57) hK d_X12_least_19 (by decide) (fun h1 => ?_) (fun h1 => ?_)
  · have hD := if_t hD h1
    refine r_iconst hK d_X12_least_57 ci_m1 ?_
    cases hD
    exact r_iret hK d_X12_least_58
  · have hD := if_f hD h1
    refine r_aload_n hK d_X12_least_22 rfl rfl ?_
    obtain ⟨u3, e2, hD⟩ := bd0_e hD
    refine r_callV (As := []) (st := []) (stk2 := []) hK (C_X12_keeps  e2) d_X12_least_23 mf_X12_keeps ml_RX12_402 im_X12_keeps rfl se_11_RX12_X12_keeps kd_78 rfl (Nat.le_of_ble_eq_true rfl) (by decide) ⟨Nat.zero_le _, Nat.zero_le _⟩ rfl rfl ?_
    refine r_aload_n hK d_X12_least_26 rfl rfl ?_
    refine r_iload_n hK d_X12_least_27 rfl rfl ?_
    obtain ⟨u5, e4, hD⟩ := bd0_e hD
    refine r_callV (As := [.int x1]) (st := []) (stk2 := []) hK (C_X12_rolls  e4) d_X12_least_28 mf_X12_rolls ml_RX12_376 im_X12_rolls rfl se_11_RX12_X12_rolls kd_78 rfl (Nat.le_of_ble_eq_true rfl) (by decide) ⟨Nat.zero_le _, Nat.zero_le _⟩ rfl rfl ?_
    refine r_aload_n hK d_X12_least_31 rfl rfl ?_
    refine r_getI hK d_X12_least_32 fl_RX12_322_11 rfl kd_78 ?_
    refine r_aload_n hK d_X12_least_35 rfl rfl ?_
    refine r_getI hK d_X12_least_36 fl_RX12_325_11 rfl kd_78 ?_
    refine r_iadd hK d_X12_least_39 ?_
    refine r_lti hD (fun v6 hD => ?_)
    refine r_istore_n hK d_X12_least_40 rfl (by decide) (ls2 := [.ref 78, .int x1, .int v6]) rfl ?_
    refine r_aload_n hK d_X12_least_41 rfl rfl ?_
    obtain ⟨u8, e7, hD⟩ := bd0_e hD
    refine r_callV (As := []) (st := []) (stk2 := []) hK (C_X12_putBack  e7) d_X12_least_42 mf_X12_putBack ml_RX12_405 im_X12_putBack rfl se_11_RX12_X12_putBack kd_78 rfl (Nat.le_of_ble_eq_true rfl) (by decide) ⟨Nat.zero_le _, Nat.zero_le _⟩ rfl rfl ?_
    refine r_iload_n hK d_X12_least_45 rfl rfl ?_
    refine r_if_le (tgt := 51) hK d_X12_least_46 (by decide) (fun h9 => ?_) (fun h9 => ?_)
    · have hD := if_t hD h9
      refine r_iinc hK d_X12_least_51 rfl (v := x1 + (1 : Int32)) (by rw [ci_1]) (by decide) (ls2 := [.ref 78, .int (x1 + (1 : Int32)), .int v6]) rfl ?_
      refine r_goto (tgt := 16) hK d_X12_least_54 (by decide) ?_
      refine r_junk [true, true, false] (ls2 := [.ref 78, .int (x1 + (1 : Int32)), gs_J]) rfl ?_
      exact hq16 _ _  hD
    · have hD := if_f hD h9
      refine r_iload_n hK d_X12_least_49 rfl rfl ?_
      cases hD
      exact r_iret hK d_X12_least_50
set_option maxRecDepth 20000 in
theorem TL_X12_least_16  (hK : KC p R s m args meth c ad g tyc RX12 cX12_least 3 (some .int) 6) {r : Int32} {μ2 : gs_M}   : ∀ (n : Nat) (x1 : Int32) (μ : gs_M), L_X12_least_16  n x1 μ = some (r, μ2) → WJ p l e R s m args below meth c 0 0 (MQ below (gs_Q ad g tyc (some (.int r)) μ2) args s 0 0 (gs_A ad)) ad g tyc 3 16 [.ref 78, .int x1, gs_J] [] μ := by
  intro n
  induction n with
  | zero => intro x1 μ  hD; cases hD
  | succ n ih => intro x1 μ  hD; exact To_X12_least_16 hK  ih  hD
set_option maxRecDepth 20000 in
theorem C_X12_least   {μ : gs_M} {r : Int32} {μ2 : gs_M}  (hD : D_X12_least  μ = some (r, μ2)) : CALL yX12_least cX12_least 3 (some .int) 6 [.ref 78] μ (some (.int r)) μ2 := by
  unfold D_X12_least at hD
  refine gs_enter mf_X12_least (Nat.le_of_ble_eq_true rfl) (ls := [.ref 78, gs_J, gs_J]) rfl (fun p l e R s m args below meth c ad g tyc hK => ?_)
  have hK : KC p R s m args meth c ad g tyc RX12 cX12_least 3 (some .int) 6 := hK
  refine r_aload_n hK d_X12_least_0 rfl rfl ?_
  refine r_iconst hK d_X12_least_1 ci_0 ?_
  refine r_putI hK d_X12_least_2 fl_RX12_98_11 rfl rfl kd_78 ?_
  refine r_ltm hD (fun u1 hD => ?_)
  refine r_aload_n hK d_X12_least_5 rfl rfl ?_
  obtain ⟨v4, u3, e2, hD⟩ := bd_e hD
  refine r_callV (As := []) (st := []) (stk2 := [.int v4]) hK (C_X12_isAfloat  e2) d_X12_least_6 mf_X12_isAfloat ml_RX12_373 im_X12_isAfloat rfl se_11_RX12_X12_isAfloat kd_78 rfl (Nat.le_of_ble_eq_true rfl) (by decide) ⟨Nat.zero_le _, Nat.zero_le _⟩ rfl rfl ?_
  refine r_if_ne (tgt := 14) hK d_X12_least_9 (by decide) (fun h5 => ?_) (fun h5 => ?_)
  · have hD := if_f hD h5
    refine r_iconst hK d_X12_least_14 ci_0 ?_
    refine r_istore_n hK d_X12_least_15 rfl (by decide) (ls2 := [.ref 78, .int (0 : Int32), gs_J]) rfl ?_
    exact TL_X12_least_16 hK  _ _ _  hD
  · have hD := if_t hD h5
    refine r_iconst hK d_X12_least_12 ci_m1 ?_
    cases hD
    exact r_iret hK d_X12_least_13
end S_X12_least
theorem d_X12_runs_0 : gd cX12_runs 0 (.aload_n 0) 1 1 := ⟨by decide +kernel, rfl⟩
theorem d_X12_runs_1 : gd cX12_runs 1 (.iconst 0) 1 2 := ⟨by decide +kernel, rfl⟩
theorem d_X12_runs_2 : gd cX12_runs 2 (.putfield 98) 3 5 := ⟨by decide +kernel, rfl⟩
theorem d_X12_runs_5 : gd cX12_runs 5 (.aload_n 0) 1 6 := ⟨by decide +kernel, rfl⟩
theorem d_X12_runs_6 : gd cX12_runs 6 (.invokevirtual 373) 3 9 := ⟨by decide +kernel, rfl⟩
theorem d_X12_runs_9 : gd cX12_runs 9 (.ifCond .eq 22) 3 12 := ⟨by decide +kernel, rfl⟩
theorem d_X12_runs_12 : gd cX12_runs 12 (.iload_n 1) 1 13 := ⟨by decide +kernel, rfl⟩
theorem d_X12_runs_13 : gd cX12_runs 13 (.iconst 0) 1 14 := ⟨by decide +kernel, rfl⟩
theorem d_X12_runs_14 : gd cX12_runs 14 (.bipush 40) 2 16 := ⟨by decide +kernel, rfl⟩
theorem d_X12_runs_16 : gd cX12_runs 16 (.invokestatic 217) 3 19 := ⟨by decide +kernel, rfl⟩
theorem d_X12_runs_19 : gd cX12_runs 19 (.ifCond .eq 12) 3 22 := ⟨by decide +kernel, rfl⟩
theorem d_X12_runs_22 : gd cX12_runs 22 (.iload_n 2) 1 23 := ⟨by decide +kernel, rfl⟩
theorem d_X12_runs_23 : gd cX12_runs 23 (.iconst 0) 1 24 := ⟨by decide +kernel, rfl⟩
theorem d_X12_runs_24 : gd cX12_runs 24 (.iconst 2) 1 25 := ⟨by decide +kernel, rfl⟩
theorem d_X12_runs_25 : gd cX12_runs 25 (.invokestatic 217) 3 28 := ⟨by decide +kernel, rfl⟩
theorem d_X12_runs_28 : gd cX12_runs 28 (.ifCond .ne 7) 3 31 := ⟨by decide +kernel, rfl⟩
theorem d_X12_runs_31 : gd cX12_runs 31 (.ldc_w 394) 3 34 := ⟨by decide +kernel, rfl⟩
theorem d_X12_runs_34 : gd cX12_runs 34 .ireturn 1 35 := ⟨by decide +kernel, rfl⟩
theorem d_X12_runs_35 : gd cX12_runs 35 (.aload_n 0) 1 36 := ⟨by decide +kernel, rfl⟩
theorem d_X12_runs_36 : gd cX12_runs 36 (.invokevirtual 402) 3 39 := ⟨by decide +kernel, rfl⟩
theorem d_X12_runs_39 : gd cX12_runs 39 (.iconst 0) 1 40 := ⟨by decide +kernel, rfl⟩
theorem d_X12_runs_40 : gd cX12_runs 40 (.istore_n 3) 1 41 := ⟨by decide +kernel, rfl⟩
theorem d_X12_runs_41 : gd cX12_runs 41 (.iconst 1) 1 42 := ⟨by decide +kernel, rfl⟩
theorem d_X12_runs_42 : gd cX12_runs 42 (.istore 4) 2 44 := ⟨by decide +kernel, rfl⟩
theorem d_X12_runs_44 : gd cX12_runs 44 (.iload 4) 2 46 := ⟨by decide +kernel, rfl⟩
theorem d_X12_runs_46 : gd cX12_runs 46 (.ifCond .eq 48) 3 49 := ⟨by decide +kernel, rfl⟩
theorem d_X12_runs_49 : gd cX12_runs 49 (.iload_n 3) 1 50 := ⟨by decide +kernel, rfl⟩
theorem d_X12_runs_50 : gd cX12_runs 50 (.bipush 40) 2 52 := ⟨by decide +kernel, rfl⟩
theorem d_X12_runs_52 : gd cX12_runs 52 (.if_icmp .ge 42) 3 55 := ⟨by decide +kernel, rfl⟩
theorem d_X12_runs_55 : gd cX12_runs 55 (.aload_n 0) 1 56 := ⟨by decide +kernel, rfl⟩
theorem d_X12_runs_56 : gd cX12_runs 56 (.bipush 79) 2 58 := ⟨by decide +kernel, rfl⟩
theorem d_X12_runs_58 : gd cX12_runs 58 (.invokevirtual 337) 3 61 := ⟨by decide +kernel, rfl⟩
theorem d_X12_runs_61 : gd cX12_runs 61 (.ifCond .ne 33) 3 64 := ⟨by decide +kernel, rfl⟩
theorem d_X12_runs_64 : gd cX12_runs 64 (.aload_n 0) 1 65 := ⟨by decide +kernel, rfl⟩
theorem d_X12_runs_65 : gd cX12_runs 65 (.iload_n 1) 1 66 := ⟨by decide +kernel, rfl⟩
theorem d_X12_runs_66 : gd cX12_runs 66 (.invokevirtual 376) 3 69 := ⟨by decide +kernel, rfl⟩
theorem d_X12_runs_69 : gd cX12_runs 69 (.iinc 3 1) 3 72 := ⟨by decide +kernel, rfl⟩
theorem d_X12_runs_72 : gd cX12_runs 72 (.aload_n 0) 1 73 := ⟨by decide +kernel, rfl⟩
theorem d_X12_runs_73 : gd cX12_runs 73 (.getfield 322) 3 76 := ⟨by decide +kernel, rfl⟩
theorem d_X12_runs_76 : gd cX12_runs 76 (.aload_n 0) 1 77 := ⟨by decide +kernel, rfl⟩
theorem d_X12_runs_77 : gd cX12_runs 77 (.getfield 325) 3 80 := ⟨by decide +kernel, rfl⟩
theorem d_X12_runs_80 : gd cX12_runs 80 .iadd 1 81 := ⟨by decide +kernel, rfl⟩
theorem d_X12_runs_81 : gd cX12_runs 81 (.ifCond .le 7) 3 84 := ⟨by decide +kernel, rfl⟩
theorem d_X12_runs_84 : gd cX12_runs 84 (.iconst 1) 1 85 := ⟨by decide +kernel, rfl⟩
theorem d_X12_runs_85 : gd cX12_runs 85 (.goto 4) 3 88 := ⟨by decide +kernel, rfl⟩
theorem d_X12_runs_88 : gd cX12_runs 88 (.iconst 0) 1 89 := ⟨by decide +kernel, rfl⟩
theorem d_X12_runs_89 : gd cX12_runs 89 (.istore 4) 2 91 := ⟨by decide +kernel, rfl⟩
theorem d_X12_runs_91 : gd cX12_runs 91 (.goto (-47)) 3 94 := ⟨by decide +kernel, rfl⟩
theorem d_X12_runs_94 : gd cX12_runs 94 (.iload_n 2) 1 95 := ⟨by decide +kernel, rfl⟩
theorem d_X12_runs_95 : gd cX12_runs 95 (.ifCond .ne 12) 3 98 := ⟨by decide +kernel, rfl⟩
theorem d_X12_runs_98 : gd cX12_runs 98 (.aload_n 0) 1 99 := ⟨by decide +kernel, rfl⟩
theorem d_X12_runs_99 : gd cX12_runs 99 (.bipush 79) 2 101 := ⟨by decide +kernel, rfl⟩
theorem d_X12_runs_101 : gd cX12_runs 101 (.invokevirtual 337) 3 104 := ⟨by decide +kernel, rfl⟩
theorem d_X12_runs_104 : gd cX12_runs 104 (.goto 16) 3 107 := ⟨by decide +kernel, rfl⟩
theorem d_X12_runs_107 : gd cX12_runs 107 (.iload_n 2) 1 108 := ⟨by decide +kernel, rfl⟩
theorem d_X12_runs_108 : gd cX12_runs 108 (.iconst 1) 1 109 := ⟨by decide +kernel, rfl⟩
theorem d_X12_runs_109 : gd cX12_runs 109 (.if_icmp .ne 7) 3 112 := ⟨by decide +kernel, rfl⟩
theorem d_X12_runs_112 : gd cX12_runs 112 (.iload_n 3) 1 113 := ⟨by decide +kernel, rfl⟩
theorem d_X12_runs_113 : gd cX12_runs 113 (.goto 7) 3 116 := ⟨by decide +kernel, rfl⟩
theorem d_X12_runs_116 : gd cX12_runs 116 (.aload_n 0) 1 117 := ⟨by decide +kernel, rfl⟩
theorem d_X12_runs_117 : gd cX12_runs 117 (.invokevirtual 367) 3 120 := ⟨by decide +kernel, rfl⟩
theorem d_X12_runs_120 : gd cX12_runs 120 (.istore 5) 2 122 := ⟨by decide +kernel, rfl⟩
theorem d_X12_runs_122 : gd cX12_runs 122 (.aload_n 0) 1 123 := ⟨by decide +kernel, rfl⟩
theorem d_X12_runs_123 : gd cX12_runs 123 (.invokevirtual 405) 3 126 := ⟨by decide +kernel, rfl⟩
theorem d_X12_runs_126 : gd cX12_runs 126 (.iload 5) 2 128 := ⟨by decide +kernel, rfl⟩
theorem d_X12_runs_128 : gd cX12_runs 128 .ireturn 1 129 := ⟨by decide +kernel, rfl⟩
def B_X12_runs_120  (xs0 : Int32) (μ : gs_M) : Option (Int32 × gs_M) :=
  bd0 (D_X12_putBack μ) (fun u2 => some (xs0, u2))
def B_X12_runs_94  (x2 : Int32) (x3 : Int32) (μ : gs_M) : Option (Int32 × gs_M) :=
  if x2 = 0 then (bd (D_X12_now (79 : Int32) μ) (fun v8 u7 => B_X12_runs_120 v8 u7)) else (if x2 = (1 : Int32) then (B_X12_runs_120 x3 μ) else (bd (D_X12_lean μ) (fun v5 u4 => B_X12_runs_120 v5 u4)))
def Bo_X12_runs_44 (q44 : Int32 → Int32 → Int32 → Int32 → gs_M → Option (Int32 × gs_M)) (x1 : Int32) (x2 : Int32) (x3 : Int32) (x4 : Int32) (μ : gs_M) : Option (Int32 × gs_M) :=
  if x4 = 0 then (B_X12_runs_94 x2 x3 μ) else (if (40 : Int32) ≤ x3 then (B_X12_runs_94 x2 x3 μ) else (bd (D_X12_now (79 : Int32) μ) (fun v5 u4 => if v5 = 0 then (bd0 (D_X12_rolls x1 u4) (fun u8 => if ((gI u8 78 37) + (gI u8 78 38)) ≤ 0 then (q44 x1 x2 (x3 + (1 : Int32)) (0 : Int32) u8) else (q44 x1 x2 (x3 + (1 : Int32)) (1 : Int32) u8))) else (B_X12_runs_94 x2 x3 u4))))
def L_X12_runs_44  : Nat → Int32 → Int32 → Int32 → Int32 → gs_M → Option (Int32 × gs_M)
  | 0 => fun _ _ _ _ _ => none
  | n + 1 => fun x1 x2 x3 x4 μ => Bo_X12_runs_44  (L_X12_runs_44  n) x1 x2 x3 x4 μ
def D_X12_runs (x1 : Int32) (x2 : Int32) (μ : gs_M) : Option (Int32 × gs_M) :=
  lt1 (sI μ 78 0 (0 : Int32)) (fun u1 => bd (D_X12_isAfloat u1) (fun v4 u3 => if v4 = 0 then (some ((-1000000 : Int32), u3)) else (bd (D_X12_isIn x1 (0 : Int32) (40 : Int32) u3) (fun v8 u7 => if v8 = 0 then (some ((-1000000 : Int32), u7)) else (bd (D_X12_isIn x2 (0 : Int32) (2 : Int32) u7) (fun v12 u11 => if v12 = 0 then (some ((-1000000 : Int32), u11)) else (bd0 (D_X12_keeps u11) (fun u15 => L_X12_runs_44 4096 x1 x2 (0 : Int32) (1 : Int32) u15))))))))
section S_X12_runs
variable {p : Program} {l : Launch} {e : Env} {R : Room} {s : State} {m : MethodId} {args : Array Value} {below : List Frame} {meth : Method} {c : Code} {ad : Nat → Nat} {g : va_G} {tyc : Nat → ClassId}
set_option maxRecDepth 20000 in
theorem T_X12_runs_120  (hK : KC p R s m args meth c ad g tyc RX12 cX12_runs 6 (some .int) 6) {r : Int32} {μ2 : gs_M}   {xs0 : Int32} {μ : gs_M}  (hD : B_X12_runs_120  xs0 μ = some (r, μ2)) : WJ p l e R s m args below meth c 0 0 (MQ below (gs_Q ad g tyc (some (.int r)) μ2) args s 0 0 (gs_A ad)) ad g tyc 6 120 [.ref 78, gs_J, gs_J, gs_J, gs_J, gs_J] [.int xs0] μ := by
  unfold B_X12_runs_120 at hD
  refine r_istore hK d_X12_runs_120 (by decide) (ls2 := [.ref 78, gs_J, gs_J, gs_J, gs_J, .int xs0]) rfl ?_
  refine r_aload_n hK d_X12_runs_122 rfl rfl ?_
  obtain ⟨u2, e1, hD⟩ := bd0_e hD
  refine r_callV (As := []) (st := []) (stk2 := []) hK (C_X12_putBack  e1) d_X12_runs_123 mf_X12_putBack ml_RX12_405 im_X12_putBack rfl se_11_RX12_X12_putBack kd_78 rfl (Nat.le_of_ble_eq_true rfl) (by decide) ⟨Nat.zero_le _, Nat.zero_le _⟩ rfl rfl ?_
  refine r_iload hK d_X12_runs_126 rfl ?_
  cases hD
  exact r_iret hK d_X12_runs_128
set_option maxRecDepth 20000 in
theorem T_X12_runs_94  (hK : KC p R s m args meth c ad g tyc RX12 cX12_runs 6 (some .int) 6) {r : Int32} {μ2 : gs_M}   {x2 : Int32} {x3 : Int32} {μ : gs_M}  (hD : B_X12_runs_94  x2 x3 μ = some (r, μ2)) : WJ p l e R s m args below meth c 0 0 (MQ below (gs_Q ad g tyc (some (.int r)) μ2) args s 0 0 (gs_A ad)) ad g tyc 6 94 [.ref 78, gs_J, .int x2, .int x3, gs_J, gs_J] [] μ := by
  unfold B_X12_runs_94 at hD
  refine r_iload_n hK d_X12_runs_94 rfl rfl ?_
  refine r_if_ne (tgt := 107) hK d_X12_runs_95 (by decide) (fun h1 => ?_) (fun h1 => ?_)
  · have hD := if_f hD h1
    refine r_iload_n hK d_X12_runs_107 rfl rfl ?_
    refine r_iconst hK d_X12_runs_108 ci_1 ?_
    refine r_icmp_ne (tgt := 116) hK d_X12_runs_109 (by decide) (fun h2 => ?_) (fun h2 => ?_)
    · have hD := if_f hD h2
      refine r_aload_n hK d_X12_runs_116 rfl rfl ?_
      obtain ⟨v5, u4, e3, hD⟩ := bd_e hD
      refine r_callV (As := []) (st := []) (stk2 := [.int v5]) hK (C_X12_lean  e3) d_X12_runs_117 mf_X12_lean ml_RX12_367 im_X12_lean rfl se_11_RX12_X12_lean kd_78 rfl (Nat.le_of_ble_eq_true rfl) (by decide) ⟨Nat.zero_le _, Nat.zero_le _⟩ rfl rfl ?_
      refine r_junk [true, false, false, false, false, false] (ls2 := [.ref 78, gs_J, gs_J, gs_J, gs_J, gs_J]) rfl ?_
      exact T_X12_runs_120 hK   hD
    · have hD := if_t hD h2
      refine r_iload_n hK d_X12_runs_112 rfl rfl ?_
      refine r_goto (tgt := 120) hK d_X12_runs_113 (by decide) ?_
      refine r_junk [true, false, false, false, false, false] (ls2 := [.ref 78, gs_J, gs_J, gs_J, gs_J, gs_J]) rfl ?_
      exact T_X12_runs_120 hK   hD
  · have hD := if_t hD h1
    refine r_aload_n hK d_X12_runs_98 rfl rfl ?_
    refine r_bipush hK d_X12_runs_99 cb_79 ?_
    obtain ⟨v8, u7, e6, hD⟩ := bd_e hD
    refine r_callV (As := [.int (79 : Int32)]) (st := []) (stk2 := [.int v8]) hK (C_X12_now  e6) d_X12_runs_101 mf_X12_now ml_RX12_337 im_X12_now rfl se_11_RX12_X12_now kd_78 rfl (Nat.le_of_ble_eq_true rfl) (by decide) ⟨Nat.zero_le _, Nat.zero_le _⟩ rfl rfl ?_
    refine r_goto (tgt := 120) hK d_X12_runs_104 (by decide) ?_
    refine r_junk [true, false, false, false, false, false] (ls2 := [.ref 78, gs_J, gs_J, gs_J, gs_J, gs_J]) rfl ?_
    exact T_X12_runs_120 hK   hD
set_option maxRecDepth 20000 in
theorem To_X12_runs_44  (hK : KC p R s m args meth c ad g tyc RX12 cX12_runs 6 (some .int) 6) {r : Int32} {μ2 : gs_M} {q44 : Int32 → Int32 → Int32 → Int32 → gs_M → Option (Int32 × gs_M)} (hq44 : ∀ (x1 : Int32) (x2 : Int32) (x3 : Int32) (x4 : Int32) (μ : gs_M), q44 x1 x2 x3 x4 μ = some (r, μ2) → WJ p l e R s m args below meth c 0 0 (MQ below (gs_Q ad g tyc (some (.int r)) μ2) args s 0 0 (gs_A ad)) ad g tyc 6 44 [.ref 78, .int x1, .int x2, .int x3, .int x4, gs_J] [] μ) {x1 : Int32} {x2 : Int32} {x3 : Int32} {x4 : Int32} {μ : gs_M}  (hD : Bo_X12_runs_44 q44 x1 x2 x3 x4 μ = some (r, μ2)) : WJ p l e R s m args below meth c 0 0 (MQ below (gs_Q ad g tyc (some (.int r)) μ2) args s 0 0 (gs_A ad)) ad g tyc 6 44 [.ref 78, .int x1, .int x2, .int x3, .int x4, gs_J] [] μ := by
  unfold Bo_X12_runs_44 at hD
  refine r_iload hK d_X12_runs_44 rfl ?_
  refine r_if_eq (tgt := 94) hK d_X12_runs_46 (by decide) (fun h1 => ?_) (fun h1 => ?_)
  · have hD := if_t hD h1
    refine r_junk [true, false, true, true, false, false] (ls2 := [.ref 78, gs_J, .int x2, .int x3, gs_J, gs_J]) rfl ?_
    exact T_X12_runs_94 hK   hD
  · have hD := if_f hD h1
    refine r_iload_n hK d_X12_runs_49 rfl rfl ?_
    refine r_bipush hK d_X12_runs_50 cb_40 ?_
    refine r_icmp_ge (tgt := 94) hK d_X12_runs_52 (by decide) (fun h2 => ?_) (fun h2 => ?_)
    · have hD := if_t hD h2
      refine r_junk [true, false, true, true, false, false] (ls2 := [.ref 78, gs_J, .int x2, .int x3, gs_J, gs_J]) rfl ?_
      exact T_X12_runs_94 hK   hD
    · have hD := if_f hD h2
      refine r_aload_n hK d_X12_runs_55 rfl rfl ?_
      refine r_bipush hK d_X12_runs_56 cb_79 ?_
      obtain ⟨v5, u4, e3, hD⟩ := bd_e hD
      refine r_callV (As := [.int (79 : Int32)]) (st := []) (stk2 := [.int v5]) hK (C_X12_now  e3) d_X12_runs_58 mf_X12_now ml_RX12_337 im_X12_now rfl se_11_RX12_X12_now kd_78 rfl (Nat.le_of_ble_eq_true rfl) (by decide) ⟨Nat.zero_le _, Nat.zero_le _⟩ rfl rfl ?_
      refine r_if_ne (tgt := 94) hK d_X12_runs_61 (by decide) (fun h6 => ?_) (fun h6 => ?_)
      · have hD := if_f hD h6
        refine r_junk [true, false, true, true, false, false] (ls2 := [.ref 78, gs_J, .int x2, .int x3, gs_J, gs_J]) rfl ?_
        exact T_X12_runs_94 hK   hD
      · have hD := if_t hD h6
        refine r_aload_n hK d_X12_runs_64 rfl rfl ?_
        refine r_iload_n hK d_X12_runs_65 rfl rfl ?_
        obtain ⟨u8, e7, hD⟩ := bd0_e hD
        refine r_callV (As := [.int x1]) (st := []) (stk2 := []) hK (C_X12_rolls  e7) d_X12_runs_66 mf_X12_rolls ml_RX12_376 im_X12_rolls rfl se_11_RX12_X12_rolls kd_78 rfl (Nat.le_of_ble_eq_true rfl) (by decide) ⟨Nat.zero_le _, Nat.zero_le _⟩ rfl rfl ?_
        refine r_iinc hK d_X12_runs_69 rfl (v := x3 + (1 : Int32)) (by rw [ci_1]) (by decide) (ls2 := [.ref 78, .int x1, .int x2, .int (x3 + (1 : Int32)), .int x4, gs_J]) rfl ?_
        refine r_aload_n hK d_X12_runs_72 rfl rfl ?_
        refine r_getI hK d_X12_runs_73 fl_RX12_322_11 rfl kd_78 ?_
        refine r_aload_n hK d_X12_runs_76 rfl rfl ?_
        refine r_getI hK d_X12_runs_77 fl_RX12_325_11 rfl kd_78 ?_
        refine r_iadd hK d_X12_runs_80 ?_
        refine r_if_le (tgt := 88) hK d_X12_runs_81 (by decide) (fun h9 => ?_) (fun h9 => ?_)
        · have hD := if_t hD h9
          refine r_iconst hK d_X12_runs_88 ci_0 ?_
          refine r_istore hK d_X12_runs_89 (by decide) (ls2 := [.ref 78, .int x1, .int x2, .int (x3 + (1 : Int32)), .int (0 : Int32), gs_J]) rfl ?_
          refine r_goto (tgt := 44) hK d_X12_runs_91 (by decide) ?_
          exact hq44 _ _ _ _ _  hD
        · have hD := if_f hD h9
          refine r_iconst hK d_X12_runs_84 ci_1 ?_
          refine r_goto (tgt := 89) hK d_X12_runs_85 (by decide) ?_
          refine r_istore hK d_X12_runs_89 (by decide) (ls2 := [.ref 78, .int x1, .int x2, .int (x3 + (1 : Int32)), .int (1 : Int32), gs_J]) rfl ?_
          refine r_goto (tgt := 44) hK d_X12_runs_91 (by decide) ?_
          exact hq44 _ _ _ _ _  hD
set_option maxRecDepth 20000 in
theorem TL_X12_runs_44  (hK : KC p R s m args meth c ad g tyc RX12 cX12_runs 6 (some .int) 6) {r : Int32} {μ2 : gs_M}   : ∀ (n : Nat) (x1 : Int32) (x2 : Int32) (x3 : Int32) (x4 : Int32) (μ : gs_M), L_X12_runs_44  n x1 x2 x3 x4 μ = some (r, μ2) → WJ p l e R s m args below meth c 0 0 (MQ below (gs_Q ad g tyc (some (.int r)) μ2) args s 0 0 (gs_A ad)) ad g tyc 6 44 [.ref 78, .int x1, .int x2, .int x3, .int x4, gs_J] [] μ := by
  intro n
  induction n with
  | zero => intro x1 x2 x3 x4 μ  hD; cases hD
  | succ n ih => intro x1 x2 x3 x4 μ  hD; exact To_X12_runs_44 hK  ih  hD
set_option maxRecDepth 20000 in
theorem C_X12_runs  {x1 : Int32} {x2 : Int32} {μ : gs_M} {r : Int32} {μ2 : gs_M}  (hD : D_X12_runs x1 x2 μ = some (r, μ2)) : CALL yX12_runs cX12_runs 6 (some .int) 6 [.ref 78, .int x1, .int x2] μ (some (.int r)) μ2 := by
  unfold D_X12_runs at hD
  refine gs_enter mf_X12_runs (Nat.le_of_ble_eq_true rfl) (ls := [.ref 78, .int x1, .int x2, gs_J, gs_J, gs_J]) rfl (fun p l e R s m args below meth c ad g tyc hK => ?_)
  have hK : KC p R s m args meth c ad g tyc RX12 cX12_runs 6 (some .int) 6 := hK
  refine r_aload_n hK d_X12_runs_0 rfl rfl ?_
  refine r_iconst hK d_X12_runs_1 ci_0 ?_
  refine r_putI hK d_X12_runs_2 fl_RX12_98_11 rfl rfl kd_78 ?_
  refine r_ltm hD (fun u1 hD => ?_)
  refine r_aload_n hK d_X12_runs_5 rfl rfl ?_
  obtain ⟨v4, u3, e2, hD⟩ := bd_e hD
  refine r_callV (As := []) (st := []) (stk2 := [.int v4]) hK (C_X12_isAfloat  e2) d_X12_runs_6 mf_X12_isAfloat ml_RX12_373 im_X12_isAfloat rfl se_11_RX12_X12_isAfloat kd_78 rfl (Nat.le_of_ble_eq_true rfl) (by decide) ⟨Nat.zero_le _, Nat.zero_le _⟩ rfl rfl ?_
  refine r_if_eq (tgt := 31) hK d_X12_runs_9 (by decide) (fun h5 => ?_) (fun h5 => ?_)
  · have hD := if_t hD h5
    refine r_ldcw hK d_X12_runs_31 kc_RX12_394 ?_
    cases hD
    exact r_iret hK d_X12_runs_34
  · have hD := if_f hD h5
    refine r_iload_n hK d_X12_runs_12 rfl rfl ?_
    refine r_iconst hK d_X12_runs_13 ci_0 ?_
    refine r_bipush hK d_X12_runs_14 cb_40 ?_
    obtain ⟨v8, u7, e6, hD⟩ := bd_e hD
    refine r_callS (As := [.int x1, .int (0 : Int32), .int (40 : Int32)]) (st := []) (stk2 := [.int v8]) hK (C_X12_isIn  e6) d_X12_runs_16 mf_X12_isIn ml_RX12_217 ss_X12_isIn rfl (Nat.le_of_ble_eq_true rfl) (by decide) ⟨Nat.zero_le _, Nat.zero_le _⟩ rfl rfl ?_
    refine r_if_eq (tgt := 31) hK d_X12_runs_19 (by decide) (fun h9 => ?_) (fun h9 => ?_)
    · have hD := if_t hD h9
      refine r_ldcw hK d_X12_runs_31 kc_RX12_394 ?_
      cases hD
      exact r_iret hK d_X12_runs_34
    · have hD := if_f hD h9
      refine r_iload_n hK d_X12_runs_22 rfl rfl ?_
      refine r_iconst hK d_X12_runs_23 ci_0 ?_
      refine r_iconst hK d_X12_runs_24 ci_2 ?_
      obtain ⟨v12, u11, e10, hD⟩ := bd_e hD
      refine r_callS (As := [.int x2, .int (0 : Int32), .int (2 : Int32)]) (st := []) (stk2 := [.int v12]) hK (C_X12_isIn  e10) d_X12_runs_25 mf_X12_isIn ml_RX12_217 ss_X12_isIn rfl (Nat.le_of_ble_eq_true rfl) (by decide) ⟨Nat.zero_le _, Nat.zero_le _⟩ rfl rfl ?_
      refine r_if_ne (tgt := 35) hK d_X12_runs_28 (by decide) (fun h13 => ?_) (fun h13 => ?_)
      · have hD := if_f hD h13
        refine r_aload_n hK d_X12_runs_35 rfl rfl ?_
        obtain ⟨u15, e14, hD⟩ := bd0_e hD
        refine r_callV (As := []) (st := []) (stk2 := []) hK (C_X12_keeps  e14) d_X12_runs_36 mf_X12_keeps ml_RX12_402 im_X12_keeps rfl se_11_RX12_X12_keeps kd_78 rfl (Nat.le_of_ble_eq_true rfl) (by decide) ⟨Nat.zero_le _, Nat.zero_le _⟩ rfl rfl ?_
        refine r_iconst hK d_X12_runs_39 ci_0 ?_
        refine r_istore_n hK d_X12_runs_40 rfl (by decide) (ls2 := [.ref 78, .int x1, .int x2, .int (0 : Int32), gs_J, gs_J]) rfl ?_
        refine r_iconst hK d_X12_runs_41 ci_1 ?_
        refine r_istore hK d_X12_runs_42 (by decide) (ls2 := [.ref 78, .int x1, .int x2, .int (0 : Int32), .int (1 : Int32), gs_J]) rfl ?_
        exact TL_X12_runs_44 hK  _ _ _ _ _ _  hD
      · have hD := if_t hD h13
        refine r_ldcw hK d_X12_runs_31 kc_RX12_394 ?_
        cases hD
        exact r_iret hK d_X12_runs_34
end S_X12_runs
theorem d_X12_leanBy_0 : gd cX12_leanBy 0 (.aload_n 0) 1 1 := ⟨by decide +kernel, rfl⟩
theorem d_X12_leanBy_1 : gd cX12_leanBy 1 (.getfield 296) 3 4 := ⟨by decide +kernel, rfl⟩
theorem d_X12_leanBy_4 : gd cX12_leanBy 4 (.istore_n 3) 1 5 := ⟨by decide +kernel, rfl⟩
theorem d_X12_leanBy_5 : gd cX12_leanBy 5 (.aload_n 0) 1 6 := ⟨by decide +kernel, rfl⟩
theorem d_X12_leanBy_6 : gd cX12_leanBy 6 (.iload_n 1) 1 7 := ⟨by decide +kernel, rfl⟩
theorem d_X12_leanBy_7 : gd cX12_leanBy 7 (.putfield 296) 3 10 := ⟨by decide +kernel, rfl⟩
theorem d_X12_leanBy_10 : gd cX12_leanBy 10 (.aload_n 0) 1 11 := ⟨by decide +kernel, rfl⟩
theorem d_X12_leanBy_11 : gd cX12_leanBy 11 (.invokevirtual 402) 3 14 := ⟨by decide +kernel, rfl⟩
theorem d_X12_leanBy_14 : gd cX12_leanBy 14 (.iconst 0) 1 15 := ⟨by decide +kernel, rfl⟩
theorem d_X12_leanBy_15 : gd cX12_leanBy 15 (.istore 4) 2 17 := ⟨by decide +kernel, rfl⟩
theorem d_X12_leanBy_17 : gd cX12_leanBy 17 (.iload 4) 2 19 := ⟨by decide +kernel, rfl⟩
theorem d_X12_leanBy_19 : gd cX12_leanBy 19 (.iconst 3) 1 20 := ⟨by decide +kernel, rfl⟩
theorem d_X12_leanBy_20 : gd cX12_leanBy 20 (.if_icmp .ge 23) 3 23 := ⟨by decide +kernel, rfl⟩
theorem d_X12_leanBy_23 : gd cX12_leanBy 23 (.aload_n 0) 1 24 := ⟨by decide +kernel, rfl⟩
theorem d_X12_leanBy_24 : gd cX12_leanBy 24 (.bipush 79) 2 26 := ⟨by decide +kernel, rfl⟩
theorem d_X12_leanBy_26 : gd cX12_leanBy 26 (.invokevirtual 337) 3 29 := ⟨by decide +kernel, rfl⟩
theorem d_X12_leanBy_29 : gd cX12_leanBy 29 (.ifCond .ne 14) 3 32 := ⟨by decide +kernel, rfl⟩
theorem d_X12_leanBy_32 : gd cX12_leanBy 32 (.aload_n 0) 1 33 := ⟨by decide +kernel, rfl⟩
theorem d_X12_leanBy_33 : gd cX12_leanBy 33 (.iload_n 2) 1 34 := ⟨by decide +kernel, rfl⟩
theorem d_X12_leanBy_34 : gd cX12_leanBy 34 (.invokevirtual 376) 3 37 := ⟨by decide +kernel, rfl⟩
theorem d_X12_leanBy_37 : gd cX12_leanBy 37 (.iinc 4 1) 3 40 := ⟨by decide +kernel, rfl⟩
theorem d_X12_leanBy_40 : gd cX12_leanBy 40 (.goto (-23)) 3 43 := ⟨by decide +kernel, rfl⟩
theorem d_X12_leanBy_43 : gd cX12_leanBy 43 (.aload_n 0) 1 44 := ⟨by decide +kernel, rfl⟩
theorem d_X12_leanBy_44 : gd cX12_leanBy 44 (.invokevirtual 367) 3 47 := ⟨by decide +kernel, rfl⟩
theorem d_X12_leanBy_47 : gd cX12_leanBy 47 (.invokestatic 370) 3 50 := ⟨by decide +kernel, rfl⟩
theorem d_X12_leanBy_50 : gd cX12_leanBy 50 (.istore 4) 2 52 := ⟨by decide +kernel, rfl⟩
theorem d_X12_leanBy_52 : gd cX12_leanBy 52 (.aload_n 0) 1 53 := ⟨by decide +kernel, rfl⟩
theorem d_X12_leanBy_53 : gd cX12_leanBy 53 (.invokevirtual 405) 3 56 := ⟨by decide +kernel, rfl⟩
theorem d_X12_leanBy_56 : gd cX12_leanBy 56 (.aload_n 0) 1 57 := ⟨by decide +kernel, rfl⟩
theorem d_X12_leanBy_57 : gd cX12_leanBy 57 (.iload_n 3) 1 58 := ⟨by decide +kernel, rfl⟩
theorem d_X12_leanBy_58 : gd cX12_leanBy 58 (.putfield 296) 3 61 := ⟨by decide +kernel, rfl⟩
theorem d_X12_leanBy_61 : gd cX12_leanBy 61 (.iload 4) 2 63 := ⟨by decide +kernel, rfl⟩
theorem d_X12_leanBy_63 : gd cX12_leanBy 63 .ireturn 1 64 := ⟨by decide +kernel, rfl⟩
def B_X12_leanBy_43  (x3 : Int32) (μ : gs_M) : Option (Int32 × gs_M) :=
  bd (D_X12_lean μ) (fun v3 u2 => lt1 (if 0 ≤ v3 then v3 else 0 - v3) (fun v4 => bd0 (D_X12_putBack u2) (fun u6 => lt1 (sI u6 78 28 x3) (fun u7 => some (v4, u7)))))
def Bo_X12_leanBy_17 (q17 : Int32 → Int32 → Int32 → gs_M → Option (Int32 × gs_M)) (x2 : Int32) (x3 : Int32) (x4 : Int32) (μ : gs_M) : Option (Int32 × gs_M) :=
  if (3 : Int32) ≤ x4 then (B_X12_leanBy_43 x3 μ) else (bd (D_X12_now (79 : Int32) μ) (fun v4 u3 => if v4 = 0 then (bd0 (D_X12_rolls x2 u3) (fun u7 => q17 x2 x3 (x4 + (1 : Int32)) u7)) else (B_X12_leanBy_43 x3 u3)))
def L_X12_leanBy_17  : Nat → Int32 → Int32 → Int32 → gs_M → Option (Int32 × gs_M)
  | 0 => fun _ _ _ _ => none
  | n + 1 => fun x2 x3 x4 μ => Bo_X12_leanBy_17  (L_X12_leanBy_17  n) x2 x3 x4 μ
def D_X12_leanBy (x1 : Int32) (x2 : Int32) (μ : gs_M) : Option (Int32 × gs_M) :=
  lt1 (gI μ 78 28) (fun v1 => lt1 (sI μ 78 28 x1) (fun u2 => bd0 (D_X12_keeps u2) (fun u4 => L_X12_leanBy_17 4096 x2 v1 (0 : Int32) u4)))
section S_X12_leanBy
variable {p : Program} {l : Launch} {e : Env} {R : Room} {s : State} {m : MethodId} {args : Array Value} {below : List Frame} {meth : Method} {c : Code} {ad : Nat → Nat} {g : va_G} {tyc : Nat → ClassId}
set_option maxRecDepth 20000 in
theorem T_X12_leanBy_43  (hK : KC p R s m args meth c ad g tyc RX12 cX12_leanBy 5 (some .int) 6) {r : Int32} {μ2 : gs_M}   {x3 : Int32} {μ : gs_M}  (hD : B_X12_leanBy_43  x3 μ = some (r, μ2)) : WJ p l e R s m args below meth c 0 0 (MQ below (gs_Q ad g tyc (some (.int r)) μ2) args s 0 0 (gs_A ad)) ad g tyc 5 43 [.ref 78, gs_J, gs_J, .int x3, gs_J] [] μ := by
  unfold B_X12_leanBy_43 at hD
  refine r_aload_n hK d_X12_leanBy_43 rfl rfl ?_
  obtain ⟨v3, u2, e1, hD⟩ := bd_e hD
  refine r_callV (As := []) (st := []) (stk2 := [.int v3]) hK (C_X12_lean  e1) d_X12_leanBy_44 mf_X12_lean ml_RX12_367 im_X12_lean rfl se_11_RX12_X12_lean kd_78 rfl (Nat.le_of_ble_eq_true rfl) (by decide) ⟨Nat.zero_le _, Nat.zero_le _⟩ rfl rfl ?_
  refine r_mabs hK d_X12_leanBy_47 mm_RX12_370 ms_abs mi_0 mc_abs (Nat.le_of_ble_eq_true rfl) (by decide) ⟨Nat.zero_le _, Nat.zero_le _⟩ ?_
  refine r_lti hD (fun v4 hD => ?_)
  refine r_istore hK d_X12_leanBy_50 (by decide) (ls2 := [.ref 78, gs_J, gs_J, .int x3, .int v4]) rfl ?_
  refine r_aload_n hK d_X12_leanBy_52 rfl rfl ?_
  obtain ⟨u6, e5, hD⟩ := bd0_e hD
  refine r_callV (As := []) (st := []) (stk2 := []) hK (C_X12_putBack  e5) d_X12_leanBy_53 mf_X12_putBack ml_RX12_405 im_X12_putBack rfl se_11_RX12_X12_putBack kd_78 rfl (Nat.le_of_ble_eq_true rfl) (by decide) ⟨Nat.zero_le _, Nat.zero_le _⟩ rfl rfl ?_
  refine r_aload_n hK d_X12_leanBy_56 rfl rfl ?_
  refine r_iload_n hK d_X12_leanBy_57 rfl rfl ?_
  refine r_putI hK d_X12_leanBy_58 fl_RX12_296_11 rfl rfl kd_78 ?_
  refine r_ltm hD (fun u7 hD => ?_)
  refine r_iload hK d_X12_leanBy_61 rfl ?_
  cases hD
  exact r_iret hK d_X12_leanBy_63
set_option maxRecDepth 20000 in
theorem To_X12_leanBy_17  (hK : KC p R s m args meth c ad g tyc RX12 cX12_leanBy 5 (some .int) 6) {r : Int32} {μ2 : gs_M} {q17 : Int32 → Int32 → Int32 → gs_M → Option (Int32 × gs_M)} (hq17 : ∀ (x2 : Int32) (x3 : Int32) (x4 : Int32) (μ : gs_M), q17 x2 x3 x4 μ = some (r, μ2) → WJ p l e R s m args below meth c 0 0 (MQ below (gs_Q ad g tyc (some (.int r)) μ2) args s 0 0 (gs_A ad)) ad g tyc 5 17 [.ref 78, gs_J, .int x2, .int x3, .int x4] [] μ) {x2 : Int32} {x3 : Int32} {x4 : Int32} {μ : gs_M}  (hD : Bo_X12_leanBy_17 q17 x2 x3 x4 μ = some (r, μ2)) : WJ p l e R s m args below meth c 0 0 (MQ below (gs_Q ad g tyc (some (.int r)) μ2) args s 0 0 (gs_A ad)) ad g tyc 5 17 [.ref 78, gs_J, .int x2, .int x3, .int x4] [] μ := by
  unfold Bo_X12_leanBy_17 at hD
  refine r_iload hK d_X12_leanBy_17 rfl ?_
  refine r_iconst hK d_X12_leanBy_19 ci_3 ?_
  refine r_icmp_ge (tgt := 43) hK d_X12_leanBy_20 (by decide) (fun h1 => ?_) (fun h1 => ?_)
  · have hD := if_t hD h1
    refine r_junk [true, false, false, true, false] (ls2 := [.ref 78, gs_J, gs_J, .int x3, gs_J]) rfl ?_
    exact T_X12_leanBy_43 hK   hD
  · have hD := if_f hD h1
    refine r_aload_n hK d_X12_leanBy_23 rfl rfl ?_
    refine r_bipush hK d_X12_leanBy_24 cb_79 ?_
    obtain ⟨v4, u3, e2, hD⟩ := bd_e hD
    refine r_callV (As := [.int (79 : Int32)]) (st := []) (stk2 := [.int v4]) hK (C_X12_now  e2) d_X12_leanBy_26 mf_X12_now ml_RX12_337 im_X12_now rfl se_11_RX12_X12_now kd_78 rfl (Nat.le_of_ble_eq_true rfl) (by decide) ⟨Nat.zero_le _, Nat.zero_le _⟩ rfl rfl ?_
    refine r_if_ne (tgt := 43) hK d_X12_leanBy_29 (by decide) (fun h5 => ?_) (fun h5 => ?_)
    · have hD := if_f hD h5
      refine r_junk [true, false, false, true, false] (ls2 := [.ref 78, gs_J, gs_J, .int x3, gs_J]) rfl ?_
      exact T_X12_leanBy_43 hK   hD
    · have hD := if_t hD h5
      refine r_aload_n hK d_X12_leanBy_32 rfl rfl ?_
      refine r_iload_n hK d_X12_leanBy_33 rfl rfl ?_
      obtain ⟨u7, e6, hD⟩ := bd0_e hD
      refine r_callV (As := [.int x2]) (st := []) (stk2 := []) hK (C_X12_rolls  e6) d_X12_leanBy_34 mf_X12_rolls ml_RX12_376 im_X12_rolls rfl se_11_RX12_X12_rolls kd_78 rfl (Nat.le_of_ble_eq_true rfl) (by decide) ⟨Nat.zero_le _, Nat.zero_le _⟩ rfl rfl ?_
      refine r_iinc hK d_X12_leanBy_37 rfl (v := x4 + (1 : Int32)) (by rw [ci_1]) (by decide) (ls2 := [.ref 78, gs_J, .int x2, .int x3, .int (x4 + (1 : Int32))]) rfl ?_
      refine r_goto (tgt := 17) hK d_X12_leanBy_40 (by decide) ?_
      exact hq17 _ _ _ _  hD
set_option maxRecDepth 20000 in
theorem TL_X12_leanBy_17  (hK : KC p R s m args meth c ad g tyc RX12 cX12_leanBy 5 (some .int) 6) {r : Int32} {μ2 : gs_M}   : ∀ (n : Nat) (x2 : Int32) (x3 : Int32) (x4 : Int32) (μ : gs_M), L_X12_leanBy_17  n x2 x3 x4 μ = some (r, μ2) → WJ p l e R s m args below meth c 0 0 (MQ below (gs_Q ad g tyc (some (.int r)) μ2) args s 0 0 (gs_A ad)) ad g tyc 5 17 [.ref 78, gs_J, .int x2, .int x3, .int x4] [] μ := by
  intro n
  induction n with
  | zero => intro x2 x3 x4 μ  hD; cases hD
  | succ n ih => intro x2 x3 x4 μ  hD; exact To_X12_leanBy_17 hK  ih  hD
set_option maxRecDepth 20000 in
theorem C_X12_leanBy  {x1 : Int32} {x2 : Int32} {μ : gs_M} {r : Int32} {μ2 : gs_M}  (hD : D_X12_leanBy x1 x2 μ = some (r, μ2)) : CALL yX12_leanBy cX12_leanBy 5 (some .int) 6 [.ref 78, .int x1, .int x2] μ (some (.int r)) μ2 := by
  unfold D_X12_leanBy at hD
  refine gs_enter mf_X12_leanBy (Nat.le_of_ble_eq_true rfl) (ls := [.ref 78, .int x1, .int x2, gs_J, gs_J]) rfl (fun p l e R s m args below meth c ad g tyc hK => ?_)
  have hK : KC p R s m args meth c ad g tyc RX12 cX12_leanBy 5 (some .int) 6 := hK
  refine r_aload_n hK d_X12_leanBy_0 rfl rfl ?_
  refine r_getI hK d_X12_leanBy_1 fl_RX12_296_11 rfl kd_78 ?_
  refine r_lti hD (fun v1 hD => ?_)
  refine r_istore_n hK d_X12_leanBy_4 rfl (by decide) (ls2 := [.ref 78, .int x1, .int x2, .int v1, gs_J]) rfl ?_
  refine r_aload_n hK d_X12_leanBy_5 rfl rfl ?_
  refine r_iload_n hK d_X12_leanBy_6 rfl rfl ?_
  refine r_putI hK d_X12_leanBy_7 fl_RX12_296_11 rfl rfl kd_78 ?_
  refine r_ltm hD (fun u2 hD => ?_)
  refine r_aload_n hK d_X12_leanBy_10 rfl rfl ?_
  obtain ⟨u4, e3, hD⟩ := bd0_e hD
  refine r_callV (As := []) (st := []) (stk2 := []) hK (C_X12_keeps  e3) d_X12_leanBy_11 mf_X12_keeps ml_RX12_402 im_X12_keeps rfl se_11_RX12_X12_keeps kd_78 rfl (Nat.le_of_ble_eq_true rfl) (by decide) ⟨Nat.zero_le _, Nat.zero_le _⟩ rfl rfl ?_
  refine r_iconst hK d_X12_leanBy_14 ci_0 ?_
  refine r_istore hK d_X12_leanBy_15 (by decide) (ls2 := [.ref 78, .int x1, .int x2, .int v1, .int (0 : Int32)]) rfl ?_
  refine r_junk [true, false, true, true, true] (ls2 := [.ref 78, gs_J, .int x2, .int v1, .int (0 : Int32)]) rfl ?_
  exact TL_X12_leanBy_17 hK  _ _ _ _ _  hD
end S_X12_leanBy
theorem d_X12_isNearer_0 : gd cX12_isNearer 0 (.iload_n 0) 1 1 := ⟨by decide +kernel, rfl⟩
theorem d_X12_isNearer_1 : gd cX12_isNearer 1 (.invokestatic 370) 3 4 := ⟨by decide +kernel, rfl⟩
theorem d_X12_isNearer_4 : gd cX12_isNearer 4 (.iload_n 1) 1 5 := ⟨by decide +kernel, rfl⟩
theorem d_X12_isNearer_5 : gd cX12_isNearer 5 (.invokestatic 370) 3 8 := ⟨by decide +kernel, rfl⟩
theorem d_X12_isNearer_8 : gd cX12_isNearer 8 (.if_icmp .eq 22) 3 11 := ⟨by decide +kernel, rfl⟩
theorem d_X12_isNearer_11 : gd cX12_isNearer 11 (.iload_n 0) 1 12 := ⟨by decide +kernel, rfl⟩
theorem d_X12_isNearer_12 : gd cX12_isNearer 12 (.invokestatic 370) 3 15 := ⟨by decide +kernel, rfl⟩
theorem d_X12_isNearer_15 : gd cX12_isNearer 15 (.iload_n 1) 1 16 := ⟨by decide +kernel, rfl⟩
theorem d_X12_isNearer_16 : gd cX12_isNearer 16 (.invokestatic 370) 3 19 := ⟨by decide +kernel, rfl⟩
theorem d_X12_isNearer_19 : gd cX12_isNearer 19 (.if_icmp .ge 7) 3 22 := ⟨by decide +kernel, rfl⟩
theorem d_X12_isNearer_22 : gd cX12_isNearer 22 (.iconst 1) 1 23 := ⟨by decide +kernel, rfl⟩
theorem d_X12_isNearer_23 : gd cX12_isNearer 23 (.goto 17) 3 26 := ⟨by decide +kernel, rfl⟩
theorem d_X12_isNearer_26 : gd cX12_isNearer 26 (.iconst 0) 1 27 := ⟨by decide +kernel, rfl⟩
theorem d_X12_isNearer_27 : gd cX12_isNearer 27 (.goto 13) 3 30 := ⟨by decide +kernel, rfl⟩
theorem d_X12_isNearer_30 : gd cX12_isNearer 30 (.iload_n 0) 1 31 := ⟨by decide +kernel, rfl⟩
theorem d_X12_isNearer_31 : gd cX12_isNearer 31 (.iload_n 1) 1 32 := ⟨by decide +kernel, rfl⟩
theorem d_X12_isNearer_32 : gd cX12_isNearer 32 (.if_icmp .ge 7) 3 35 := ⟨by decide +kernel, rfl⟩
theorem d_X12_isNearer_35 : gd cX12_isNearer 35 (.iconst 1) 1 36 := ⟨by decide +kernel, rfl⟩
theorem d_X12_isNearer_36 : gd cX12_isNearer 36 (.goto 4) 3 39 := ⟨by decide +kernel, rfl⟩
theorem d_X12_isNearer_39 : gd cX12_isNearer 39 (.iconst 0) 1 40 := ⟨by decide +kernel, rfl⟩
theorem d_X12_isNearer_40 : gd cX12_isNearer 40 .ireturn 1 41 := ⟨by decide +kernel, rfl⟩
def D_X12_isNearer (x0 : Int32) (x1 : Int32) (μ : gs_M) : Option (Int32 × gs_M) :=
  lt1 (if 0 ≤ x0 then x0 else 0 - x0) (fun v1 => lt1 (if 0 ≤ x1 then x1 else 0 - x1) (fun v2 => if v1 = v2 then (if x1 ≤ x0 then (some ((0 : Int32), μ)) else (some ((1 : Int32), μ))) else (lt1 (if 0 ≤ x0 then x0 else 0 - x0) (fun v5 => lt1 (if 0 ≤ x1 then x1 else 0 - x1) (fun v6 => if v6 ≤ v5 then (some ((0 : Int32), μ)) else (some ((1 : Int32), μ)))))))
section S_X12_isNearer
variable {p : Program} {l : Launch} {e : Env} {R : Room} {s : State} {m : MethodId} {args : Array Value} {below : List Frame} {meth : Method} {c : Code} {ad : Nat → Nat} {g : va_G} {tyc : Nat → ClassId}
set_option maxRecDepth 20000 in
theorem C_X12_isNearer  {x0 : Int32} {x1 : Int32} {μ : gs_M} {r : Int32} {μ2 : gs_M}  (hD : D_X12_isNearer x0 x1 μ = some (r, μ2)) : CALL yX12_isNearer cX12_isNearer 2 (some .boolean) 1 [.int x0, .int x1] μ (some (.int r)) μ2 := by
  unfold D_X12_isNearer at hD
  refine gs_enter mf_X12_isNearer (Nat.le_of_ble_eq_true rfl) (ls := [.int x0, .int x1]) rfl (fun p l e R s m args below meth c ad g tyc hK => ?_)
  have hK : KC p R s m args meth c ad g tyc RX12 cX12_isNearer 2 (some .boolean) 1 := hK
  refine r_iload_n hK d_X12_isNearer_0 rfl rfl ?_
  refine r_mabs hK d_X12_isNearer_1 mm_RX12_370 ms_abs mi_0 mc_abs (Nat.le_of_ble_eq_true rfl) (by decide) ⟨Nat.zero_le _, Nat.zero_le _⟩ ?_
  refine r_lti hD (fun v1 hD => ?_)
  refine r_iload_n hK d_X12_isNearer_4 rfl rfl ?_
  refine r_mabs hK d_X12_isNearer_5 mm_RX12_370 ms_abs mi_0 mc_abs (Nat.le_of_ble_eq_true rfl) (by decide) ⟨Nat.zero_le _, Nat.zero_le _⟩ ?_
  refine r_lti hD (fun v2 hD => ?_)
  refine r_icmp_eq (tgt := 30) hK d_X12_isNearer_8 (by decide) (fun h3 => ?_) (fun h3 => ?_)
  · have hD := if_t hD h3
    refine r_iload_n hK d_X12_isNearer_30 rfl rfl ?_
    refine r_iload_n hK d_X12_isNearer_31 rfl rfl ?_
    refine r_icmp_ge (tgt := 39) hK d_X12_isNearer_32 (by decide) (fun h4 => ?_) (fun h4 => ?_)
    · have hD := if_t hD h4
      refine r_iconst hK d_X12_isNearer_39 ci_0 ?_
      cases hD
      exact r_zret hK (Or.inl rfl) d_X12_isNearer_40
    · have hD := if_f hD h4
      refine r_iconst hK d_X12_isNearer_35 ci_1 ?_
      refine r_goto (tgt := 40) hK d_X12_isNearer_36 (by decide) ?_
      cases hD
      exact r_zret hK (Or.inr rfl) d_X12_isNearer_40
  · have hD := if_f hD h3
    refine r_iload_n hK d_X12_isNearer_11 rfl rfl ?_
    refine r_mabs hK d_X12_isNearer_12 mm_RX12_370 ms_abs mi_0 mc_abs (Nat.le_of_ble_eq_true rfl) (by decide) ⟨Nat.zero_le _, Nat.zero_le _⟩ ?_
    refine r_lti hD (fun v5 hD => ?_)
    refine r_iload_n hK d_X12_isNearer_15 rfl rfl ?_
    refine r_mabs hK d_X12_isNearer_16 mm_RX12_370 ms_abs mi_0 mc_abs (Nat.le_of_ble_eq_true rfl) (by decide) ⟨Nat.zero_le _, Nat.zero_le _⟩ ?_
    refine r_lti hD (fun v6 hD => ?_)
    refine r_icmp_ge (tgt := 26) hK d_X12_isNearer_19 (by decide) (fun h7 => ?_) (fun h7 => ?_)
    · have hD := if_t hD h7
      refine r_iconst hK d_X12_isNearer_26 ci_0 ?_
      refine r_goto (tgt := 40) hK d_X12_isNearer_27 (by decide) ?_
      cases hD
      exact r_zret hK (Or.inl rfl) d_X12_isNearer_40
    · have hD := if_f hD h7
      refine r_iconst hK d_X12_isNearer_22 ci_1 ?_
      refine r_goto (tgt := 40) hK d_X12_isNearer_23 (by decide) ?_
      cases hD
      exact r_zret hK (Or.inr rfl) d_X12_isNearer_40
end S_X12_isNearer
theorem d_X12_ballast_0 : gd cX12_ballast 0 (.aload_n 0) 1 1 := ⟨by decide +kernel, rfl⟩
theorem d_X12_ballast_1 : gd cX12_ballast 1 (.iconst 0) 1 2 := ⟨by decide +kernel, rfl⟩
theorem d_X12_ballast_2 : gd cX12_ballast 2 (.putfield 98) 3 5 := ⟨by decide +kernel, rfl⟩
theorem d_X12_ballast_5 : gd cX12_ballast 5 (.aload_n 0) 1 6 := ⟨by decide +kernel, rfl⟩
theorem d_X12_ballast_6 : gd cX12_ballast 6 (.invokevirtual 373) 3 9 := ⟨by decide +kernel, rfl⟩
theorem d_X12_ballast_9 : gd cX12_ballast 9 (.ifCond .eq 13) 3 12 := ⟨by decide +kernel, rfl⟩
theorem d_X12_ballast_12 : gd cX12_ballast 12 (.iload_n 1) 1 13 := ⟨by decide +kernel, rfl⟩
theorem d_X12_ballast_13 : gd cX12_ballast 13 (.iconst 0) 1 14 := ⟨by decide +kernel, rfl⟩
theorem d_X12_ballast_14 : gd cX12_ballast 14 (.bipush 40) 2 16 := ⟨by decide +kernel, rfl⟩
theorem d_X12_ballast_16 : gd cX12_ballast 16 (.invokestatic 217) 3 19 := ⟨by decide +kernel, rfl⟩
theorem d_X12_ballast_19 : gd cX12_ballast 19 (.ifCond .ne 7) 3 22 := ⟨by decide +kernel, rfl⟩
theorem d_X12_ballast_22 : gd cX12_ballast 22 (.ldc_w 394) 3 25 := ⟨by decide +kernel, rfl⟩
theorem d_X12_ballast_25 : gd cX12_ballast 25 .ireturn 1 26 := ⟨by decide +kernel, rfl⟩
theorem d_X12_ballast_26 : gd cX12_ballast 26 (.iconst 0) 1 27 := ⟨by decide +kernel, rfl⟩
theorem d_X12_ballast_27 : gd cX12_ballast 27 (.istore_n 2) 1 28 := ⟨by decide +kernel, rfl⟩
theorem d_X12_ballast_28 : gd cX12_ballast 28 (.aload_n 0) 1 29 := ⟨by decide +kernel, rfl⟩
theorem d_X12_ballast_29 : gd cX12_ballast 29 (.iconst 0) 1 30 := ⟨by decide +kernel, rfl⟩
theorem d_X12_ballast_30 : gd cX12_ballast 30 (.iload_n 1) 1 31 := ⟨by decide +kernel, rfl⟩
theorem d_X12_ballast_31 : gd cX12_ballast 31 (.invokevirtual 408) 3 34 := ⟨by decide +kernel, rfl⟩
theorem d_X12_ballast_34 : gd cX12_ballast 34 (.istore_n 3) 1 35 := ⟨by decide +kernel, rfl⟩
theorem d_X12_ballast_35 : gd cX12_ballast 35 (.sipush (-999)) 3 38 := ⟨by decide +kernel, rfl⟩
theorem d_X12_ballast_38 : gd cX12_ballast 38 (.istore 4) 2 40 := ⟨by decide +kernel, rfl⟩
theorem d_X12_ballast_40 : gd cX12_ballast 40 (.iload 4) 2 42 := ⟨by decide +kernel, rfl⟩
theorem d_X12_ballast_42 : gd cX12_ballast 42 (.sipush 901) 3 45 := ⟨by decide +kernel, rfl⟩
theorem d_X12_ballast_45 : gd cX12_ballast 45 (.if_icmp .gt 48) 3 48 := ⟨by decide +kernel, rfl⟩
theorem d_X12_ballast_48 : gd cX12_ballast 48 (.aload_n 0) 1 49 := ⟨by decide +kernel, rfl⟩
theorem d_X12_ballast_49 : gd cX12_ballast 49 (.iload 4) 2 51 := ⟨by decide +kernel, rfl⟩
theorem d_X12_ballast_51 : gd cX12_ballast 51 (.iload_n 1) 1 52 := ⟨by decide +kernel, rfl⟩
theorem d_X12_ballast_52 : gd cX12_ballast 52 (.invokevirtual 408) 3 55 := ⟨by decide +kernel, rfl⟩
theorem d_X12_ballast_55 : gd cX12_ballast 55 (.istore 5) 2 57 := ⟨by decide +kernel, rfl⟩
theorem d_X12_ballast_57 : gd cX12_ballast 57 (.iload 5) 2 59 := ⟨by decide +kernel, rfl⟩
theorem d_X12_ballast_59 : gd cX12_ballast 59 (.iload_n 3) 1 60 := ⟨by decide +kernel, rfl⟩
theorem d_X12_ballast_60 : gd cX12_ballast 60 (.if_icmp .gt 27) 3 63 := ⟨by decide +kernel, rfl⟩
theorem d_X12_ballast_63 : gd cX12_ballast 63 (.iload 5) 2 65 := ⟨by decide +kernel, rfl⟩
theorem d_X12_ballast_65 : gd cX12_ballast 65 (.iload_n 3) 1 66 := ⟨by decide +kernel, rfl⟩
theorem d_X12_ballast_66 : gd cX12_ballast 66 (.if_icmp .ne 15) 3 69 := ⟨by decide +kernel, rfl⟩
theorem d_X12_ballast_69 : gd cX12_ballast 69 (.iload 4) 2 71 := ⟨by decide +kernel, rfl⟩
theorem d_X12_ballast_71 : gd cX12_ballast 71 (.iload_n 2) 1 72 := ⟨by decide +kernel, rfl⟩
theorem d_X12_ballast_72 : gd cX12_ballast 72 (.invokestatic 411) 3 75 := ⟨by decide +kernel, rfl⟩
theorem d_X12_ballast_75 : gd cX12_ballast 75 (.ifCond .ne 6) 3 78 := ⟨by decide +kernel, rfl⟩
theorem d_X12_ballast_78 : gd cX12_ballast 78 (.goto 9) 3 81 := ⟨by decide +kernel, rfl⟩
theorem d_X12_ballast_81 : gd cX12_ballast 81 (.iload 4) 2 83 := ⟨by decide +kernel, rfl⟩
theorem d_X12_ballast_83 : gd cX12_ballast 83 (.istore_n 2) 1 84 := ⟨by decide +kernel, rfl⟩
theorem d_X12_ballast_84 : gd cX12_ballast 84 (.iload 5) 2 86 := ⟨by decide +kernel, rfl⟩
theorem d_X12_ballast_86 : gd cX12_ballast 86 (.istore_n 3) 1 87 := ⟨by decide +kernel, rfl⟩
theorem d_X12_ballast_87 : gd cX12_ballast 87 (.iinc 4 100) 3 90 := ⟨by decide +kernel, rfl⟩
theorem d_X12_ballast_90 : gd cX12_ballast 90 (.goto (-50)) 3 93 := ⟨by decide +kernel, rfl⟩
theorem d_X12_ballast_93 : gd cX12_ballast 93 (.iload_n 2) 1 94 := ⟨by decide +kernel, rfl⟩
theorem d_X12_ballast_94 : gd cX12_ballast 94 .ireturn 1 95 := ⟨by decide +kernel, rfl⟩
def B_X12_ballast_81 (q40 : Int32 → Int32 → Int32 → Int32 → gs_M → Option (Int32 × gs_M)) (x1 : Int32) (x4 : Int32) (x5 : Int32) (μ : gs_M) : Option (Int32 × gs_M) :=
  q40 x1 x4 x5 (x4 + (100 : Int32)) μ
def Bo_X12_ballast_40 (q40 : Int32 → Int32 → Int32 → Int32 → gs_M → Option (Int32 × gs_M)) (x1 : Int32) (x2 : Int32) (x3 : Int32) (x4 : Int32) (μ : gs_M) : Option (Int32 × gs_M) :=
  if (901 : Int32) < x4 then (some (x2, μ)) else (bd (D_X12_leanBy x4 x1 μ) (fun v4 u3 => if x3 < v4 then (q40 x1 x2 x3 (x4 + (100 : Int32)) u3) else (if v4 = x3 then (bd (D_X12_isNearer x4 x2 u3) (fun v9 u8 => if v9 = 0 then (q40 x1 x2 x3 (x4 + (100 : Int32)) u8) else (B_X12_ballast_81 q40 x1 x4 v4 u8))) else (B_X12_ballast_81 q40 x1 x4 v4 u3))))
def L_X12_ballast_40  : Nat → Int32 → Int32 → Int32 → Int32 → gs_M → Option (Int32 × gs_M)
  | 0 => fun _ _ _ _ _ => none
  | n + 1 => fun x1 x2 x3 x4 μ => Bo_X12_ballast_40  (L_X12_ballast_40  n) x1 x2 x3 x4 μ
def D_X12_ballast (x1 : Int32) (μ : gs_M) : Option (Int32 × gs_M) :=
  lt1 (sI μ 78 0 (0 : Int32)) (fun u1 => bd (D_X12_isAfloat u1) (fun v4 u3 => if v4 = 0 then (some ((-1000000 : Int32), u3)) else (bd (D_X12_isIn x1 (0 : Int32) (40 : Int32) u3) (fun v8 u7 => if v8 = 0 then (some ((-1000000 : Int32), u7)) else (bd (D_X12_leanBy (0 : Int32) x1 u7) (fun v12 u11 => L_X12_ballast_40 4096 x1 (0 : Int32) v12 (-999 : Int32) u11))))))
section S_X12_ballast
variable {p : Program} {l : Launch} {e : Env} {R : Room} {s : State} {m : MethodId} {args : Array Value} {below : List Frame} {meth : Method} {c : Code} {ad : Nat → Nat} {g : va_G} {tyc : Nat → ClassId}
set_option maxRecDepth 20000 in
theorem T_X12_ballast_81  (hK : KC p R s m args meth c ad g tyc RX12 cX12_ballast 6 (some .int) 7) {r : Int32} {μ2 : gs_M} {q40 : Int32 → Int32 → Int32 → Int32 → gs_M → Option (Int32 × gs_M)} (hq40 : ∀ (x1 : Int32) (x2 : Int32) (x3 : Int32) (x4 : Int32) (μ : gs_M), q40 x1 x2 x3 x4 μ = some (r, μ2) → WJ p l e R s m args below meth c 0 0 (MQ below (gs_Q ad g tyc (some (.int r)) μ2) args s 0 0 (gs_A ad)) ad g tyc 6 40 [.ref 78, .int x1, .int x2, .int x3, .int x4, gs_J] [] μ) {x1 : Int32} {x4 : Int32} {x5 : Int32} {μ : gs_M}  (hD : B_X12_ballast_81 q40 x1 x4 x5 μ = some (r, μ2)) : WJ p l e R s m args below meth c 0 0 (MQ below (gs_Q ad g tyc (some (.int r)) μ2) args s 0 0 (gs_A ad)) ad g tyc 6 81 [.ref 78, .int x1, gs_J, gs_J, .int x4, .int x5] [] μ := by
  unfold B_X12_ballast_81 at hD
  refine r_iload hK d_X12_ballast_81 rfl ?_
  refine r_istore_n hK d_X12_ballast_83 rfl (by decide) (ls2 := [.ref 78, .int x1, .int x4, gs_J, .int x4, .int x5]) rfl ?_
  refine r_iload hK d_X12_ballast_84 rfl ?_
  refine r_istore_n hK d_X12_ballast_86 rfl (by decide) (ls2 := [.ref 78, .int x1, .int x4, .int x5, .int x4, .int x5]) rfl ?_
  refine r_iinc hK d_X12_ballast_87 rfl (v := x4 + (100 : Int32)) (by rw [ci_100]) (by decide) (ls2 := [.ref 78, .int x1, .int x4, .int x5, .int (x4 + (100 : Int32)), .int x5]) rfl ?_
  refine r_goto (tgt := 40) hK d_X12_ballast_90 (by decide) ?_
  refine r_junk [true, true, true, true, true, false] (ls2 := [.ref 78, .int x1, .int x4, .int x5, .int (x4 + (100 : Int32)), gs_J]) rfl ?_
  exact hq40 _ _ _ _ _  hD
set_option maxRecDepth 20000 in
theorem To_X12_ballast_40  (hK : KC p R s m args meth c ad g tyc RX12 cX12_ballast 6 (some .int) 7) {r : Int32} {μ2 : gs_M} {q40 : Int32 → Int32 → Int32 → Int32 → gs_M → Option (Int32 × gs_M)} (hq40 : ∀ (x1 : Int32) (x2 : Int32) (x3 : Int32) (x4 : Int32) (μ : gs_M), q40 x1 x2 x3 x4 μ = some (r, μ2) → WJ p l e R s m args below meth c 0 0 (MQ below (gs_Q ad g tyc (some (.int r)) μ2) args s 0 0 (gs_A ad)) ad g tyc 6 40 [.ref 78, .int x1, .int x2, .int x3, .int x4, gs_J] [] μ) {x1 : Int32} {x2 : Int32} {x3 : Int32} {x4 : Int32} {μ : gs_M}  (hD : Bo_X12_ballast_40 q40 x1 x2 x3 x4 μ = some (r, μ2)) : WJ p l e R s m args below meth c 0 0 (MQ below (gs_Q ad g tyc (some (.int r)) μ2) args s 0 0 (gs_A ad)) ad g tyc 6 40 [.ref 78, .int x1, .int x2, .int x3, .int x4, gs_J] [] μ := by
  unfold Bo_X12_ballast_40 at hD
  refine r_iload hK d_X12_ballast_40 rfl ?_
  refine r_sipush hK d_X12_ballast_42 cs_901 ?_
  refine r_icmp_gt (tgt := 93) hK d_X12_ballast_45 (by decide) (fun h1 => ?_) (fun h1 => ?_)
  · have hD := if_t hD h1
    refine r_iload_n hK d_X12_ballast_93 rfl rfl ?_
    cases hD
    exact r_iret hK d_X12_ballast_94
  · have hD := if_f hD h1
    refine r_aload_n hK d_X12_ballast_48 rfl rfl ?_
    refine r_iload hK d_X12_ballast_49 rfl ?_
    refine r_iload_n hK d_X12_ballast_51 rfl rfl ?_
    obtain ⟨v4, u3, e2, hD⟩ := bd_e hD
    refine r_callV (As := [.int x4, .int x1]) (st := []) (stk2 := [.int v4]) hK (C_X12_leanBy  e2) d_X12_ballast_52 mf_X12_leanBy ml_RX12_408 im_X12_leanBy rfl se_11_RX12_X12_leanBy kd_78 rfl (Nat.le_of_ble_eq_true rfl) (by decide) ⟨Nat.zero_le _, Nat.zero_le _⟩ rfl rfl ?_
    refine r_istore hK d_X12_ballast_55 (by decide) (ls2 := [.ref 78, .int x1, .int x2, .int x3, .int x4, .int v4]) rfl ?_
    refine r_iload hK d_X12_ballast_57 rfl ?_
    refine r_iload_n hK d_X12_ballast_59 rfl rfl ?_
    refine r_icmp_gt (tgt := 87) hK d_X12_ballast_60 (by decide) (fun h5 => ?_) (fun h5 => ?_)
    · have hD := if_t hD h5
      refine r_iinc hK d_X12_ballast_87 rfl (v := x4 + (100 : Int32)) (by rw [ci_100]) (by decide) (ls2 := [.ref 78, .int x1, .int x2, .int x3, .int (x4 + (100 : Int32)), .int v4]) rfl ?_
      refine r_goto (tgt := 40) hK d_X12_ballast_90 (by decide) ?_
      refine r_junk [true, true, true, true, true, false] (ls2 := [.ref 78, .int x1, .int x2, .int x3, .int (x4 + (100 : Int32)), gs_J]) rfl ?_
      exact hq40 _ _ _ _ _  hD
    · have hD := if_f hD h5
      refine r_iload hK d_X12_ballast_63 rfl ?_
      refine r_iload_n hK d_X12_ballast_65 rfl rfl ?_
      refine r_icmp_ne (tgt := 81) hK d_X12_ballast_66 (by decide) (fun h6 => ?_) (fun h6 => ?_)
      · have hD := if_f hD h6
        refine r_junk [true, true, false, false, true, true] (ls2 := [.ref 78, .int x1, gs_J, gs_J, .int x4, .int v4]) rfl ?_
        exact T_X12_ballast_81 hK hq40  hD
      · have hD := if_t hD h6
        refine r_iload hK d_X12_ballast_69 rfl ?_
        refine r_iload_n hK d_X12_ballast_71 rfl rfl ?_
        obtain ⟨v9, u8, e7, hD⟩ := bd_e hD
        refine r_callS (As := [.int x4, .int x2]) (st := []) (stk2 := [.int v9]) hK (C_X12_isNearer  e7) d_X12_ballast_72 mf_X12_isNearer ml_RX12_411 ss_X12_isNearer rfl (Nat.le_of_ble_eq_true rfl) (by decide) ⟨Nat.zero_le _, Nat.zero_le _⟩ rfl rfl ?_
        refine r_if_ne (tgt := 81) hK d_X12_ballast_75 (by decide) (fun h10 => ?_) (fun h10 => ?_)
        · have hD := if_f hD h10
          refine r_junk [true, true, false, false, true, true] (ls2 := [.ref 78, .int x1, gs_J, gs_J, .int x4, .int v4]) rfl ?_
          exact T_X12_ballast_81 hK hq40  hD
        · have hD := if_t hD h10
          refine r_goto (tgt := 87) hK d_X12_ballast_78 (by decide) ?_
          refine r_iinc hK d_X12_ballast_87 rfl (v := x4 + (100 : Int32)) (by rw [ci_100]) (by decide) (ls2 := [.ref 78, .int x1, .int x2, .int x3, .int (x4 + (100 : Int32)), .int v4]) rfl ?_
          refine r_goto (tgt := 40) hK d_X12_ballast_90 (by decide) ?_
          refine r_junk [true, true, true, true, true, false] (ls2 := [.ref 78, .int x1, .int x2, .int x3, .int (x4 + (100 : Int32)), gs_J]) rfl ?_
          exact hq40 _ _ _ _ _  hD
set_option maxRecDepth 20000 in
theorem TL_X12_ballast_40  (hK : KC p R s m args meth c ad g tyc RX12 cX12_ballast 6 (some .int) 7) {r : Int32} {μ2 : gs_M}   : ∀ (n : Nat) (x1 : Int32) (x2 : Int32) (x3 : Int32) (x4 : Int32) (μ : gs_M), L_X12_ballast_40  n x1 x2 x3 x4 μ = some (r, μ2) → WJ p l e R s m args below meth c 0 0 (MQ below (gs_Q ad g tyc (some (.int r)) μ2) args s 0 0 (gs_A ad)) ad g tyc 6 40 [.ref 78, .int x1, .int x2, .int x3, .int x4, gs_J] [] μ := by
  intro n
  induction n with
  | zero => intro x1 x2 x3 x4 μ  hD; cases hD
  | succ n ih => intro x1 x2 x3 x4 μ  hD; exact To_X12_ballast_40 hK  ih  hD
set_option maxRecDepth 20000 in
theorem C_X12_ballast  {x1 : Int32} {μ : gs_M} {r : Int32} {μ2 : gs_M}  (hD : D_X12_ballast x1 μ = some (r, μ2)) : CALL yX12_ballast cX12_ballast 6 (some .int) 7 [.ref 78, .int x1] μ (some (.int r)) μ2 := by
  unfold D_X12_ballast at hD
  refine gs_enter mf_X12_ballast (Nat.le_of_ble_eq_true rfl) (ls := [.ref 78, .int x1, gs_J, gs_J, gs_J, gs_J]) rfl (fun p l e R s m args below meth c ad g tyc hK => ?_)
  have hK : KC p R s m args meth c ad g tyc RX12 cX12_ballast 6 (some .int) 7 := hK
  refine r_aload_n hK d_X12_ballast_0 rfl rfl ?_
  refine r_iconst hK d_X12_ballast_1 ci_0 ?_
  refine r_putI hK d_X12_ballast_2 fl_RX12_98_11 rfl rfl kd_78 ?_
  refine r_ltm hD (fun u1 hD => ?_)
  refine r_aload_n hK d_X12_ballast_5 rfl rfl ?_
  obtain ⟨v4, u3, e2, hD⟩ := bd_e hD
  refine r_callV (As := []) (st := []) (stk2 := [.int v4]) hK (C_X12_isAfloat  e2) d_X12_ballast_6 mf_X12_isAfloat ml_RX12_373 im_X12_isAfloat rfl se_11_RX12_X12_isAfloat kd_78 rfl (Nat.le_of_ble_eq_true rfl) (by decide) ⟨Nat.zero_le _, Nat.zero_le _⟩ rfl rfl ?_
  refine r_if_eq (tgt := 22) hK d_X12_ballast_9 (by decide) (fun h5 => ?_) (fun h5 => ?_)
  · have hD := if_t hD h5
    refine r_ldcw hK d_X12_ballast_22 kc_RX12_394 ?_
    cases hD
    exact r_iret hK d_X12_ballast_25
  · have hD := if_f hD h5
    refine r_iload_n hK d_X12_ballast_12 rfl rfl ?_
    refine r_iconst hK d_X12_ballast_13 ci_0 ?_
    refine r_bipush hK d_X12_ballast_14 cb_40 ?_
    obtain ⟨v8, u7, e6, hD⟩ := bd_e hD
    refine r_callS (As := [.int x1, .int (0 : Int32), .int (40 : Int32)]) (st := []) (stk2 := [.int v8]) hK (C_X12_isIn  e6) d_X12_ballast_16 mf_X12_isIn ml_RX12_217 ss_X12_isIn rfl (Nat.le_of_ble_eq_true rfl) (by decide) ⟨Nat.zero_le _, Nat.zero_le _⟩ rfl rfl ?_
    refine r_if_ne (tgt := 26) hK d_X12_ballast_19 (by decide) (fun h9 => ?_) (fun h9 => ?_)
    · have hD := if_f hD h9
      refine r_iconst hK d_X12_ballast_26 ci_0 ?_
      refine r_istore_n hK d_X12_ballast_27 rfl (by decide) (ls2 := [.ref 78, .int x1, .int (0 : Int32), gs_J, gs_J, gs_J]) rfl ?_
      refine r_aload_n hK d_X12_ballast_28 rfl rfl ?_
      refine r_iconst hK d_X12_ballast_29 ci_0 ?_
      refine r_iload_n hK d_X12_ballast_30 rfl rfl ?_
      obtain ⟨v12, u11, e10, hD⟩ := bd_e hD
      refine r_callV (As := [.int (0 : Int32), .int x1]) (st := []) (stk2 := [.int v12]) hK (C_X12_leanBy  e10) d_X12_ballast_31 mf_X12_leanBy ml_RX12_408 im_X12_leanBy rfl se_11_RX12_X12_leanBy kd_78 rfl (Nat.le_of_ble_eq_true rfl) (by decide) ⟨Nat.zero_le _, Nat.zero_le _⟩ rfl rfl ?_
      refine r_istore_n hK d_X12_ballast_34 rfl (by decide) (ls2 := [.ref 78, .int x1, .int (0 : Int32), .int v12, gs_J, gs_J]) rfl ?_
      refine r_sipush hK d_X12_ballast_35 cs_m999 ?_
      refine r_istore hK d_X12_ballast_38 (by decide) (ls2 := [.ref 78, .int x1, .int (0 : Int32), .int v12, .int (-999 : Int32), gs_J]) rfl ?_
      exact TL_X12_ballast_40 hK  _ _ _ _ _ _  hD
    · have hD := if_t hD h9
      refine r_ldcw hK d_X12_ballast_22 kc_RX12_394 ?_
      cases hD
      exact r_iret hK d_X12_ballast_25
end S_X12_ballast
theorem d_X12_course_0 : gd cX12_course 0 (.aload_n 0) 1 1 := ⟨by decide +kernel, rfl⟩
theorem d_X12_course_1 : gd cX12_course 1 (.iconst 0) 1 2 := ⟨by decide +kernel, rfl⟩
theorem d_X12_course_2 : gd cX12_course 2 (.putfield 98) 3 5 := ⟨by decide +kernel, rfl⟩
theorem d_X12_course_5 : gd cX12_course 5 (.aload_n 0) 1 6 := ⟨by decide +kernel, rfl⟩
theorem d_X12_course_6 : gd cX12_course 6 (.getfield 414) 3 9 := ⟨by decide +kernel, rfl⟩
theorem d_X12_course_9 : gd cX12_course 9 (.bipush 6) 2 11 := ⟨by decide +kernel, rfl⟩
theorem d_X12_course_11 : gd cX12_course 11 (.if_icmp .eq 23) 3 14 := ⟨by decide +kernel, rfl⟩
theorem d_X12_course_14 : gd cX12_course 14 (.iload_n 1) 1 15 := ⟨by decide +kernel, rfl⟩
theorem d_X12_course_15 : gd cX12_course 15 (.iconst 0) 1 16 := ⟨by decide +kernel, rfl⟩
theorem d_X12_course_16 : gd cX12_course 16 (.bipush 30) 2 18 := ⟨by decide +kernel, rfl⟩
theorem d_X12_course_18 : gd cX12_course 18 (.invokestatic 217) 3 21 := ⟨by decide +kernel, rfl⟩
theorem d_X12_course_21 : gd cX12_course 21 (.ifCond .eq 13) 3 24 := ⟨by decide +kernel, rfl⟩
theorem d_X12_course_24 : gd cX12_course 24 (.iload_n 2) 1 25 := ⟨by decide +kernel, rfl⟩
theorem d_X12_course_25 : gd cX12_course 25 (.iconst 1) 1 26 := ⟨by decide +kernel, rfl⟩
theorem d_X12_course_26 : gd cX12_course 26 (.bipush 9) 2 28 := ⟨by decide +kernel, rfl⟩
theorem d_X12_course_28 : gd cX12_course 28 (.invokestatic 217) 3 31 := ⟨by decide +kernel, rfl⟩
theorem d_X12_course_31 : gd cX12_course 31 (.ifCond .ne 5) 3 34 := ⟨by decide +kernel, rfl⟩
theorem d_X12_course_34 : gd cX12_course 34 (.iconst (-1)) 1 35 := ⟨by decide +kernel, rfl⟩
theorem d_X12_course_35 : gd cX12_course 35 .ireturn 1 36 := ⟨by decide +kernel, rfl⟩
theorem d_X12_course_36 : gd cX12_course 36 (.aload_n 0) 1 37 := ⟨by decide +kernel, rfl⟩
theorem d_X12_course_37 : gd cX12_course 37 (.getfield 80) 3 40 := ⟨by decide +kernel, rfl⟩
theorem d_X12_course_40 : gd cX12_course 40 (.aload_n 0) 1 41 := ⟨by decide +kernel, rfl⟩
theorem d_X12_course_41 : gd cX12_course 41 (.getfield 414) 3 44 := ⟨by decide +kernel, rfl⟩
theorem d_X12_course_44 : gd cX12_course 44 (.iload_n 1) 1 45 := ⟨by decide +kernel, rfl⟩
theorem d_X12_course_45 : gd cX12_course 45 .iastore 1 46 := ⟨by decide +kernel, rfl⟩
theorem d_X12_course_46 : gd cX12_course 46 (.aload_n 0) 1 47 := ⟨by decide +kernel, rfl⟩
theorem d_X12_course_47 : gd cX12_course 47 (.getfield 83) 3 50 := ⟨by decide +kernel, rfl⟩
theorem d_X12_course_50 : gd cX12_course 50 (.aload_n 0) 1 51 := ⟨by decide +kernel, rfl⟩
theorem d_X12_course_51 : gd cX12_course 51 (.getfield 414) 3 54 := ⟨by decide +kernel, rfl⟩
theorem d_X12_course_54 : gd cX12_course 54 (.iload_n 2) 1 55 := ⟨by decide +kernel, rfl⟩
theorem d_X12_course_55 : gd cX12_course 55 .iastore 1 56 := ⟨by decide +kernel, rfl⟩
theorem d_X12_course_56 : gd cX12_course 56 (.aload_n 0) 1 57 := ⟨by decide +kernel, rfl⟩
theorem d_X12_course_57 : gd cX12_course 57 .dup 1 58 := ⟨by decide +kernel, rfl⟩
theorem d_X12_course_58 : gd cX12_course 58 (.getfield 414) 3 61 := ⟨by decide +kernel, rfl⟩
theorem d_X12_course_61 : gd cX12_course 61 (.iconst 1) 1 62 := ⟨by decide +kernel, rfl⟩
theorem d_X12_course_62 : gd cX12_course 62 .iadd 1 63 := ⟨by decide +kernel, rfl⟩
theorem d_X12_course_63 : gd cX12_course 63 (.putfield 414) 3 66 := ⟨by decide +kernel, rfl⟩
theorem d_X12_course_66 : gd cX12_course 66 (.aload_n 0) 1 67 := ⟨by decide +kernel, rfl⟩
theorem d_X12_course_67 : gd cX12_course 67 (.getfield 414) 3 70 := ⟨by decide +kernel, rfl⟩
theorem d_X12_course_70 : gd cX12_course 70 (.iconst 1) 1 71 := ⟨by decide +kernel, rfl⟩
theorem d_X12_course_71 : gd cX12_course 71 .isub 1 72 := ⟨by decide +kernel, rfl⟩
theorem d_X12_course_72 : gd cX12_course 72 .ireturn 1 73 := ⟨by decide +kernel, rfl⟩
def D_X12_course (x1 : Int32) (x2 : Int32) (μ : gs_M) : Option (Int32 × gs_M) :=
  lt1 (sI μ 78 0 (0 : Int32)) (fun u1 => if (gI u1 78 41) = (6 : Int32) then (some ((-1 : Int32), u1)) else (bd (D_X12_isIn x1 (0 : Int32) (30 : Int32) u1) (fun v5 u4 => if v5 = 0 then (some ((-1 : Int32), u4)) else (bd (D_X12_isIn x2 (1 : Int32) (9 : Int32) u4) (fun v9 u8 => if v9 = 0 then (some ((-1 : Int32), u8)) else (ck (inb (gI u8 78 41) 6) (lt1 (sI u8 92 (Int32.toNatClampNeg (gI u8 78 41)) x1) (fun u12 => ck (inb (gI u12 78 41) 6) (lt1 (sI u12 93 (Int32.toNatClampNeg (gI u12 78 41)) x2) (fun u14 => lt1 (sI u14 78 41 ((gI u14 78 41) + (1 : Int32))) (fun u15 => some ((gI u15 78 41) - (1 : Int32), u15))))))))))))
section S_X12_course
variable {p : Program} {l : Launch} {e : Env} {R : Room} {s : State} {m : MethodId} {args : Array Value} {below : List Frame} {meth : Method} {c : Code} {ad : Nat → Nat} {g : va_G} {tyc : Nat → ClassId}
set_option maxRecDepth 20000 in
theorem C_X12_course  {x1 : Int32} {x2 : Int32} {μ : gs_M} {r : Int32} {μ2 : gs_M}  (hD : D_X12_course x1 x2 μ = some (r, μ2)) : CALL yX12_course cX12_course 3 (some .int) 1 [.ref 78, .int x1, .int x2] μ (some (.int r)) μ2 := by
  unfold D_X12_course at hD
  refine gs_enter mf_X12_course (Nat.le_of_ble_eq_true rfl) (ls := [.ref 78, .int x1, .int x2]) rfl (fun p l e R s m args below meth c ad g tyc hK => ?_)
  have hK : KC p R s m args meth c ad g tyc RX12 cX12_course 3 (some .int) 1 := hK
  refine r_aload_n hK d_X12_course_0 rfl rfl ?_
  refine r_iconst hK d_X12_course_1 ci_0 ?_
  refine r_putI hK d_X12_course_2 fl_RX12_98_11 rfl rfl kd_78 ?_
  refine r_ltm hD (fun u1 hD => ?_)
  refine r_aload_n hK d_X12_course_5 rfl rfl ?_
  refine r_getI hK d_X12_course_6 fl_RX12_414_11 rfl kd_78 ?_
  refine r_bipush hK d_X12_course_9 cb_6 ?_
  refine r_icmp_eq (tgt := 34) hK d_X12_course_11 (by decide) (fun h2 => ?_) (fun h2 => ?_)
  · have hD := if_t hD h2
    refine r_iconst hK d_X12_course_34 ci_m1 ?_
    cases hD
    exact r_iret hK d_X12_course_35
  · have hD := if_f hD h2
    refine r_iload_n hK d_X12_course_14 rfl rfl ?_
    refine r_iconst hK d_X12_course_15 ci_0 ?_
    refine r_bipush hK d_X12_course_16 cb_30 ?_
    obtain ⟨v5, u4, e3, hD⟩ := bd_e hD
    refine r_callS (As := [.int x1, .int (0 : Int32), .int (30 : Int32)]) (st := []) (stk2 := [.int v5]) hK (C_X12_isIn  e3) d_X12_course_18 mf_X12_isIn ml_RX12_217 ss_X12_isIn rfl (Nat.le_of_ble_eq_true rfl) (by decide) ⟨Nat.zero_le _, Nat.zero_le _⟩ rfl rfl ?_
    refine r_if_eq (tgt := 34) hK d_X12_course_21 (by decide) (fun h6 => ?_) (fun h6 => ?_)
    · have hD := if_t hD h6
      refine r_iconst hK d_X12_course_34 ci_m1 ?_
      cases hD
      exact r_iret hK d_X12_course_35
    · have hD := if_f hD h6
      refine r_iload_n hK d_X12_course_24 rfl rfl ?_
      refine r_iconst hK d_X12_course_25 ci_1 ?_
      refine r_bipush hK d_X12_course_26 cb_9 ?_
      obtain ⟨v9, u8, e7, hD⟩ := bd_e hD
      refine r_callS (As := [.int x2, .int (1 : Int32), .int (9 : Int32)]) (st := []) (stk2 := [.int v9]) hK (C_X12_isIn  e7) d_X12_course_28 mf_X12_isIn ml_RX12_217 ss_X12_isIn rfl (Nat.le_of_ble_eq_true rfl) (by decide) ⟨Nat.zero_le _, Nat.zero_le _⟩ rfl rfl ?_
      refine r_if_ne (tgt := 36) hK d_X12_course_31 (by decide) (fun h10 => ?_) (fun h10 => ?_)
      · have hD := if_f hD h10
        refine r_aload_n hK d_X12_course_36 rfl rfl ?_
        refine r_getR hK d_X12_course_37 fl_RX12_80_11 rfl kd_78 ?_
        refine r_ref (b := 92) R0_78_39 ?_
        refine r_aload_n hK d_X12_course_40 rfl rfl ?_
        refine r_getI hK d_X12_course_41 fl_RX12_414_11 rfl kd_78 ?_
        refine r_iload_n hK d_X12_course_44 rfl rfl ?_
        obtain ⟨h11, hD⟩ := ck_e hD
        refine r_iast hK d_X12_course_45 kd_92 ln_92 (inb_in h11) ?_
        refine r_ltm hD (fun u12 hD => ?_)
        refine r_aload_n hK d_X12_course_46 rfl rfl ?_
        refine r_getR hK d_X12_course_47 fl_RX12_83_11 rfl kd_78 ?_
        refine r_ref (b := 93) R0_78_40 ?_
        refine r_aload_n hK d_X12_course_50 rfl rfl ?_
        refine r_getI hK d_X12_course_51 fl_RX12_414_11 rfl kd_78 ?_
        refine r_iload_n hK d_X12_course_54 rfl rfl ?_
        obtain ⟨h13, hD⟩ := ck_e hD
        refine r_iast hK d_X12_course_55 kd_93 ln_93 (inb_in h13) ?_
        refine r_ltm hD (fun u14 hD => ?_)
        refine r_aload_n hK d_X12_course_56 rfl rfl ?_
        refine r_dup hK d_X12_course_57 rfl ?_
        refine r_getI hK d_X12_course_58 fl_RX12_414_11 rfl kd_78 ?_
        refine r_iconst hK d_X12_course_61 ci_1 ?_
        refine r_iadd hK d_X12_course_62 ?_
        refine r_putI hK d_X12_course_63 fl_RX12_414_11 rfl rfl kd_78 ?_
        refine r_ltm hD (fun u15 hD => ?_)
        refine r_aload_n hK d_X12_course_66 rfl rfl ?_
        refine r_getI hK d_X12_course_67 fl_RX12_414_11 rfl kd_78 ?_
        refine r_iconst hK d_X12_course_70 ci_1 ?_
        refine r_isub hK d_X12_course_71 ?_
        cases hD
        exact r_iret hK d_X12_course_72
      · have hD := if_t hD h10
        refine r_iconst hK d_X12_course_34 ci_m1 ?_
        cases hD
        exact r_iret hK d_X12_course_35
end S_X12_course
theorem d_X12_voyage_0 : gd cX12_voyage 0 (.iconst 0) 1 1 := ⟨by decide +kernel, rfl⟩
theorem d_X12_voyage_1 : gd cX12_voyage 1 (.istore_n 3) 1 2 := ⟨by decide +kernel, rfl⟩
theorem d_X12_voyage_2 : gd cX12_voyage 2 (.iload_n 3) 1 3 := ⟨by decide +kernel, rfl⟩
theorem d_X12_voyage_3 : gd cX12_voyage 3 (.iload_n 2) 1 4 := ⟨by decide +kernel, rfl⟩
theorem d_X12_voyage_4 : gd cX12_voyage 4 (.if_icmp .ge 23) 3 7 := ⟨by decide +kernel, rfl⟩
theorem d_X12_voyage_7 : gd cX12_voyage 7 (.aload_n 0) 1 8 := ⟨by decide +kernel, rfl⟩
theorem d_X12_voyage_8 : gd cX12_voyage 8 (.bipush 79) 2 10 := ⟨by decide +kernel, rfl⟩
theorem d_X12_voyage_10 : gd cX12_voyage 10 (.invokevirtual 337) 3 13 := ⟨by decide +kernel, rfl⟩
theorem d_X12_voyage_13 : gd cX12_voyage 13 (.ifCond .ne 14) 3 16 := ⟨by decide +kernel, rfl⟩
theorem d_X12_voyage_16 : gd cX12_voyage 16 (.aload_n 0) 1 17 := ⟨by decide +kernel, rfl⟩
theorem d_X12_voyage_17 : gd cX12_voyage 17 (.iload_n 1) 1 18 := ⟨by decide +kernel, rfl⟩
theorem d_X12_voyage_18 : gd cX12_voyage 18 (.invokevirtual 388) 3 21 := ⟨by decide +kernel, rfl⟩
theorem d_X12_voyage_21 : gd cX12_voyage 21 (.iinc 3 1) 3 24 := ⟨by decide +kernel, rfl⟩
theorem d_X12_voyage_24 : gd cX12_voyage 24 (.goto (-22)) 3 27 := ⟨by decide +kernel, rfl⟩
theorem d_X12_voyage_27 : gd cX12_voyage 27 .return_ 1 28 := ⟨by decide +kernel, rfl⟩
def Bo_X12_voyage_2 (q2 : Int32 → Int32 → Int32 → gs_M → Option (gs_M)) (x1 : Int32) (x2 : Int32) (x3 : Int32) (μ : gs_M) : Option (gs_M) :=
  if x2 ≤ x3 then (some μ) else (bd (D_X12_now (79 : Int32) μ) (fun v4 u3 => if v4 = 0 then (bd0 (D_X12_days x1 u3) (fun u7 => q2 x1 x2 (x3 + (1 : Int32)) u7)) else (some u3)))
def L_X12_voyage_2  : Nat → Int32 → Int32 → Int32 → gs_M → Option (gs_M)
  | 0 => fun _ _ _ _ => none
  | n + 1 => fun x1 x2 x3 μ => Bo_X12_voyage_2  (L_X12_voyage_2  n) x1 x2 x3 μ
def D_X12_voyage (x1 : Int32) (x2 : Int32) (μ : gs_M) : Option (gs_M) :=
  L_X12_voyage_2 4096 x1 x2 (0 : Int32) μ
section S_X12_voyage
variable {p : Program} {l : Launch} {e : Env} {R : Room} {s : State} {m : MethodId} {args : Array Value} {below : List Frame} {meth : Method} {c : Code} {ad : Nat → Nat} {g : va_G} {tyc : Nat → ClassId}
set_option maxRecDepth 20000 in
theorem To_X12_voyage_2  (hK : KC p R s m args meth c ad g tyc RX12 cX12_voyage 4 none 7) {μ2 : gs_M} {q2 : Int32 → Int32 → Int32 → gs_M → Option (gs_M)} (hq2 : ∀ (x1 : Int32) (x2 : Int32) (x3 : Int32) (μ : gs_M), q2 x1 x2 x3 μ = some μ2 → WJ p l e R s m args below meth c 0 0 (MQ below (gs_Q ad g tyc none μ2) args s 0 0 (gs_A ad)) ad g tyc 4 2 [.ref 78, .int x1, .int x2, .int x3] [] μ) {x1 : Int32} {x2 : Int32} {x3 : Int32} {μ : gs_M}  (hD : Bo_X12_voyage_2 q2 x1 x2 x3 μ = some μ2) : WJ p l e R s m args below meth c 0 0 (MQ below (gs_Q ad g tyc none μ2) args s 0 0 (gs_A ad)) ad g tyc 4 2 [.ref 78, .int x1, .int x2, .int x3] [] μ := by
  unfold Bo_X12_voyage_2 at hD
  refine r_iload_n hK d_X12_voyage_2 rfl rfl ?_
  refine r_iload_n hK d_X12_voyage_3 rfl rfl ?_
  refine r_icmp_ge (tgt := 27) hK d_X12_voyage_4 (by decide) (fun h1 => ?_) (fun h1 => ?_)
  · have hD := if_t hD h1
    cases hD
    exact r_vret hK d_X12_voyage_27
  · have hD := if_f hD h1
    refine r_aload_n hK d_X12_voyage_7 rfl rfl ?_
    refine r_bipush hK d_X12_voyage_8 cb_79 ?_
    obtain ⟨v4, u3, e2, hD⟩ := bd_e hD
    refine r_callV (As := [.int (79 : Int32)]) (st := []) (stk2 := [.int v4]) hK (C_X12_now  e2) d_X12_voyage_10 mf_X12_now ml_RX12_337 im_X12_now rfl se_11_RX12_X12_now kd_78 rfl (Nat.le_of_ble_eq_true rfl) (by decide) ⟨Nat.zero_le _, Nat.zero_le _⟩ rfl rfl ?_
    refine r_if_ne (tgt := 27) hK d_X12_voyage_13 (by decide) (fun h5 => ?_) (fun h5 => ?_)
    · have hD := if_f hD h5
      cases hD
      exact r_vret hK d_X12_voyage_27
    · have hD := if_t hD h5
      refine r_aload_n hK d_X12_voyage_16 rfl rfl ?_
      refine r_iload_n hK d_X12_voyage_17 rfl rfl ?_
      obtain ⟨u7, e6, hD⟩ := bd0_e hD
      refine r_callV (As := [.int x1]) (st := []) (stk2 := []) hK (C_X12_days  e6) d_X12_voyage_18 mf_X12_days ml_RX12_388 im_X12_days rfl se_11_RX12_X12_days kd_78 rfl (Nat.le_of_ble_eq_true rfl) (by decide) ⟨Nat.zero_le _, Nat.zero_le _⟩ rfl rfl ?_
      refine r_iinc hK d_X12_voyage_21 rfl (v := x3 + (1 : Int32)) (by rw [ci_1]) (by decide) (ls2 := [.ref 78, .int x1, .int x2, .int (x3 + (1 : Int32))]) rfl ?_
      refine r_goto (tgt := 2) hK d_X12_voyage_24 (by decide) ?_
      exact hq2 _ _ _ _  hD
set_option maxRecDepth 20000 in
theorem TL_X12_voyage_2  (hK : KC p R s m args meth c ad g tyc RX12 cX12_voyage 4 none 7) {μ2 : gs_M}   : ∀ (n : Nat) (x1 : Int32) (x2 : Int32) (x3 : Int32) (μ : gs_M), L_X12_voyage_2  n x1 x2 x3 μ = some μ2 → WJ p l e R s m args below meth c 0 0 (MQ below (gs_Q ad g tyc none μ2) args s 0 0 (gs_A ad)) ad g tyc 4 2 [.ref 78, .int x1, .int x2, .int x3] [] μ := by
  intro n
  induction n with
  | zero => intro x1 x2 x3 μ  hD; cases hD
  | succ n ih => intro x1 x2 x3 μ  hD; exact To_X12_voyage_2 hK  ih  hD
set_option maxRecDepth 20000 in
theorem C_X12_voyage  {x1 : Int32} {x2 : Int32} {μ : gs_M} {μ2 : gs_M}  (hD : D_X12_voyage x1 x2 μ = some μ2) : CALL yX12_voyage cX12_voyage 4 none 7 [.ref 78, .int x1, .int x2] μ none μ2 := by
  unfold D_X12_voyage at hD
  refine gs_enter mf_X12_voyage (Nat.le_of_ble_eq_true rfl) (ls := [.ref 78, .int x1, .int x2, gs_J]) rfl (fun p l e R s m args below meth c ad g tyc hK => ?_)
  have hK : KC p R s m args meth c ad g tyc RX12 cX12_voyage 4 none 7 := hK
  refine r_iconst hK d_X12_voyage_0 ci_0 ?_
  refine r_istore_n hK d_X12_voyage_1 rfl (by decide) (ls2 := [.ref 78, .int x1, .int x2, .int (0 : Int32)]) rfl ?_
  exact TL_X12_voyage_2 hK  _ _ _ _ _  hD
end S_X12_voyage
theorem d_X12_best_0 : gd cX12_best 0 (.aload_n 0) 1 1 := ⟨by decide +kernel, rfl⟩
theorem d_X12_best_1 : gd cX12_best 1 (.iconst 0) 1 2 := ⟨by decide +kernel, rfl⟩
theorem d_X12_best_2 : gd cX12_best 2 (.putfield 98) 3 5 := ⟨by decide +kernel, rfl⟩
theorem d_X12_best_5 : gd cX12_best 5 (.aload_n 0) 1 6 := ⟨by decide +kernel, rfl⟩
theorem d_X12_best_6 : gd cX12_best 6 (.invokevirtual 373) 3 9 := ⟨by decide +kernel, rfl⟩
theorem d_X12_best_9 : gd cX12_best 9 (.ifCond .eq 12) 3 12 := ⟨by decide +kernel, rfl⟩
theorem d_X12_best_12 : gd cX12_best 12 (.iload_n 1) 1 13 := ⟨by decide +kernel, rfl⟩
theorem d_X12_best_13 : gd cX12_best 13 (.iconst 0) 1 14 := ⟨by decide +kernel, rfl⟩
theorem d_X12_best_14 : gd cX12_best 14 (.iconst 1) 1 15 := ⟨by decide +kernel, rfl⟩
theorem d_X12_best_15 : gd cX12_best 15 (.invokestatic 217) 3 18 := ⟨by decide +kernel, rfl⟩
theorem d_X12_best_18 : gd cX12_best 18 (.ifCond .ne 7) 3 21 := ⟨by decide +kernel, rfl⟩
theorem d_X12_best_21 : gd cX12_best 21 (.ldc_w 394) 3 24 := ⟨by decide +kernel, rfl⟩
theorem d_X12_best_24 : gd cX12_best 24 .ireturn 1 25 := ⟨by decide +kernel, rfl⟩
theorem d_X12_best_25 : gd cX12_best 25 (.iconst (-1)) 1 26 := ⟨by decide +kernel, rfl⟩
theorem d_X12_best_26 : gd cX12_best 26 (.istore_n 2) 1 27 := ⟨by decide +kernel, rfl⟩
theorem d_X12_best_27 : gd cX12_best 27 (.iconst 0) 1 28 := ⟨by decide +kernel, rfl⟩
theorem d_X12_best_28 : gd cX12_best 28 (.istore_n 3) 1 29 := ⟨by decide +kernel, rfl⟩
theorem d_X12_best_29 : gd cX12_best 29 (.iconst 0) 1 30 := ⟨by decide +kernel, rfl⟩
theorem d_X12_best_30 : gd cX12_best 30 (.istore 4) 2 32 := ⟨by decide +kernel, rfl⟩
theorem d_X12_best_32 : gd cX12_best 32 (.iload 4) 2 34 := ⟨by decide +kernel, rfl⟩
theorem d_X12_best_34 : gd cX12_best 34 (.aload_n 0) 1 35 := ⟨by decide +kernel, rfl⟩
theorem d_X12_best_35 : gd cX12_best 35 (.getfield 414) 3 38 := ⟨by decide +kernel, rfl⟩
theorem d_X12_best_38 : gd cX12_best 38 (.if_icmp .ge 89) 3 41 := ⟨by decide +kernel, rfl⟩
theorem d_X12_best_41 : gd cX12_best 41 (.aload_n 0) 1 42 := ⟨by decide +kernel, rfl⟩
theorem d_X12_best_42 : gd cX12_best 42 (.invokevirtual 402) 3 45 := ⟨by decide +kernel, rfl⟩
theorem d_X12_best_45 : gd cX12_best 45 (.aload_n 0) 1 46 := ⟨by decide +kernel, rfl⟩
theorem d_X12_best_46 : gd cX12_best 46 (.aload_n 0) 1 47 := ⟨by decide +kernel, rfl⟩
theorem d_X12_best_47 : gd cX12_best 47 (.getfield 80) 3 50 := ⟨by decide +kernel, rfl⟩
theorem d_X12_best_50 : gd cX12_best 50 (.iload 4) 2 52 := ⟨by decide +kernel, rfl⟩
theorem d_X12_best_52 : gd cX12_best 52 .iaload 1 53 := ⟨by decide +kernel, rfl⟩
theorem d_X12_best_53 : gd cX12_best 53 (.aload_n 0) 1 54 := ⟨by decide +kernel, rfl⟩
theorem d_X12_best_54 : gd cX12_best 54 (.getfield 83) 3 57 := ⟨by decide +kernel, rfl⟩
theorem d_X12_best_57 : gd cX12_best 57 (.iload 4) 2 59 := ⟨by decide +kernel, rfl⟩
theorem d_X12_best_59 : gd cX12_best 59 .iaload 1 60 := ⟨by decide +kernel, rfl⟩
theorem d_X12_best_60 : gd cX12_best 60 (.invokevirtual 417) 3 63 := ⟨by decide +kernel, rfl⟩
theorem d_X12_best_63 : gd cX12_best 63 (.aload_n 0) 1 64 := ⟨by decide +kernel, rfl⟩
theorem d_X12_best_64 : gd cX12_best 64 (.bipush 79) 2 66 := ⟨by decide +kernel, rfl⟩
theorem d_X12_best_66 : gd cX12_best 66 (.invokevirtual 337) 3 69 := ⟨by decide +kernel, rfl⟩
theorem d_X12_best_69 : gd cX12_best 69 (.iconst 1) 1 70 := ⟨by decide +kernel, rfl⟩
theorem d_X12_best_70 : gd cX12_best 70 (.if_icmp .ne 7) 3 73 := ⟨by decide +kernel, rfl⟩
theorem d_X12_best_73 : gd cX12_best 73 (.iconst 1) 1 74 := ⟨by decide +kernel, rfl⟩
theorem d_X12_best_74 : gd cX12_best 74 (.goto 4) 3 77 := ⟨by decide +kernel, rfl⟩
theorem d_X12_best_77 : gd cX12_best 77 (.iconst 0) 1 78 := ⟨by decide +kernel, rfl⟩
theorem d_X12_best_78 : gd cX12_best 78 (.istore 5) 2 80 := ⟨by decide +kernel, rfl⟩
theorem d_X12_best_80 : gd cX12_best 80 (.aload_n 0) 1 81 := ⟨by decide +kernel, rfl⟩
theorem d_X12_best_81 : gd cX12_best 81 (.invokevirtual 367) 3 84 := ⟨by decide +kernel, rfl⟩
theorem d_X12_best_84 : gd cX12_best 84 (.istore 6) 2 86 := ⟨by decide +kernel, rfl⟩
theorem d_X12_best_86 : gd cX12_best 86 (.aload_n 0) 1 87 := ⟨by decide +kernel, rfl⟩
theorem d_X12_best_87 : gd cX12_best 87 (.invokevirtual 405) 3 90 := ⟨by decide +kernel, rfl⟩
theorem d_X12_best_90 : gd cX12_best 90 (.iload 5) 2 92 := ⟨by decide +kernel, rfl⟩
theorem d_X12_best_92 : gd cX12_best 92 (.ifCond .ne 29) 3 95 := ⟨by decide +kernel, rfl⟩
theorem d_X12_best_95 : gd cX12_best 95 (.iload_n 2) 1 96 := ⟨by decide +kernel, rfl⟩
theorem d_X12_best_96 : gd cX12_best 96 (.iconst (-1)) 1 97 := ⟨by decide +kernel, rfl⟩
theorem d_X12_best_97 : gd cX12_best 97 (.if_icmp .eq 18) 3 100 := ⟨by decide +kernel, rfl⟩
theorem d_X12_best_100 : gd cX12_best 100 (.iload 6) 2 102 := ⟨by decide +kernel, rfl⟩
theorem d_X12_best_102 : gd cX12_best 102 (.invokestatic 370) 3 105 := ⟨by decide +kernel, rfl⟩
theorem d_X12_best_105 : gd cX12_best 105 (.iload_n 3) 1 106 := ⟨by decide +kernel, rfl⟩
theorem d_X12_best_106 : gd cX12_best 106 (.invokestatic 370) 3 109 := ⟨by decide +kernel, rfl⟩
theorem d_X12_best_109 : gd cX12_best 109 (.if_icmp .lt 6) 3 112 := ⟨by decide +kernel, rfl⟩
theorem d_X12_best_112 : gd cX12_best 112 (.goto 9) 3 115 := ⟨by decide +kernel, rfl⟩
theorem d_X12_best_115 : gd cX12_best 115 (.iload 4) 2 117 := ⟨by decide +kernel, rfl⟩
theorem d_X12_best_117 : gd cX12_best 117 (.istore_n 2) 1 118 := ⟨by decide +kernel, rfl⟩
theorem d_X12_best_118 : gd cX12_best 118 (.iload 6) 2 120 := ⟨by decide +kernel, rfl⟩
theorem d_X12_best_120 : gd cX12_best 120 (.istore_n 3) 1 121 := ⟨by decide +kernel, rfl⟩
theorem d_X12_best_121 : gd cX12_best 121 (.iinc 4 1) 3 124 := ⟨by decide +kernel, rfl⟩
theorem d_X12_best_124 : gd cX12_best 124 (.goto (-92)) 3 127 := ⟨by decide +kernel, rfl⟩
theorem d_X12_best_127 : gd cX12_best 127 (.iload_n 2) 1 128 := ⟨by decide +kernel, rfl⟩
theorem d_X12_best_128 : gd cX12_best 128 (.iconst (-1)) 1 129 := ⟨by decide +kernel, rfl⟩
theorem d_X12_best_129 : gd cX12_best 129 (.if_icmp .ne 9) 3 132 := ⟨by decide +kernel, rfl⟩
theorem d_X12_best_132 : gd cX12_best 132 (.ldc_w 394) 3 135 := ⟨by decide +kernel, rfl⟩
theorem d_X12_best_135 : gd cX12_best 135 (.goto 12) 3 138 := ⟨by decide +kernel, rfl⟩
theorem d_X12_best_138 : gd cX12_best 138 (.iload_n 1) 1 139 := ⟨by decide +kernel, rfl⟩
theorem d_X12_best_139 : gd cX12_best 139 (.ifCond .ne 7) 3 142 := ⟨by decide +kernel, rfl⟩
theorem d_X12_best_142 : gd cX12_best 142 (.iload_n 2) 1 143 := ⟨by decide +kernel, rfl⟩
theorem d_X12_best_143 : gd cX12_best 143 (.goto 4) 3 146 := ⟨by decide +kernel, rfl⟩
theorem d_X12_best_146 : gd cX12_best 146 (.iload_n 3) 1 147 := ⟨by decide +kernel, rfl⟩
theorem d_X12_best_147 : gd cX12_best 147 .ireturn 1 148 := ⟨by decide +kernel, rfl⟩
def B_X12_best_115 (q32 : Int32 → Int32 → Int32 → Int32 → gs_M → Option (Int32 × gs_M)) (x1 : Int32) (x4 : Int32) (x6 : Int32) (μ : gs_M) : Option (Int32 × gs_M) :=
  q32 x1 x4 x6 (x4 + (1 : Int32)) μ
def B_X12_best_78 (q32 : Int32 → Int32 → Int32 → Int32 → gs_M → Option (Int32 × gs_M)) (x1 : Int32) (x2 : Int32) (x3 : Int32) (x4 : Int32) (xs0 : Int32) (μ : gs_M) : Option (Int32 × gs_M) :=
  bd (D_X12_lean μ) (fun v3 u2 => bd0 (D_X12_putBack u2) (fun u5 => if xs0 = 0 then (if x2 = (-1 : Int32) then (B_X12_best_115 q32 x1 x4 v3 u5) else (lt1 (if 0 ≤ v3 then v3 else 0 - v3) (fun v8 => lt1 (if 0 ≤ x3 then x3 else 0 - x3) (fun v9 => if v8 < v9 then (B_X12_best_115 q32 x1 x4 v3 u5) else (q32 x1 x2 x3 (x4 + (1 : Int32)) u5))))) else (q32 x1 x2 x3 (x4 + (1 : Int32)) u5)))
def Bo_X12_best_32 (q32 : Int32 → Int32 → Int32 → Int32 → gs_M → Option (Int32 × gs_M)) (x1 : Int32) (x2 : Int32) (x3 : Int32) (x4 : Int32) (μ : gs_M) : Option (Int32 × gs_M) :=
  if (gI μ 78 41) ≤ x4 then (if x2 = (-1 : Int32) then (some ((-1000000 : Int32), μ)) else (if x1 = 0 then (some (x2, μ)) else (some (x3, μ)))) else (bd0 (D_X12_keeps μ) (fun u5 => ck (inb x4 6) (ck (inb x4 6) (bd0 (D_X12_voyage (gI u5 92 (Int32.toNatClampNeg x4)) (gI u5 93 (Int32.toNatClampNeg x4)) u5) (fun u9 => bd (D_X12_now (79 : Int32) u9) (fun v12 u11 => if v12 = (1 : Int32) then (B_X12_best_78 q32 x1 x2 x3 x4 (1 : Int32) u11) else (B_X12_best_78 q32 x1 x2 x3 x4 (0 : Int32) u11)))))))
def L_X12_best_32  : Nat → Int32 → Int32 → Int32 → Int32 → gs_M → Option (Int32 × gs_M)
  | 0 => fun _ _ _ _ _ => none
  | n + 1 => fun x1 x2 x3 x4 μ => Bo_X12_best_32  (L_X12_best_32  n) x1 x2 x3 x4 μ
def D_X12_best (x1 : Int32) (μ : gs_M) : Option (Int32 × gs_M) :=
  lt1 (sI μ 78 0 (0 : Int32)) (fun u1 => bd (D_X12_isAfloat u1) (fun v4 u3 => if v4 = 0 then (some ((-1000000 : Int32), u3)) else (bd (D_X12_isIn x1 (0 : Int32) (1 : Int32) u3) (fun v8 u7 => if v8 = 0 then (some ((-1000000 : Int32), u7)) else (L_X12_best_32 4096 x1 (-1 : Int32) (0 : Int32) (0 : Int32) u7)))))
section S_X12_best
variable {p : Program} {l : Launch} {e : Env} {R : Room} {s : State} {m : MethodId} {args : Array Value} {below : List Frame} {meth : Method} {c : Code} {ad : Nat → Nat} {g : va_G} {tyc : Nat → ClassId}
set_option maxRecDepth 20000 in
theorem T_X12_best_115  (hK : KC p R s m args meth c ad g tyc RX12 cX12_best 7 (some .int) 8) {r : Int32} {μ2 : gs_M} {q32 : Int32 → Int32 → Int32 → Int32 → gs_M → Option (Int32 × gs_M)} (hq32 : ∀ (x1 : Int32) (x2 : Int32) (x3 : Int32) (x4 : Int32) (μ : gs_M), q32 x1 x2 x3 x4 μ = some (r, μ2) → WJ p l e R s m args below meth c 0 0 (MQ below (gs_Q ad g tyc (some (.int r)) μ2) args s 0 0 (gs_A ad)) ad g tyc 7 32 [.ref 78, .int x1, .int x2, .int x3, .int x4, gs_J, gs_J] [] μ) {x1 : Int32} {x4 : Int32} {x6 : Int32} {μ : gs_M}  (hD : B_X12_best_115 q32 x1 x4 x6 μ = some (r, μ2)) : WJ p l e R s m args below meth c 0 0 (MQ below (gs_Q ad g tyc (some (.int r)) μ2) args s 0 0 (gs_A ad)) ad g tyc 7 115 [.ref 78, .int x1, gs_J, gs_J, .int x4, gs_J, .int x6] [] μ := by
  unfold B_X12_best_115 at hD
  refine r_iload hK d_X12_best_115 rfl ?_
  refine r_istore_n hK d_X12_best_117 rfl (by decide) (ls2 := [.ref 78, .int x1, .int x4, gs_J, .int x4, gs_J, .int x6]) rfl ?_
  refine r_iload hK d_X12_best_118 rfl ?_
  refine r_istore_n hK d_X12_best_120 rfl (by decide) (ls2 := [.ref 78, .int x1, .int x4, .int x6, .int x4, gs_J, .int x6]) rfl ?_
  refine r_iinc hK d_X12_best_121 rfl (v := x4 + (1 : Int32)) (by rw [ci_1]) (by decide) (ls2 := [.ref 78, .int x1, .int x4, .int x6, .int (x4 + (1 : Int32)), gs_J, .int x6]) rfl ?_
  refine r_goto (tgt := 32) hK d_X12_best_124 (by decide) ?_
  refine r_junk [true, true, true, true, true, false, false] (ls2 := [.ref 78, .int x1, .int x4, .int x6, .int (x4 + (1 : Int32)), gs_J, gs_J]) rfl ?_
  exact hq32 _ _ _ _ _  hD
set_option maxRecDepth 20000 in
theorem T_X12_best_78  (hK : KC p R s m args meth c ad g tyc RX12 cX12_best 7 (some .int) 8) {r : Int32} {μ2 : gs_M} {q32 : Int32 → Int32 → Int32 → Int32 → gs_M → Option (Int32 × gs_M)} (hq32 : ∀ (x1 : Int32) (x2 : Int32) (x3 : Int32) (x4 : Int32) (μ : gs_M), q32 x1 x2 x3 x4 μ = some (r, μ2) → WJ p l e R s m args below meth c 0 0 (MQ below (gs_Q ad g tyc (some (.int r)) μ2) args s 0 0 (gs_A ad)) ad g tyc 7 32 [.ref 78, .int x1, .int x2, .int x3, .int x4, gs_J, gs_J] [] μ) {x1 : Int32} {x2 : Int32} {x3 : Int32} {x4 : Int32} {xs0 : Int32} {μ : gs_M}  (hD : B_X12_best_78 q32 x1 x2 x3 x4 xs0 μ = some (r, μ2)) : WJ p l e R s m args below meth c 0 0 (MQ below (gs_Q ad g tyc (some (.int r)) μ2) args s 0 0 (gs_A ad)) ad g tyc 7 78 [.ref 78, .int x1, .int x2, .int x3, .int x4, gs_J, gs_J] [.int xs0] μ := by
  unfold B_X12_best_78 at hD
  refine r_istore hK d_X12_best_78 (by decide) (ls2 := [.ref 78, .int x1, .int x2, .int x3, .int x4, .int xs0, gs_J]) rfl ?_
  refine r_aload_n hK d_X12_best_80 rfl rfl ?_
  obtain ⟨v3, u2, e1, hD⟩ := bd_e hD
  refine r_callV (As := []) (st := []) (stk2 := [.int v3]) hK (C_X12_lean  e1) d_X12_best_81 mf_X12_lean ml_RX12_367 im_X12_lean rfl se_11_RX12_X12_lean kd_78 rfl (Nat.le_of_ble_eq_true rfl) (by decide) ⟨Nat.zero_le _, Nat.zero_le _⟩ rfl rfl ?_
  refine r_istore hK d_X12_best_84 (by decide) (ls2 := [.ref 78, .int x1, .int x2, .int x3, .int x4, .int xs0, .int v3]) rfl ?_
  refine r_aload_n hK d_X12_best_86 rfl rfl ?_
  obtain ⟨u5, e4, hD⟩ := bd0_e hD
  refine r_callV (As := []) (st := []) (stk2 := []) hK (C_X12_putBack  e4) d_X12_best_87 mf_X12_putBack ml_RX12_405 im_X12_putBack rfl se_11_RX12_X12_putBack kd_78 rfl (Nat.le_of_ble_eq_true rfl) (by decide) ⟨Nat.zero_le _, Nat.zero_le _⟩ rfl rfl ?_
  refine r_iload hK d_X12_best_90 rfl ?_
  refine r_if_ne (tgt := 121) hK d_X12_best_92 (by decide) (fun h6 => ?_) (fun h6 => ?_)
  · have hD := if_f hD h6
    refine r_iinc hK d_X12_best_121 rfl (v := x4 + (1 : Int32)) (by rw [ci_1]) (by decide) (ls2 := [.ref 78, .int x1, .int x2, .int x3, .int (x4 + (1 : Int32)), .int xs0, .int v3]) rfl ?_
    refine r_goto (tgt := 32) hK d_X12_best_124 (by decide) ?_
    refine r_junk [true, true, true, true, true, false, false] (ls2 := [.ref 78, .int x1, .int x2, .int x3, .int (x4 + (1 : Int32)), gs_J, gs_J]) rfl ?_
    exact hq32 _ _ _ _ _  hD
  · have hD := if_t hD h6
    refine r_iload_n hK d_X12_best_95 rfl rfl ?_
    refine r_iconst hK d_X12_best_96 ci_m1 ?_
    refine r_icmp_eq (tgt := 115) hK d_X12_best_97 (by decide) (fun h7 => ?_) (fun h7 => ?_)
    · have hD := if_t hD h7
      refine r_junk [true, true, false, false, true, false, true] (ls2 := [.ref 78, .int x1, gs_J, gs_J, .int x4, gs_J, .int v3]) rfl ?_
      exact T_X12_best_115 hK hq32  hD
    · have hD := if_f hD h7
      refine r_iload hK d_X12_best_100 rfl ?_
      refine r_mabs hK d_X12_best_102 mm_RX12_370 ms_abs mi_0 mc_abs (Nat.le_of_ble_eq_true rfl) (by decide) ⟨Nat.zero_le _, Nat.zero_le _⟩ ?_
      refine r_lti hD (fun v8 hD => ?_)
      refine r_iload_n hK d_X12_best_105 rfl rfl ?_
      refine r_mabs hK d_X12_best_106 mm_RX12_370 ms_abs mi_0 mc_abs (Nat.le_of_ble_eq_true rfl) (by decide) ⟨Nat.zero_le _, Nat.zero_le _⟩ ?_
      refine r_lti hD (fun v9 hD => ?_)
      refine r_icmp_lt (tgt := 115) hK d_X12_best_109 (by decide) (fun h10 => ?_) (fun h10 => ?_)
      · have hD := if_t hD h10
        refine r_junk [true, true, false, false, true, false, true] (ls2 := [.ref 78, .int x1, gs_J, gs_J, .int x4, gs_J, .int v3]) rfl ?_
        exact T_X12_best_115 hK hq32  hD
      · have hD := if_f hD h10
        refine r_goto (tgt := 121) hK d_X12_best_112 (by decide) ?_
        refine r_iinc hK d_X12_best_121 rfl (v := x4 + (1 : Int32)) (by rw [ci_1]) (by decide) (ls2 := [.ref 78, .int x1, .int x2, .int x3, .int (x4 + (1 : Int32)), .int xs0, .int v3]) rfl ?_
        refine r_goto (tgt := 32) hK d_X12_best_124 (by decide) ?_
        refine r_junk [true, true, true, true, true, false, false] (ls2 := [.ref 78, .int x1, .int x2, .int x3, .int (x4 + (1 : Int32)), gs_J, gs_J]) rfl ?_
        exact hq32 _ _ _ _ _  hD
set_option maxRecDepth 20000 in
theorem To_X12_best_32  (hK : KC p R s m args meth c ad g tyc RX12 cX12_best 7 (some .int) 8) {r : Int32} {μ2 : gs_M} {q32 : Int32 → Int32 → Int32 → Int32 → gs_M → Option (Int32 × gs_M)} (hq32 : ∀ (x1 : Int32) (x2 : Int32) (x3 : Int32) (x4 : Int32) (μ : gs_M), q32 x1 x2 x3 x4 μ = some (r, μ2) → WJ p l e R s m args below meth c 0 0 (MQ below (gs_Q ad g tyc (some (.int r)) μ2) args s 0 0 (gs_A ad)) ad g tyc 7 32 [.ref 78, .int x1, .int x2, .int x3, .int x4, gs_J, gs_J] [] μ) {x1 : Int32} {x2 : Int32} {x3 : Int32} {x4 : Int32} {μ : gs_M}  (hD : Bo_X12_best_32 q32 x1 x2 x3 x4 μ = some (r, μ2)) : WJ p l e R s m args below meth c 0 0 (MQ below (gs_Q ad g tyc (some (.int r)) μ2) args s 0 0 (gs_A ad)) ad g tyc 7 32 [.ref 78, .int x1, .int x2, .int x3, .int x4, gs_J, gs_J] [] μ := by
  unfold Bo_X12_best_32 at hD
  refine r_iload hK d_X12_best_32 rfl ?_
  refine r_aload_n hK d_X12_best_34 rfl rfl ?_
  refine r_getI hK d_X12_best_35 fl_RX12_414_11 rfl kd_78 ?_
  refine r_icmp_ge (tgt := 127) hK d_X12_best_38 (by decide) (fun h1 => ?_) (fun h1 => ?_)
  · have hD := if_t hD h1
    refine r_iload_n hK d_X12_best_127 rfl rfl ?_
    refine r_iconst hK d_X12_best_128 ci_m1 ?_
    refine r_icmp_ne (tgt := 138) hK d_X12_best_129 (by decide) (fun h2 => ?_) (fun h2 => ?_)
    · have hD := if_f hD h2
      refine r_iload_n hK d_X12_best_138 rfl rfl ?_
      refine r_if_ne (tgt := 146) hK d_X12_best_139 (by decide) (fun h3 => ?_) (fun h3 => ?_)
      · have hD := if_f hD h3
        refine r_iload_n hK d_X12_best_146 rfl rfl ?_
        cases hD
        exact r_iret hK d_X12_best_147
      · have hD := if_t hD h3
        refine r_iload_n hK d_X12_best_142 rfl rfl ?_
        refine r_goto (tgt := 147) hK d_X12_best_143 (by decide) ?_
        cases hD
        exact r_iret hK d_X12_best_147
    · have hD := if_t hD h2
      refine r_ldcw hK d_X12_best_132 kc_RX12_394 ?_
      refine r_goto (tgt := 147) hK d_X12_best_135 (by decide) ?_
      cases hD
      exact r_iret hK d_X12_best_147
  · have hD := if_f hD h1
    refine r_aload_n hK d_X12_best_41 rfl rfl ?_
    obtain ⟨u5, e4, hD⟩ := bd0_e hD
    refine r_callV (As := []) (st := []) (stk2 := []) hK (C_X12_keeps  e4) d_X12_best_42 mf_X12_keeps ml_RX12_402 im_X12_keeps rfl se_11_RX12_X12_keeps kd_78 rfl (Nat.le_of_ble_eq_true rfl) (by decide) ⟨Nat.zero_le _, Nat.zero_le _⟩ rfl rfl ?_
    refine r_aload_n hK d_X12_best_45 rfl rfl ?_
    refine r_aload_n hK d_X12_best_46 rfl rfl ?_
    refine r_getR hK d_X12_best_47 fl_RX12_80_11 rfl kd_78 ?_
    refine r_ref (b := 92) R0_78_39 ?_
    refine r_iload hK d_X12_best_50 rfl ?_
    obtain ⟨h6, hD⟩ := ck_e hD
    refine r_iald hK d_X12_best_52 kd_92 ln_92 (inb_in h6) ?_
    refine r_aload_n hK d_X12_best_53 rfl rfl ?_
    refine r_getR hK d_X12_best_54 fl_RX12_83_11 rfl kd_78 ?_
    refine r_ref (b := 93) R0_78_40 ?_
    refine r_iload hK d_X12_best_57 rfl ?_
    obtain ⟨h7, hD⟩ := ck_e hD
    refine r_iald hK d_X12_best_59 kd_93 ln_93 (inb_in h7) ?_
    obtain ⟨u9, e8, hD⟩ := bd0_e hD
    refine r_callV (As := [.int (gI u5 92 (Int32.toNatClampNeg x4)), .int (gI u5 93 (Int32.toNatClampNeg x4))]) (st := []) (stk2 := []) hK (C_X12_voyage  e8) d_X12_best_60 mf_X12_voyage ml_RX12_417 im_X12_voyage rfl se_11_RX12_X12_voyage kd_78 rfl (Nat.le_of_ble_eq_true rfl) (by decide) ⟨Nat.zero_le _, Nat.zero_le _⟩ rfl rfl ?_
    refine r_aload_n hK d_X12_best_63 rfl rfl ?_
    refine r_bipush hK d_X12_best_64 cb_79 ?_
    obtain ⟨v12, u11, e10, hD⟩ := bd_e hD
    refine r_callV (As := [.int (79 : Int32)]) (st := []) (stk2 := [.int v12]) hK (C_X12_now  e10) d_X12_best_66 mf_X12_now ml_RX12_337 im_X12_now rfl se_11_RX12_X12_now kd_78 rfl (Nat.le_of_ble_eq_true rfl) (by decide) ⟨Nat.zero_le _, Nat.zero_le _⟩ rfl rfl ?_
    refine r_iconst hK d_X12_best_69 ci_1 ?_
    refine r_icmp_ne (tgt := 77) hK d_X12_best_70 (by decide) (fun h13 => ?_) (fun h13 => ?_)
    · have hD := if_f hD h13
      refine r_iconst hK d_X12_best_77 ci_0 ?_
      exact T_X12_best_78 hK hq32  hD
    · have hD := if_t hD h13
      refine r_iconst hK d_X12_best_73 ci_1 ?_
      refine r_goto (tgt := 78) hK d_X12_best_74 (by decide) ?_
      exact T_X12_best_78 hK hq32  hD
set_option maxRecDepth 20000 in
theorem TL_X12_best_32  (hK : KC p R s m args meth c ad g tyc RX12 cX12_best 7 (some .int) 8) {r : Int32} {μ2 : gs_M}   : ∀ (n : Nat) (x1 : Int32) (x2 : Int32) (x3 : Int32) (x4 : Int32) (μ : gs_M), L_X12_best_32  n x1 x2 x3 x4 μ = some (r, μ2) → WJ p l e R s m args below meth c 0 0 (MQ below (gs_Q ad g tyc (some (.int r)) μ2) args s 0 0 (gs_A ad)) ad g tyc 7 32 [.ref 78, .int x1, .int x2, .int x3, .int x4, gs_J, gs_J] [] μ := by
  intro n
  induction n with
  | zero => intro x1 x2 x3 x4 μ  hD; cases hD
  | succ n ih => intro x1 x2 x3 x4 μ  hD; exact To_X12_best_32 hK  ih  hD
set_option maxRecDepth 20000 in
theorem C_X12_best  {x1 : Int32} {μ : gs_M} {r : Int32} {μ2 : gs_M}  (hD : D_X12_best x1 μ = some (r, μ2)) : CALL yX12_best cX12_best 7 (some .int) 8 [.ref 78, .int x1] μ (some (.int r)) μ2 := by
  unfold D_X12_best at hD
  refine gs_enter mf_X12_best (Nat.le_of_ble_eq_true rfl) (ls := [.ref 78, .int x1, gs_J, gs_J, gs_J, gs_J, gs_J]) rfl (fun p l e R s m args below meth c ad g tyc hK => ?_)
  have hK : KC p R s m args meth c ad g tyc RX12 cX12_best 7 (some .int) 8 := hK
  refine r_aload_n hK d_X12_best_0 rfl rfl ?_
  refine r_iconst hK d_X12_best_1 ci_0 ?_
  refine r_putI hK d_X12_best_2 fl_RX12_98_11 rfl rfl kd_78 ?_
  refine r_ltm hD (fun u1 hD => ?_)
  refine r_aload_n hK d_X12_best_5 rfl rfl ?_
  obtain ⟨v4, u3, e2, hD⟩ := bd_e hD
  refine r_callV (As := []) (st := []) (stk2 := [.int v4]) hK (C_X12_isAfloat  e2) d_X12_best_6 mf_X12_isAfloat ml_RX12_373 im_X12_isAfloat rfl se_11_RX12_X12_isAfloat kd_78 rfl (Nat.le_of_ble_eq_true rfl) (by decide) ⟨Nat.zero_le _, Nat.zero_le _⟩ rfl rfl ?_
  refine r_if_eq (tgt := 21) hK d_X12_best_9 (by decide) (fun h5 => ?_) (fun h5 => ?_)
  · have hD := if_t hD h5
    refine r_ldcw hK d_X12_best_21 kc_RX12_394 ?_
    cases hD
    exact r_iret hK d_X12_best_24
  · have hD := if_f hD h5
    refine r_iload_n hK d_X12_best_12 rfl rfl ?_
    refine r_iconst hK d_X12_best_13 ci_0 ?_
    refine r_iconst hK d_X12_best_14 ci_1 ?_
    obtain ⟨v8, u7, e6, hD⟩ := bd_e hD
    refine r_callS (As := [.int x1, .int (0 : Int32), .int (1 : Int32)]) (st := []) (stk2 := [.int v8]) hK (C_X12_isIn  e6) d_X12_best_15 mf_X12_isIn ml_RX12_217 ss_X12_isIn rfl (Nat.le_of_ble_eq_true rfl) (by decide) ⟨Nat.zero_le _, Nat.zero_le _⟩ rfl rfl ?_
    refine r_if_ne (tgt := 25) hK d_X12_best_18 (by decide) (fun h9 => ?_) (fun h9 => ?_)
    · have hD := if_f hD h9
      refine r_iconst hK d_X12_best_25 ci_m1 ?_
      refine r_istore_n hK d_X12_best_26 rfl (by decide) (ls2 := [.ref 78, .int x1, .int (-1 : Int32), gs_J, gs_J, gs_J, gs_J]) rfl ?_
      refine r_iconst hK d_X12_best_27 ci_0 ?_
      refine r_istore_n hK d_X12_best_28 rfl (by decide) (ls2 := [.ref 78, .int x1, .int (-1 : Int32), .int (0 : Int32), gs_J, gs_J, gs_J]) rfl ?_
      refine r_iconst hK d_X12_best_29 ci_0 ?_
      refine r_istore hK d_X12_best_30 (by decide) (ls2 := [.ref 78, .int x1, .int (-1 : Int32), .int (0 : Int32), .int (0 : Int32), gs_J, gs_J]) rfl ?_
      exact TL_X12_best_32 hK  _ _ _ _ _ _  hD
    · have hD := if_t hD h9
      refine r_ldcw hK d_X12_best_21 kc_RX12_394 ?_
      cases hD
      exact r_iret hK d_X12_best_24
end S_X12_best
theorem d_X12_costOf_0 : gd cX12_costOf 0 (.iconst 0) 1 1 := ⟨by decide +kernel, rfl⟩
theorem d_X12_costOf_1 : gd cX12_costOf 1 (.istore 6) 2 3 := ⟨by decide +kernel, rfl⟩
theorem d_X12_costOf_3 : gd cX12_costOf 3 (.iconst 0) 1 4 := ⟨by decide +kernel, rfl⟩
theorem d_X12_costOf_4 : gd cX12_costOf 4 (.istore 7) 2 6 := ⟨by decide +kernel, rfl⟩
theorem d_X12_costOf_6 : gd cX12_costOf 6 (.iload 7) 2 8 := ⟨by decide +kernel, rfl⟩
theorem d_X12_costOf_8 : gd cX12_costOf 8 (.aload_n 0) 1 9 := ⟨by decide +kernel, rfl⟩
theorem d_X12_costOf_9 : gd cX12_costOf 9 (.getfield 46) 3 12 := ⟨by decide +kernel, rfl⟩
theorem d_X12_costOf_12 : gd cX12_costOf 12 (.iload_n 1) 1 13 := ⟨by decide +kernel, rfl⟩
theorem d_X12_costOf_13 : gd cX12_costOf 13 .iaload 1 14 := ⟨by decide +kernel, rfl⟩
theorem d_X12_costOf_14 : gd cX12_costOf 14 (.if_icmp .ge 96) 3 17 := ⟨by decide +kernel, rfl⟩
theorem d_X12_costOf_17 : gd cX12_costOf 17 (.iload 6) 2 19 := ⟨by decide +kernel, rfl⟩
theorem d_X12_costOf_19 : gd cX12_costOf 19 (.iconst 3) 1 20 := ⟨by decide +kernel, rfl⟩
theorem d_X12_costOf_20 : gd cX12_costOf 20 (.iload 7) 2 22 := ⟨by decide +kernel, rfl⟩
theorem d_X12_costOf_22 : gd cX12_costOf 22 (.iload_n 3) 1 23 := ⟨by decide +kernel, rfl⟩
theorem d_X12_costOf_23 : gd cX12_costOf 23 (.if_icmp .ne 8) 3 26 := ⟨by decide +kernel, rfl⟩
theorem d_X12_costOf_26 : gd cX12_costOf 26 (.iload 4) 2 28 := ⟨by decide +kernel, rfl⟩
theorem d_X12_costOf_28 : gd cX12_costOf 28 (.goto 11) 3 31 := ⟨by decide +kernel, rfl⟩
theorem d_X12_costOf_31 : gd cX12_costOf 31 (.aload_n 0) 1 32 := ⟨by decide +kernel, rfl⟩
theorem d_X12_costOf_32 : gd cX12_costOf 32 (.iload_n 2) 1 33 := ⟨by decide +kernel, rfl⟩
theorem d_X12_costOf_33 : gd cX12_costOf 33 (.iload 7) 2 35 := ⟨by decide +kernel, rfl⟩
theorem d_X12_costOf_35 : gd cX12_costOf 35 (.iconst 3) 1 36 := ⟨by decide +kernel, rfl⟩
theorem d_X12_costOf_36 : gd cX12_costOf 36 (.invokevirtual 293) 3 39 := ⟨by decide +kernel, rfl⟩
theorem d_X12_costOf_39 : gd cX12_costOf 39 .imul 1 40 := ⟨by decide +kernel, rfl⟩
theorem d_X12_costOf_40 : gd cX12_costOf 40 (.bipush 20) 2 42 := ⟨by decide +kernel, rfl⟩
theorem d_X12_costOf_42 : gd cX12_costOf 42 (.aload_n 0) 1 43 := ⟨by decide +kernel, rfl⟩
theorem d_X12_costOf_43 : gd cX12_costOf 43 (.iload_n 1) 1 44 := ⟨by decide +kernel, rfl⟩
theorem d_X12_costOf_44 : gd cX12_costOf 44 (.iload 7) 2 46 := ⟨by decide +kernel, rfl⟩
theorem d_X12_costOf_46 : gd cX12_costOf 46 (.iconst 0) 1 47 := ⟨by decide +kernel, rfl⟩
theorem d_X12_costOf_47 : gd cX12_costOf 47 (.invokevirtual 286) 3 50 := ⟨by decide +kernel, rfl⟩
theorem d_X12_costOf_50 : gd cX12_costOf 50 .imul 1 51 := ⟨by decide +kernel, rfl⟩
theorem d_X12_costOf_51 : gd cX12_costOf 51 (.iload 7) 2 53 := ⟨by decide +kernel, rfl⟩
theorem d_X12_costOf_53 : gd cX12_costOf 53 (.iload_n 3) 1 54 := ⟨by decide +kernel, rfl⟩
theorem d_X12_costOf_54 : gd cX12_costOf 54 (.if_icmp .ne 8) 3 57 := ⟨by decide +kernel, rfl⟩
theorem d_X12_costOf_57 : gd cX12_costOf 57 (.iload 5) 2 59 := ⟨by decide +kernel, rfl⟩
theorem d_X12_costOf_59 : gd cX12_costOf 59 (.goto 11) 3 62 := ⟨by decide +kernel, rfl⟩
theorem d_X12_costOf_62 : gd cX12_costOf 62 (.aload_n 0) 1 63 := ⟨by decide +kernel, rfl⟩
theorem d_X12_costOf_63 : gd cX12_costOf 63 (.iload_n 2) 1 64 := ⟨by decide +kernel, rfl⟩
theorem d_X12_costOf_64 : gd cX12_costOf 64 (.iload 7) 2 66 := ⟨by decide +kernel, rfl⟩
theorem d_X12_costOf_66 : gd cX12_costOf 66 (.iconst 4) 1 67 := ⟨by decide +kernel, rfl⟩
theorem d_X12_costOf_67 : gd cX12_costOf 67 (.invokevirtual 293) 3 70 := ⟨by decide +kernel, rfl⟩
theorem d_X12_costOf_70 : gd cX12_costOf 70 .imul 1 71 := ⟨by decide +kernel, rfl⟩
theorem d_X12_costOf_71 : gd cX12_costOf 71 .iadd 1 72 := ⟨by decide +kernel, rfl⟩
theorem d_X12_costOf_72 : gd cX12_costOf 72 .iadd 1 73 := ⟨by decide +kernel, rfl⟩
theorem d_X12_costOf_73 : gd cX12_costOf 73 (.istore 6) 2 75 := ⟨by decide +kernel, rfl⟩
theorem d_X12_costOf_75 : gd cX12_costOf 75 (.iload 6) 2 77 := ⟨by decide +kernel, rfl⟩
theorem d_X12_costOf_77 : gd cX12_costOf 77 (.aload_n 0) 1 78 := ⟨by decide +kernel, rfl⟩
theorem d_X12_costOf_78 : gd cX12_costOf 78 (.iload_n 2) 1 79 := ⟨by decide +kernel, rfl⟩
theorem d_X12_costOf_79 : gd cX12_costOf 79 (.iload 7) 2 81 := ⟨by decide +kernel, rfl⟩
theorem d_X12_costOf_81 : gd cX12_costOf 81 (.iconst 2) 1 82 := ⟨by decide +kernel, rfl⟩
theorem d_X12_costOf_82 : gd cX12_costOf 82 (.invokevirtual 293) 3 85 := ⟨by decide +kernel, rfl⟩
theorem d_X12_costOf_85 : gd cX12_costOf 85 (.iconst 1) 1 86 := ⟨by decide +kernel, rfl⟩
theorem d_X12_costOf_86 : gd cX12_costOf 86 (.if_icmp .ne 14) 3 89 := ⟨by decide +kernel, rfl⟩
theorem d_X12_costOf_89 : gd cX12_costOf 89 (.aload_n 0) 1 90 := ⟨by decide +kernel, rfl⟩
theorem d_X12_costOf_90 : gd cX12_costOf 90 (.iload_n 2) 1 91 := ⟨by decide +kernel, rfl⟩
theorem d_X12_costOf_91 : gd cX12_costOf 91 (.iload 7) 2 93 := ⟨by decide +kernel, rfl⟩
theorem d_X12_costOf_93 : gd cX12_costOf 93 (.iconst 1) 1 94 := ⟨by decide +kernel, rfl⟩
theorem d_X12_costOf_94 : gd cX12_costOf 94 (.invokevirtual 293) 3 97 := ⟨by decide +kernel, rfl⟩
theorem d_X12_costOf_97 : gd cX12_costOf 97 (.goto 4) 3 100 := ⟨by decide +kernel, rfl⟩
theorem d_X12_costOf_100 : gd cX12_costOf 100 (.iconst 0) 1 101 := ⟨by decide +kernel, rfl⟩
theorem d_X12_costOf_101 : gd cX12_costOf 101 .iadd 1 102 := ⟨by decide +kernel, rfl⟩
theorem d_X12_costOf_102 : gd cX12_costOf 102 (.istore 6) 2 104 := ⟨by decide +kernel, rfl⟩
theorem d_X12_costOf_104 : gd cX12_costOf 104 (.iinc 7 1) 3 107 := ⟨by decide +kernel, rfl⟩
theorem d_X12_costOf_107 : gd cX12_costOf 107 (.goto (-101)) 3 110 := ⟨by decide +kernel, rfl⟩
theorem d_X12_costOf_110 : gd cX12_costOf 110 (.iload 6) 2 112 := ⟨by decide +kernel, rfl⟩
theorem d_X12_costOf_112 : gd cX12_costOf 112 .ireturn 1 113 := ⟨by decide +kernel, rfl⟩
def B_X12_costOf_70 (q6 : Int32 → Int32 → Int32 → Int32 → Int32 → Int32 → Int32 → gs_M → Option (Int32 × gs_M)) (x1 : Int32) (x2 : Int32) (x3 : Int32) (x4 : Int32) (x5 : Int32) (x7 : Int32) (xs0 : Int32) (xs1 : Int32) (xs2 : Int32) (xs3 : Int32) (μ : gs_M) : Option (Int32 × gs_M) :=
  lt1 (xs0 + (xs1 + (xs2 * xs3))) (fun v1 => bd (D_X12_layingOf x2 x7 (2 : Int32) μ) (fun v4 u3 => if v4 = (1 : Int32) then (bd (D_X12_layingOf x2 x7 (1 : Int32) u3) (fun v9 u8 => lt1 (v1 + v9) (fun v10 => q6 x1 x2 x3 x4 x5 v10 (x7 + (1 : Int32)) u8))) else (lt1 (v1 + (0 : Int32)) (fun v6 => q6 x1 x2 x3 x4 x5 v6 (x7 + (1 : Int32)) u3))))
def B_X12_costOf_39 (q6 : Int32 → Int32 → Int32 → Int32 → Int32 → Int32 → Int32 → gs_M → Option (Int32 × gs_M)) (x1 : Int32) (x2 : Int32) (x3 : Int32) (x4 : Int32) (x5 : Int32) (x7 : Int32) (xs0 : Int32) (xs1 : Int32) (xs2 : Int32) (μ : gs_M) : Option (Int32 × gs_M) :=
  bd (D_X12_holdOf x1 x7 (0 : Int32) μ) (fun v3 u2 => if x7 = x3 then (B_X12_costOf_70 q6 x1 x2 x3 x4 x5 x7 xs0 (xs1 * xs2) ((20 : Int32) * v3) x5 u2) else (bd (D_X12_layingOf x2 x7 (4 : Int32) u2) (fun v7 u6 => B_X12_costOf_70 q6 x1 x2 x3 x4 x5 x7 xs0 (xs1 * xs2) ((20 : Int32) * v3) v7 u6)))
def Bo_X12_costOf_6 (q6 : Int32 → Int32 → Int32 → Int32 → Int32 → Int32 → Int32 → gs_M → Option (Int32 × gs_M)) (x1 : Int32) (x2 : Int32) (x3 : Int32) (x4 : Int32) (x5 : Int32) (x6 : Int32) (x7 : Int32) (μ : gs_M) : Option (Int32 × gs_M) :=
  ck (inb x1 4) (if (gI μ 86 (Int32.toNatClampNeg x1)) ≤ x7 then (some (x6, μ)) else (if x7 = x3 then (B_X12_costOf_39 q6 x1 x2 x3 x4 x5 x7 x6 (3 : Int32) x4 μ) else (bd (D_X12_layingOf x2 x7 (3 : Int32) μ) (fun v6 u5 => B_X12_costOf_39 q6 x1 x2 x3 x4 x5 x7 x6 (3 : Int32) v6 u5))))
def L_X12_costOf_6  : Nat → Int32 → Int32 → Int32 → Int32 → Int32 → Int32 → Int32 → gs_M → Option (Int32 × gs_M)
  | 0 => fun _ _ _ _ _ _ _ _ => none
  | n + 1 => fun x1 x2 x3 x4 x5 x6 x7 μ => Bo_X12_costOf_6  (L_X12_costOf_6  n) x1 x2 x3 x4 x5 x6 x7 μ
def D_X12_costOf (x1 : Int32) (x2 : Int32) (x3 : Int32) (x4 : Int32) (x5 : Int32) (μ : gs_M) : Option (Int32 × gs_M) :=
  L_X12_costOf_6 4096 x1 x2 x3 x4 x5 (0 : Int32) (0 : Int32) μ
section S_X12_costOf
variable {p : Program} {l : Launch} {e : Env} {R : Room} {s : State} {m : MethodId} {args : Array Value} {below : List Frame} {meth : Method} {c : Code} {ad : Nat → Nat} {g : va_G} {tyc : Nat → ClassId}
set_option maxRecDepth 20000 in
theorem T_X12_costOf_70  (hK : KC p R s m args meth c ad g tyc RX12 cX12_costOf 8 (some .int) 1) {r : Int32} {μ2 : gs_M} {q6 : Int32 → Int32 → Int32 → Int32 → Int32 → Int32 → Int32 → gs_M → Option (Int32 × gs_M)} (hq6 : ∀ (x1 : Int32) (x2 : Int32) (x3 : Int32) (x4 : Int32) (x5 : Int32) (x6 : Int32) (x7 : Int32) (μ : gs_M), q6 x1 x2 x3 x4 x5 x6 x7 μ = some (r, μ2) → WJ p l e R s m args below meth c 0 0 (MQ below (gs_Q ad g tyc (some (.int r)) μ2) args s 0 0 (gs_A ad)) ad g tyc 8 6 [.ref 78, .int x1, .int x2, .int x3, .int x4, .int x5, .int x6, .int x7] [] μ) {x1 : Int32} {x2 : Int32} {x3 : Int32} {x4 : Int32} {x5 : Int32} {x7 : Int32} {xs0 : Int32} {xs1 : Int32} {xs2 : Int32} {xs3 : Int32} {μ : gs_M}  (hD : B_X12_costOf_70 q6 x1 x2 x3 x4 x5 x7 xs0 xs1 xs2 xs3 μ = some (r, μ2)) : WJ p l e R s m args below meth c 0 0 (MQ below (gs_Q ad g tyc (some (.int r)) μ2) args s 0 0 (gs_A ad)) ad g tyc 8 70 [.ref 78, .int x1, .int x2, .int x3, .int x4, .int x5, gs_J, .int x7] [.int xs3, .int xs2, .int xs1, .int xs0] μ := by
  unfold B_X12_costOf_70 at hD
  refine r_imul hK d_X12_costOf_70 ?_
  refine r_iadd hK d_X12_costOf_71 ?_
  refine r_iadd hK d_X12_costOf_72 ?_
  refine r_lti hD (fun v1 hD => ?_)
  refine r_istore hK d_X12_costOf_73 (by decide) (ls2 := [.ref 78, .int x1, .int x2, .int x3, .int x4, .int x5, .int v1, .int x7]) rfl ?_
  refine r_iload hK d_X12_costOf_75 rfl ?_
  refine r_aload_n hK d_X12_costOf_77 rfl rfl ?_
  refine r_iload_n hK d_X12_costOf_78 rfl rfl ?_
  refine r_iload hK d_X12_costOf_79 rfl ?_
  refine r_iconst hK d_X12_costOf_81 ci_2 ?_
  obtain ⟨v4, u3, e2, hD⟩ := bd_e hD
  refine r_callV (As := [.int x2, .int x7, .int (2 : Int32)]) (st := [.int v1]) (stk2 := [.int v4, .int v1]) hK (C_X12_layingOf  e2) d_X12_costOf_82 mf_X12_layingOf ml_RX12_293 im_X12_layingOf rfl se_11_RX12_X12_layingOf kd_78 rfl (Nat.le_of_ble_eq_true rfl) (by decide) ⟨Nat.zero_le _, Nat.zero_le _⟩ rfl rfl ?_
  refine r_iconst hK d_X12_costOf_85 ci_1 ?_
  refine r_icmp_ne (tgt := 100) hK d_X12_costOf_86 (by decide) (fun h5 => ?_) (fun h5 => ?_)
  · have hD := if_f hD h5
    refine r_iconst hK d_X12_costOf_100 ci_0 ?_
    refine r_iadd hK d_X12_costOf_101 ?_
    refine r_lti hD (fun v6 hD => ?_)
    refine r_istore hK d_X12_costOf_102 (by decide) (ls2 := [.ref 78, .int x1, .int x2, .int x3, .int x4, .int x5, .int v6, .int x7]) rfl ?_
    refine r_iinc hK d_X12_costOf_104 rfl (v := x7 + (1 : Int32)) (by rw [ci_1]) (by decide) (ls2 := [.ref 78, .int x1, .int x2, .int x3, .int x4, .int x5, .int v6, .int (x7 + (1 : Int32))]) rfl ?_
    refine r_goto (tgt := 6) hK d_X12_costOf_107 (by decide) ?_
    exact hq6 _ _ _ _ _ _ _ _  hD
  · have hD := if_t hD h5
    refine r_aload_n hK d_X12_costOf_89 rfl rfl ?_
    refine r_iload_n hK d_X12_costOf_90 rfl rfl ?_
    refine r_iload hK d_X12_costOf_91 rfl ?_
    refine r_iconst hK d_X12_costOf_93 ci_1 ?_
    obtain ⟨v9, u8, e7, hD⟩ := bd_e hD
    refine r_callV (As := [.int x2, .int x7, .int (1 : Int32)]) (st := [.int v1]) (stk2 := [.int v9, .int v1]) hK (C_X12_layingOf  e7) d_X12_costOf_94 mf_X12_layingOf ml_RX12_293 im_X12_layingOf rfl se_11_RX12_X12_layingOf kd_78 rfl (Nat.le_of_ble_eq_true rfl) (by decide) ⟨Nat.zero_le _, Nat.zero_le _⟩ rfl rfl ?_
    refine r_goto (tgt := 101) hK d_X12_costOf_97 (by decide) ?_
    refine r_iadd hK d_X12_costOf_101 ?_
    refine r_lti hD (fun v10 hD => ?_)
    refine r_istore hK d_X12_costOf_102 (by decide) (ls2 := [.ref 78, .int x1, .int x2, .int x3, .int x4, .int x5, .int v10, .int x7]) rfl ?_
    refine r_iinc hK d_X12_costOf_104 rfl (v := x7 + (1 : Int32)) (by rw [ci_1]) (by decide) (ls2 := [.ref 78, .int x1, .int x2, .int x3, .int x4, .int x5, .int v10, .int (x7 + (1 : Int32))]) rfl ?_
    refine r_goto (tgt := 6) hK d_X12_costOf_107 (by decide) ?_
    exact hq6 _ _ _ _ _ _ _ _  hD
set_option maxRecDepth 20000 in
theorem T_X12_costOf_39  (hK : KC p R s m args meth c ad g tyc RX12 cX12_costOf 8 (some .int) 1) {r : Int32} {μ2 : gs_M} {q6 : Int32 → Int32 → Int32 → Int32 → Int32 → Int32 → Int32 → gs_M → Option (Int32 × gs_M)} (hq6 : ∀ (x1 : Int32) (x2 : Int32) (x3 : Int32) (x4 : Int32) (x5 : Int32) (x6 : Int32) (x7 : Int32) (μ : gs_M), q6 x1 x2 x3 x4 x5 x6 x7 μ = some (r, μ2) → WJ p l e R s m args below meth c 0 0 (MQ below (gs_Q ad g tyc (some (.int r)) μ2) args s 0 0 (gs_A ad)) ad g tyc 8 6 [.ref 78, .int x1, .int x2, .int x3, .int x4, .int x5, .int x6, .int x7] [] μ) {x1 : Int32} {x2 : Int32} {x3 : Int32} {x4 : Int32} {x5 : Int32} {x7 : Int32} {xs0 : Int32} {xs1 : Int32} {xs2 : Int32} {μ : gs_M}  (hD : B_X12_costOf_39 q6 x1 x2 x3 x4 x5 x7 xs0 xs1 xs2 μ = some (r, μ2)) : WJ p l e R s m args below meth c 0 0 (MQ below (gs_Q ad g tyc (some (.int r)) μ2) args s 0 0 (gs_A ad)) ad g tyc 8 39 [.ref 78, .int x1, .int x2, .int x3, .int x4, .int x5, gs_J, .int x7] [.int xs2, .int xs1, .int xs0] μ := by
  unfold B_X12_costOf_39 at hD
  refine r_imul hK d_X12_costOf_39 ?_
  refine r_bipush hK d_X12_costOf_40 cb_20 ?_
  refine r_aload_n hK d_X12_costOf_42 rfl rfl ?_
  refine r_iload_n hK d_X12_costOf_43 rfl rfl ?_
  refine r_iload hK d_X12_costOf_44 rfl ?_
  refine r_iconst hK d_X12_costOf_46 ci_0 ?_
  obtain ⟨v3, u2, e1, hD⟩ := bd_e hD
  refine r_callV (As := [.int x1, .int x7, .int (0 : Int32)]) (st := [.int (20 : Int32), .int (xs1 * xs2), .int xs0]) (stk2 := [.int v3, .int (20 : Int32), .int (xs1 * xs2), .int xs0]) hK (C_X12_holdOf  e1) d_X12_costOf_47 mf_X12_holdOf ml_RX12_286 im_X12_holdOf rfl se_11_RX12_X12_holdOf kd_78 rfl (Nat.le_of_ble_eq_true rfl) (by decide) ⟨Nat.zero_le _, Nat.zero_le _⟩ rfl rfl ?_
  refine r_imul hK d_X12_costOf_50 ?_
  refine r_iload hK d_X12_costOf_51 rfl ?_
  refine r_iload_n hK d_X12_costOf_53 rfl rfl ?_
  refine r_icmp_ne (tgt := 62) hK d_X12_costOf_54 (by decide) (fun h4 => ?_) (fun h4 => ?_)
  · have hD := if_f hD h4
    refine r_aload_n hK d_X12_costOf_62 rfl rfl ?_
    refine r_iload_n hK d_X12_costOf_63 rfl rfl ?_
    refine r_iload hK d_X12_costOf_64 rfl ?_
    refine r_iconst hK d_X12_costOf_66 ci_4 ?_
    obtain ⟨v7, u6, e5, hD⟩ := bd_e hD
    refine r_callV (As := [.int x2, .int x7, .int (4 : Int32)]) (st := [.int ((20 : Int32) * v3), .int (xs1 * xs2), .int xs0]) (stk2 := [.int v7, .int ((20 : Int32) * v3), .int (xs1 * xs2), .int xs0]) hK (C_X12_layingOf  e5) d_X12_costOf_67 mf_X12_layingOf ml_RX12_293 im_X12_layingOf rfl se_11_RX12_X12_layingOf kd_78 rfl (Nat.le_of_ble_eq_true rfl) (by decide) ⟨Nat.zero_le _, Nat.zero_le _⟩ rfl rfl ?_
    exact T_X12_costOf_70 hK hq6  hD
  · have hD := if_t hD h4
    refine r_iload hK d_X12_costOf_57 rfl ?_
    refine r_goto (tgt := 70) hK d_X12_costOf_59 (by decide) ?_
    exact T_X12_costOf_70 hK hq6  hD
set_option maxRecDepth 20000 in
theorem To_X12_costOf_6  (hK : KC p R s m args meth c ad g tyc RX12 cX12_costOf 8 (some .int) 1) {r : Int32} {μ2 : gs_M} {q6 : Int32 → Int32 → Int32 → Int32 → Int32 → Int32 → Int32 → gs_M → Option (Int32 × gs_M)} (hq6 : ∀ (x1 : Int32) (x2 : Int32) (x3 : Int32) (x4 : Int32) (x5 : Int32) (x6 : Int32) (x7 : Int32) (μ : gs_M), q6 x1 x2 x3 x4 x5 x6 x7 μ = some (r, μ2) → WJ p l e R s m args below meth c 0 0 (MQ below (gs_Q ad g tyc (some (.int r)) μ2) args s 0 0 (gs_A ad)) ad g tyc 8 6 [.ref 78, .int x1, .int x2, .int x3, .int x4, .int x5, .int x6, .int x7] [] μ) {x1 : Int32} {x2 : Int32} {x3 : Int32} {x4 : Int32} {x5 : Int32} {x6 : Int32} {x7 : Int32} {μ : gs_M}  (hD : Bo_X12_costOf_6 q6 x1 x2 x3 x4 x5 x6 x7 μ = some (r, μ2)) : WJ p l e R s m args below meth c 0 0 (MQ below (gs_Q ad g tyc (some (.int r)) μ2) args s 0 0 (gs_A ad)) ad g tyc 8 6 [.ref 78, .int x1, .int x2, .int x3, .int x4, .int x5, .int x6, .int x7] [] μ := by
  unfold Bo_X12_costOf_6 at hD
  refine r_iload hK d_X12_costOf_6 rfl ?_
  refine r_aload_n hK d_X12_costOf_8 rfl rfl ?_
  refine r_getR hK d_X12_costOf_9 fl_RX12_46_11 rfl kd_78 ?_
  refine r_ref (b := 86) R0_78_21 ?_
  refine r_iload_n hK d_X12_costOf_12 rfl rfl ?_
  obtain ⟨h1, hD⟩ := ck_e hD
  refine r_iald hK d_X12_costOf_13 kd_86 ln_86 (inb_in h1) ?_
  refine r_icmp_ge (tgt := 110) hK d_X12_costOf_14 (by decide) (fun h2 => ?_) (fun h2 => ?_)
  · have hD := if_t hD h2
    refine r_iload hK d_X12_costOf_110 rfl ?_
    cases hD
    exact r_iret hK d_X12_costOf_112
  · have hD := if_f hD h2
    refine r_iload hK d_X12_costOf_17 rfl ?_
    refine r_iconst hK d_X12_costOf_19 ci_3 ?_
    refine r_iload hK d_X12_costOf_20 rfl ?_
    refine r_iload_n hK d_X12_costOf_22 rfl rfl ?_
    refine r_icmp_ne (tgt := 31) hK d_X12_costOf_23 (by decide) (fun h3 => ?_) (fun h3 => ?_)
    · have hD := if_f hD h3
      refine r_aload_n hK d_X12_costOf_31 rfl rfl ?_
      refine r_iload_n hK d_X12_costOf_32 rfl rfl ?_
      refine r_iload hK d_X12_costOf_33 rfl ?_
      refine r_iconst hK d_X12_costOf_35 ci_3 ?_
      obtain ⟨v6, u5, e4, hD⟩ := bd_e hD
      refine r_callV (As := [.int x2, .int x7, .int (3 : Int32)]) (st := [.int (3 : Int32), .int x6]) (stk2 := [.int v6, .int (3 : Int32), .int x6]) hK (C_X12_layingOf  e4) d_X12_costOf_36 mf_X12_layingOf ml_RX12_293 im_X12_layingOf rfl se_11_RX12_X12_layingOf kd_78 rfl (Nat.le_of_ble_eq_true rfl) (by decide) ⟨Nat.zero_le _, Nat.zero_le _⟩ rfl rfl ?_
      refine r_junk [true, true, true, true, true, true, false, true] (ls2 := [.ref 78, .int x1, .int x2, .int x3, .int x4, .int x5, gs_J, .int x7]) rfl ?_
      exact T_X12_costOf_39 hK hq6  hD
    · have hD := if_t hD h3
      refine r_iload hK d_X12_costOf_26 rfl ?_
      refine r_goto (tgt := 39) hK d_X12_costOf_28 (by decide) ?_
      refine r_junk [true, true, true, true, true, true, false, true] (ls2 := [.ref 78, .int x1, .int x2, .int x3, .int x4, .int x5, gs_J, .int x7]) rfl ?_
      exact T_X12_costOf_39 hK hq6  hD
set_option maxRecDepth 20000 in
theorem TL_X12_costOf_6  (hK : KC p R s m args meth c ad g tyc RX12 cX12_costOf 8 (some .int) 1) {r : Int32} {μ2 : gs_M}   : ∀ (n : Nat) (x1 : Int32) (x2 : Int32) (x3 : Int32) (x4 : Int32) (x5 : Int32) (x6 : Int32) (x7 : Int32) (μ : gs_M), L_X12_costOf_6  n x1 x2 x3 x4 x5 x6 x7 μ = some (r, μ2) → WJ p l e R s m args below meth c 0 0 (MQ below (gs_Q ad g tyc (some (.int r)) μ2) args s 0 0 (gs_A ad)) ad g tyc 8 6 [.ref 78, .int x1, .int x2, .int x3, .int x4, .int x5, .int x6, .int x7] [] μ := by
  intro n
  induction n with
  | zero => intro x1 x2 x3 x4 x5 x6 x7 μ  hD; cases hD
  | succ n ih => intro x1 x2 x3 x4 x5 x6 x7 μ  hD; exact To_X12_costOf_6 hK  ih  hD
set_option maxRecDepth 20000 in
theorem C_X12_costOf  {x1 : Int32} {x2 : Int32} {x3 : Int32} {x4 : Int32} {x5 : Int32} {μ : gs_M} {r : Int32} {μ2 : gs_M}  (hD : D_X12_costOf x1 x2 x3 x4 x5 μ = some (r, μ2)) : CALL yX12_costOf cX12_costOf 8 (some .int) 1 [.ref 78, .int x1, .int x2, .int x3, .int x4, .int x5] μ (some (.int r)) μ2 := by
  unfold D_X12_costOf at hD
  refine gs_enter mf_X12_costOf (Nat.le_of_ble_eq_true rfl) (ls := [.ref 78, .int x1, .int x2, .int x3, .int x4, .int x5, gs_J, gs_J]) rfl (fun p l e R s m args below meth c ad g tyc hK => ?_)
  have hK : KC p R s m args meth c ad g tyc RX12 cX12_costOf 8 (some .int) 1 := hK
  refine r_iconst hK d_X12_costOf_0 ci_0 ?_
  refine r_istore hK d_X12_costOf_1 (by decide) (ls2 := [.ref 78, .int x1, .int x2, .int x3, .int x4, .int x5, .int (0 : Int32), gs_J]) rfl ?_
  refine r_iconst hK d_X12_costOf_3 ci_0 ?_
  refine r_istore hK d_X12_costOf_4 (by decide) (ls2 := [.ref 78, .int x1, .int x2, .int x3, .int x4, .int x5, .int (0 : Int32), .int (0 : Int32)]) rfl ?_
  exact TL_X12_costOf_6 hK  _ _ _ _ _ _ _ _ _  hD
end S_X12_costOf
theorem d_X12_cost_0 : gd cX12_cost 0 (.aload_n 0) 1 1 := ⟨by decide +kernel, rfl⟩
theorem d_X12_cost_1 : gd cX12_cost 1 (.iconst 0) 1 2 := ⟨by decide +kernel, rfl⟩
theorem d_X12_cost_2 : gd cX12_cost 2 (.putfield 98) 3 5 := ⟨by decide +kernel, rfl⟩
theorem d_X12_cost_5 : gd cX12_cost 5 (.aload_n 0) 1 6 := ⟨by decide +kernel, rfl⟩
theorem d_X12_cost_6 : gd cX12_cost 6 (.iload_n 1) 1 7 := ⟨by decide +kernel, rfl⟩
theorem d_X12_cost_7 : gd cX12_cost 7 (.invokevirtual 283) 3 10 := ⟨by decide +kernel, rfl⟩
theorem d_X12_cost_10 : gd cX12_cost 10 (.ifCond .eq 38) 3 13 := ⟨by decide +kernel, rfl⟩
theorem d_X12_cost_13 : gd cX12_cost 13 (.aload_n 0) 1 14 := ⟨by decide +kernel, rfl⟩
theorem d_X12_cost_14 : gd cX12_cost 14 (.iload_n 2) 1 15 := ⟨by decide +kernel, rfl⟩
theorem d_X12_cost_15 : gd cX12_cost 15 (.invokevirtual 290) 3 18 := ⟨by decide +kernel, rfl⟩
theorem d_X12_cost_18 : gd cX12_cost 18 (.ifCond .eq 30) 3 21 := ⟨by decide +kernel, rfl⟩
theorem d_X12_cost_21 : gd cX12_cost 21 (.aload_n 0) 1 22 := ⟨by decide +kernel, rfl⟩
theorem d_X12_cost_22 : gd cX12_cost 22 (.getfield 46) 3 25 := ⟨by decide +kernel, rfl⟩
theorem d_X12_cost_25 : gd cX12_cost 25 (.iload_n 1) 1 26 := ⟨by decide +kernel, rfl⟩
theorem d_X12_cost_26 : gd cX12_cost 26 .iaload 1 27 := ⟨by decide +kernel, rfl⟩
theorem d_X12_cost_27 : gd cX12_cost 27 (.aload_n 0) 1 28 := ⟨by decide +kernel, rfl⟩
theorem d_X12_cost_28 : gd cX12_cost 28 (.getfield 49) 3 31 := ⟨by decide +kernel, rfl⟩
theorem d_X12_cost_31 : gd cX12_cost 31 (.iload_n 2) 1 32 := ⟨by decide +kernel, rfl⟩
theorem d_X12_cost_32 : gd cX12_cost 32 .iaload 1 33 := ⟨by decide +kernel, rfl⟩
theorem d_X12_cost_33 : gd cX12_cost 33 (.if_icmp .ne 15) 3 36 := ⟨by decide +kernel, rfl⟩
theorem d_X12_cost_36 : gd cX12_cost 36 (.aload_n 0) 1 37 := ⟨by decide +kernel, rfl⟩
theorem d_X12_cost_37 : gd cX12_cost 37 (.iload_n 1) 1 38 := ⟨by decide +kernel, rfl⟩
theorem d_X12_cost_38 : gd cX12_cost 38 (.iload_n 2) 1 39 := ⟨by decide +kernel, rfl⟩
theorem d_X12_cost_39 : gd cX12_cost 39 (.iconst (-1)) 1 40 := ⟨by decide +kernel, rfl⟩
theorem d_X12_cost_40 : gd cX12_cost 40 (.iconst 0) 1 41 := ⟨by decide +kernel, rfl⟩
theorem d_X12_cost_41 : gd cX12_cost 41 (.iconst 0) 1 42 := ⟨by decide +kernel, rfl⟩
theorem d_X12_cost_42 : gd cX12_cost 42 (.invokevirtual 420) 3 45 := ⟨by decide +kernel, rfl⟩
theorem d_X12_cost_45 : gd cX12_cost 45 (.goto 4) 3 48 := ⟨by decide +kernel, rfl⟩
theorem d_X12_cost_48 : gd cX12_cost 48 (.iconst (-1)) 1 49 := ⟨by decide +kernel, rfl⟩
theorem d_X12_cost_49 : gd cX12_cost 49 .ireturn 1 50 := ⟨by decide +kernel, rfl⟩
def B_X12_cost_48   (μ : gs_M) : Option (Int32 × gs_M) :=
  some ((-1 : Int32), μ)
def D_X12_cost (x1 : Int32) (x2 : Int32) (μ : gs_M) : Option (Int32 × gs_M) :=
  lt1 (sI μ 78 0 (0 : Int32)) (fun u1 => bd (D_X12_isShip x1 u1) (fun v4 u3 => if v4 = 0 then (B_X12_cost_48 u3) else (bd (D_X12_isPlan x2 u3) (fun v8 u7 => if v8 = 0 then (B_X12_cost_48 u7) else (ck (inb x1 4) (ck (inb x2 7) (if (gI u7 86 (Int32.toNatClampNeg x1)) = (gI u7 87 (Int32.toNatClampNeg x2)) then (bd (D_X12_costOf x1 x2 (-1 : Int32) (0 : Int32) (0 : Int32) u7) (fun v15 u14 => some (v15, u14))) else (B_X12_cost_48 u7))))))))
section S_X12_cost
variable {p : Program} {l : Launch} {e : Env} {R : Room} {s : State} {m : MethodId} {args : Array Value} {below : List Frame} {meth : Method} {c : Code} {ad : Nat → Nat} {g : va_G} {tyc : Nat → ClassId}
set_option maxRecDepth 20000 in
theorem T_X12_cost_48  (hK : KC p R s m args meth c ad g tyc RX12 cX12_cost 3 (some .int) 2) {r : Int32} {μ2 : gs_M}    {μ : gs_M}  (hD : B_X12_cost_48   μ = some (r, μ2)) : WJ p l e R s m args below meth c 0 0 (MQ below (gs_Q ad g tyc (some (.int r)) μ2) args s 0 0 (gs_A ad)) ad g tyc 3 48 [gs_J, gs_J, gs_J] [] μ := by
  unfold B_X12_cost_48 at hD
  refine r_iconst hK d_X12_cost_48 ci_m1 ?_
  cases hD
  exact r_iret hK d_X12_cost_49
set_option maxRecDepth 20000 in
theorem C_X12_cost  {x1 : Int32} {x2 : Int32} {μ : gs_M} {r : Int32} {μ2 : gs_M}  (hD : D_X12_cost x1 x2 μ = some (r, μ2)) : CALL yX12_cost cX12_cost 3 (some .int) 2 [.ref 78, .int x1, .int x2] μ (some (.int r)) μ2 := by
  unfold D_X12_cost at hD
  refine gs_enter mf_X12_cost (Nat.le_of_ble_eq_true rfl) (ls := [.ref 78, .int x1, .int x2]) rfl (fun p l e R s m args below meth c ad g tyc hK => ?_)
  have hK : KC p R s m args meth c ad g tyc RX12 cX12_cost 3 (some .int) 2 := hK
  refine r_aload_n hK d_X12_cost_0 rfl rfl ?_
  refine r_iconst hK d_X12_cost_1 ci_0 ?_
  refine r_putI hK d_X12_cost_2 fl_RX12_98_11 rfl rfl kd_78 ?_
  refine r_ltm hD (fun u1 hD => ?_)
  refine r_aload_n hK d_X12_cost_5 rfl rfl ?_
  refine r_iload_n hK d_X12_cost_6 rfl rfl ?_
  obtain ⟨v4, u3, e2, hD⟩ := bd_e hD
  refine r_callV (As := [.int x1]) (st := []) (stk2 := [.int v4]) hK (C_X12_isShip  e2) d_X12_cost_7 mf_X12_isShip ml_RX12_283 im_X12_isShip rfl se_11_RX12_X12_isShip kd_78 rfl (Nat.le_of_ble_eq_true rfl) (by decide) ⟨Nat.zero_le _, Nat.zero_le _⟩ rfl rfl ?_
  refine r_if_eq (tgt := 48) hK d_X12_cost_10 (by decide) (fun h5 => ?_) (fun h5 => ?_)
  · have hD := if_t hD h5
    refine r_junk [false, false, false] (ls2 := [gs_J, gs_J, gs_J]) rfl ?_
    exact T_X12_cost_48 hK   hD
  · have hD := if_f hD h5
    refine r_aload_n hK d_X12_cost_13 rfl rfl ?_
    refine r_iload_n hK d_X12_cost_14 rfl rfl ?_
    obtain ⟨v8, u7, e6, hD⟩ := bd_e hD
    refine r_callV (As := [.int x2]) (st := []) (stk2 := [.int v8]) hK (C_X12_isPlan  e6) d_X12_cost_15 mf_X12_isPlan ml_RX12_290 im_X12_isPlan rfl se_11_RX12_X12_isPlan kd_78 rfl (Nat.le_of_ble_eq_true rfl) (by decide) ⟨Nat.zero_le _, Nat.zero_le _⟩ rfl rfl ?_
    refine r_if_eq (tgt := 48) hK d_X12_cost_18 (by decide) (fun h9 => ?_) (fun h9 => ?_)
    · have hD := if_t hD h9
      refine r_junk [false, false, false] (ls2 := [gs_J, gs_J, gs_J]) rfl ?_
      exact T_X12_cost_48 hK   hD
    · have hD := if_f hD h9
      refine r_aload_n hK d_X12_cost_21 rfl rfl ?_
      refine r_getR hK d_X12_cost_22 fl_RX12_46_11 rfl kd_78 ?_
      refine r_ref (b := 86) R0_78_21 ?_
      refine r_iload_n hK d_X12_cost_25 rfl rfl ?_
      obtain ⟨h10, hD⟩ := ck_e hD
      refine r_iald hK d_X12_cost_26 kd_86 ln_86 (inb_in h10) ?_
      refine r_aload_n hK d_X12_cost_27 rfl rfl ?_
      refine r_getR hK d_X12_cost_28 fl_RX12_49_11 rfl kd_78 ?_
      refine r_ref (b := 87) R0_78_22 ?_
      refine r_iload_n hK d_X12_cost_31 rfl rfl ?_
      obtain ⟨h11, hD⟩ := ck_e hD
      refine r_iald hK d_X12_cost_32 kd_87 ln_87 (inb_in h11) ?_
      refine r_icmp_ne (tgt := 48) hK d_X12_cost_33 (by decide) (fun h12 => ?_) (fun h12 => ?_)
      · have hD := if_f hD h12
        refine r_junk [false, false, false] (ls2 := [gs_J, gs_J, gs_J]) rfl ?_
        exact T_X12_cost_48 hK   hD
      · have hD := if_t hD h12
        refine r_aload_n hK d_X12_cost_36 rfl rfl ?_
        refine r_iload_n hK d_X12_cost_37 rfl rfl ?_
        refine r_iload_n hK d_X12_cost_38 rfl rfl ?_
        refine r_iconst hK d_X12_cost_39 ci_m1 ?_
        refine r_iconst hK d_X12_cost_40 ci_0 ?_
        refine r_iconst hK d_X12_cost_41 ci_0 ?_
        obtain ⟨v15, u14, e13, hD⟩ := bd_e hD
        refine r_callV (As := [.int x1, .int x2, .int (-1 : Int32), .int (0 : Int32), .int (0 : Int32)]) (st := []) (stk2 := [.int v15]) hK (C_X12_costOf  e13) d_X12_cost_42 mf_X12_costOf ml_RX12_420 im_X12_costOf rfl se_11_RX12_X12_costOf kd_78 rfl (Nat.le_of_ble_eq_true rfl) (by decide) ⟨Nat.zero_le _, Nat.zero_le _⟩ rfl rfl ?_
        refine r_goto (tgt := 49) hK d_X12_cost_45 (by decide) ?_
        cases hD
        exact r_iret hK d_X12_cost_49
end S_X12_cost
theorem d_X12_safeBy_0 : gd cX12_safeBy 0 (.aload_n 0) 1 1 := ⟨by decide +kernel, rfl⟩
theorem d_X12_safeBy_1 : gd cX12_safeBy 1 (.invokevirtual 402) 3 4 := ⟨by decide +kernel, rfl⟩
theorem d_X12_safeBy_4 : gd cX12_safeBy 4 (.iconst 0) 1 5 := ⟨by decide +kernel, rfl⟩
theorem d_X12_safeBy_5 : gd cX12_safeBy 5 (.istore 9) 2 7 := ⟨by decide +kernel, rfl⟩
theorem d_X12_safeBy_7 : gd cX12_safeBy 7 (.iconst 0) 1 8 := ⟨by decide +kernel, rfl⟩
theorem d_X12_safeBy_8 : gd cX12_safeBy 8 (.istore 10) 2 10 := ⟨by decide +kernel, rfl⟩
theorem d_X12_safeBy_10 : gd cX12_safeBy 10 (.iload 10) 2 12 := ⟨by decide +kernel, rfl⟩
theorem d_X12_safeBy_12 : gd cX12_safeBy 12 (.iload 8) 2 14 := ⟨by decide +kernel, rfl⟩
theorem d_X12_safeBy_14 : gd cX12_safeBy 14 (.if_icmp .ge 50) 3 17 := ⟨by decide +kernel, rfl⟩
theorem d_X12_safeBy_17 : gd cX12_safeBy 17 (.aload_n 0) 1 18 := ⟨by decide +kernel, rfl⟩
theorem d_X12_safeBy_18 : gd cX12_safeBy 18 (.iload_n 1) 1 19 := ⟨by decide +kernel, rfl⟩
theorem d_X12_safeBy_19 : gd cX12_safeBy 19 (.iload_n 2) 1 20 := ⟨by decide +kernel, rfl⟩
theorem d_X12_safeBy_20 : gd cX12_safeBy 20 (.iload_n 3) 1 21 := ⟨by decide +kernel, rfl⟩
theorem d_X12_safeBy_21 : gd cX12_safeBy 21 (.iload 4) 2 23 := ⟨by decide +kernel, rfl⟩
theorem d_X12_safeBy_23 : gd cX12_safeBy 23 (.iload 5) 2 25 := ⟨by decide +kernel, rfl⟩
theorem d_X12_safeBy_25 : gd cX12_safeBy 25 (.iload 10) 2 27 := ⟨by decide +kernel, rfl⟩
theorem d_X12_safeBy_27 : gd cX12_safeBy 27 .i2l 1 28 := ⟨by decide +kernel, rfl⟩
theorem d_X12_safeBy_28 : gd cX12_safeBy 28 (.invokevirtual 363) 3 31 := ⟨by decide +kernel, rfl⟩
theorem d_X12_safeBy_31 : gd cX12_safeBy 31 (.aload_n 0) 1 32 := ⟨by decide +kernel, rfl⟩
theorem d_X12_safeBy_32 : gd cX12_safeBy 32 (.iload 6) 2 34 := ⟨by decide +kernel, rfl⟩
theorem d_X12_safeBy_34 : gd cX12_safeBy 34 (.iload 7) 2 36 := ⟨by decide +kernel, rfl⟩
theorem d_X12_safeBy_36 : gd cX12_safeBy 36 (.invokevirtual 417) 3 39 := ⟨by decide +kernel, rfl⟩
theorem d_X12_safeBy_39 : gd cX12_safeBy 39 (.iload 9) 2 41 := ⟨by decide +kernel, rfl⟩
theorem d_X12_safeBy_41 : gd cX12_safeBy 41 (.aload_n 0) 1 42 := ⟨by decide +kernel, rfl⟩
theorem d_X12_safeBy_42 : gd cX12_safeBy 42 (.bipush 79) 2 44 := ⟨by decide +kernel, rfl⟩
theorem d_X12_safeBy_44 : gd cX12_safeBy 44 (.invokevirtual 337) 3 47 := ⟨by decide +kernel, rfl⟩
theorem d_X12_safeBy_47 : gd cX12_safeBy 47 (.ifCond .ne 7) 3 50 := ⟨by decide +kernel, rfl⟩
theorem d_X12_safeBy_50 : gd cX12_safeBy 50 (.iconst 1) 1 51 := ⟨by decide +kernel, rfl⟩
theorem d_X12_safeBy_51 : gd cX12_safeBy 51 (.goto 4) 3 54 := ⟨by decide +kernel, rfl⟩
theorem d_X12_safeBy_54 : gd cX12_safeBy 54 (.iconst 0) 1 55 := ⟨by decide +kernel, rfl⟩
theorem d_X12_safeBy_55 : gd cX12_safeBy 55 .iadd 1 56 := ⟨by decide +kernel, rfl⟩
theorem d_X12_safeBy_56 : gd cX12_safeBy 56 (.istore 9) 2 58 := ⟨by decide +kernel, rfl⟩
theorem d_X12_safeBy_58 : gd cX12_safeBy 58 (.iinc 10 1) 3 61 := ⟨by decide +kernel, rfl⟩
theorem d_X12_safeBy_61 : gd cX12_safeBy 61 (.goto (-51)) 3 64 := ⟨by decide +kernel, rfl⟩
theorem d_X12_safeBy_64 : gd cX12_safeBy 64 (.aload_n 0) 1 65 := ⟨by decide +kernel, rfl⟩
theorem d_X12_safeBy_65 : gd cX12_safeBy 65 (.invokevirtual 405) 3 68 := ⟨by decide +kernel, rfl⟩
theorem d_X12_safeBy_68 : gd cX12_safeBy 68 (.iload 9) 2 70 := ⟨by decide +kernel, rfl⟩
theorem d_X12_safeBy_70 : gd cX12_safeBy 70 .ireturn 1 71 := ⟨by decide +kernel, rfl⟩
def Bo_X12_safeBy_10 (q10 : Int32 → Int32 → Int32 → Int32 → Int32 → Int32 → Int32 → Int32 → Int32 → Int32 → gs_M → Option (Int32 × gs_M)) (x1 : Int32) (x2 : Int32) (x3 : Int32) (x4 : Int32) (x5 : Int32) (x6 : Int32) (x7 : Int32) (x8 : Int32) (x9 : Int32) (x10 : Int32) (μ : gs_M) : Option (Int32 × gs_M) :=
  if x8 ≤ x10 then (bd0 (D_X12_putBack μ) (fun u3 => some (x9, u3))) else (bd0 (D_X12_loads x1 x2 x3 x4 x5 (Int32.toInt64 x10) μ) (fun u5 => bd0 (D_X12_voyage x6 x7 u5) (fun u7 => bd (D_X12_now (79 : Int32) u7) (fun v10 u9 => if v10 = 0 then (lt1 (x9 + (1 : Int32)) (fun v13 => q10 x1 x2 x3 x4 x5 x6 x7 x8 v13 (x10 + (1 : Int32)) u9)) else (lt1 (x9 + (0 : Int32)) (fun v12 => q10 x1 x2 x3 x4 x5 x6 x7 x8 v12 (x10 + (1 : Int32)) u9))))))
def L_X12_safeBy_10  : Nat → Int32 → Int32 → Int32 → Int32 → Int32 → Int32 → Int32 → Int32 → Int32 → Int32 → gs_M → Option (Int32 × gs_M)
  | 0 => fun _ _ _ _ _ _ _ _ _ _ _ => none
  | n + 1 => fun x1 x2 x3 x4 x5 x6 x7 x8 x9 x10 μ => Bo_X12_safeBy_10  (L_X12_safeBy_10  n) x1 x2 x3 x4 x5 x6 x7 x8 x9 x10 μ
def D_X12_safeBy (x1 : Int32) (x2 : Int32) (x3 : Int32) (x4 : Int32) (x5 : Int32) (x6 : Int32) (x7 : Int32) (x8 : Int32) (μ : gs_M) : Option (Int32 × gs_M) :=
  bd0 (D_X12_keeps μ) (fun u2 => L_X12_safeBy_10 4096 x1 x2 x3 x4 x5 x6 x7 x8 (0 : Int32) (0 : Int32) u2)
section S_X12_safeBy
variable {p : Program} {l : Launch} {e : Env} {R : Room} {s : State} {m : MethodId} {args : Array Value} {below : List Frame} {meth : Method} {c : Code} {ad : Nat → Nat} {g : va_G} {tyc : Nat → ClassId}
set_option maxRecDepth 20000 in
theorem To_X12_safeBy_10  (hK : KC p R s m args meth c ad g tyc RX12 cX12_safeBy 11 (some .int) 8) {r : Int32} {μ2 : gs_M} {q10 : Int32 → Int32 → Int32 → Int32 → Int32 → Int32 → Int32 → Int32 → Int32 → Int32 → gs_M → Option (Int32 × gs_M)} (hq10 : ∀ (x1 : Int32) (x2 : Int32) (x3 : Int32) (x4 : Int32) (x5 : Int32) (x6 : Int32) (x7 : Int32) (x8 : Int32) (x9 : Int32) (x10 : Int32) (μ : gs_M), q10 x1 x2 x3 x4 x5 x6 x7 x8 x9 x10 μ = some (r, μ2) → WJ p l e R s m args below meth c 0 0 (MQ below (gs_Q ad g tyc (some (.int r)) μ2) args s 0 0 (gs_A ad)) ad g tyc 11 10 [.ref 78, .int x1, .int x2, .int x3, .int x4, .int x5, .int x6, .int x7, .int x8, .int x9, .int x10] [] μ) {x1 : Int32} {x2 : Int32} {x3 : Int32} {x4 : Int32} {x5 : Int32} {x6 : Int32} {x7 : Int32} {x8 : Int32} {x9 : Int32} {x10 : Int32} {μ : gs_M}  (hD : Bo_X12_safeBy_10 q10 x1 x2 x3 x4 x5 x6 x7 x8 x9 x10 μ = some (r, μ2)) : WJ p l e R s m args below meth c 0 0 (MQ below (gs_Q ad g tyc (some (.int r)) μ2) args s 0 0 (gs_A ad)) ad g tyc 11 10 [.ref 78, .int x1, .int x2, .int x3, .int x4, .int x5, .int x6, .int x7, .int x8, .int x9, .int x10] [] μ := by
  unfold Bo_X12_safeBy_10 at hD
  refine r_iload hK d_X12_safeBy_10 rfl ?_
  refine r_iload hK d_X12_safeBy_12 rfl ?_
  refine r_icmp_ge (tgt := 64) hK d_X12_safeBy_14 (by decide) (fun h1 => ?_) (fun h1 => ?_)
  · have hD := if_t hD h1
    refine r_aload_n hK d_X12_safeBy_64 rfl rfl ?_
    obtain ⟨u3, e2, hD⟩ := bd0_e hD
    refine r_callV (As := []) (st := []) (stk2 := []) hK (C_X12_putBack  e2) d_X12_safeBy_65 mf_X12_putBack ml_RX12_405 im_X12_putBack rfl se_11_RX12_X12_putBack kd_78 rfl (Nat.le_of_ble_eq_true rfl) (by decide) ⟨Nat.zero_le _, Nat.zero_le _⟩ rfl rfl ?_
    refine r_iload hK d_X12_safeBy_68 rfl ?_
    cases hD
    exact r_iret hK d_X12_safeBy_70
  · have hD := if_f hD h1
    refine r_aload_n hK d_X12_safeBy_17 rfl rfl ?_
    refine r_iload_n hK d_X12_safeBy_18 rfl rfl ?_
    refine r_iload_n hK d_X12_safeBy_19 rfl rfl ?_
    refine r_iload_n hK d_X12_safeBy_20 rfl rfl ?_
    refine r_iload hK d_X12_safeBy_21 rfl ?_
    refine r_iload hK d_X12_safeBy_23 rfl ?_
    refine r_iload hK d_X12_safeBy_25 rfl ?_
    refine r_i2l hK d_X12_safeBy_27 ?_
    obtain ⟨u5, e4, hD⟩ := bd0_e hD
    refine r_callV (As := [.int x1, .int x2, .int x3, .int x4, .int x5, .long (Int32.toInt64 x10)]) (st := []) (stk2 := []) hK (C_X12_loads  e4) d_X12_safeBy_28 mf_X12_loads ml_RX12_363 im_X12_loads rfl se_11_RX12_X12_loads kd_78 rfl (Nat.le_of_ble_eq_true rfl) (by decide) ⟨Nat.zero_le _, Nat.zero_le _⟩ rfl rfl ?_
    refine r_aload_n hK d_X12_safeBy_31 rfl rfl ?_
    refine r_iload hK d_X12_safeBy_32 rfl ?_
    refine r_iload hK d_X12_safeBy_34 rfl ?_
    obtain ⟨u7, e6, hD⟩ := bd0_e hD
    refine r_callV (As := [.int x6, .int x7]) (st := []) (stk2 := []) hK (C_X12_voyage  e6) d_X12_safeBy_36 mf_X12_voyage ml_RX12_417 im_X12_voyage rfl se_11_RX12_X12_voyage kd_78 rfl (Nat.le_of_ble_eq_true rfl) (by decide) ⟨Nat.zero_le _, Nat.zero_le _⟩ rfl rfl ?_
    refine r_iload hK d_X12_safeBy_39 rfl ?_
    refine r_aload_n hK d_X12_safeBy_41 rfl rfl ?_
    refine r_bipush hK d_X12_safeBy_42 cb_79 ?_
    obtain ⟨v10, u9, e8, hD⟩ := bd_e hD
    refine r_callV (As := [.int (79 : Int32)]) (st := [.int x9]) (stk2 := [.int v10, .int x9]) hK (C_X12_now  e8) d_X12_safeBy_44 mf_X12_now ml_RX12_337 im_X12_now rfl se_11_RX12_X12_now kd_78 rfl (Nat.le_of_ble_eq_true rfl) (by decide) ⟨Nat.zero_le _, Nat.zero_le _⟩ rfl rfl ?_
    refine r_if_ne (tgt := 54) hK d_X12_safeBy_47 (by decide) (fun h11 => ?_) (fun h11 => ?_)
    · have hD := if_f hD h11
      refine r_iconst hK d_X12_safeBy_54 ci_0 ?_
      refine r_iadd hK d_X12_safeBy_55 ?_
      refine r_lti hD (fun v12 hD => ?_)
      refine r_istore hK d_X12_safeBy_56 (by decide) (ls2 := [.ref 78, .int x1, .int x2, .int x3, .int x4, .int x5, .int x6, .int x7, .int x8, .int v12, .int x10]) rfl ?_
      refine r_iinc hK d_X12_safeBy_58 rfl (v := x10 + (1 : Int32)) (by rw [ci_1]) (by decide) (ls2 := [.ref 78, .int x1, .int x2, .int x3, .int x4, .int x5, .int x6, .int x7, .int x8, .int v12, .int (x10 + (1 : Int32))]) rfl ?_
      refine r_goto (tgt := 10) hK d_X12_safeBy_61 (by decide) ?_
      exact hq10 _ _ _ _ _ _ _ _ _ _ _  hD
    · have hD := if_t hD h11
      refine r_iconst hK d_X12_safeBy_50 ci_1 ?_
      refine r_goto (tgt := 55) hK d_X12_safeBy_51 (by decide) ?_
      refine r_iadd hK d_X12_safeBy_55 ?_
      refine r_lti hD (fun v13 hD => ?_)
      refine r_istore hK d_X12_safeBy_56 (by decide) (ls2 := [.ref 78, .int x1, .int x2, .int x3, .int x4, .int x5, .int x6, .int x7, .int x8, .int v13, .int x10]) rfl ?_
      refine r_iinc hK d_X12_safeBy_58 rfl (v := x10 + (1 : Int32)) (by rw [ci_1]) (by decide) (ls2 := [.ref 78, .int x1, .int x2, .int x3, .int x4, .int x5, .int x6, .int x7, .int x8, .int v13, .int (x10 + (1 : Int32))]) rfl ?_
      refine r_goto (tgt := 10) hK d_X12_safeBy_61 (by decide) ?_
      exact hq10 _ _ _ _ _ _ _ _ _ _ _  hD
set_option maxRecDepth 20000 in
theorem TL_X12_safeBy_10  (hK : KC p R s m args meth c ad g tyc RX12 cX12_safeBy 11 (some .int) 8) {r : Int32} {μ2 : gs_M}   : ∀ (n : Nat) (x1 : Int32) (x2 : Int32) (x3 : Int32) (x4 : Int32) (x5 : Int32) (x6 : Int32) (x7 : Int32) (x8 : Int32) (x9 : Int32) (x10 : Int32) (μ : gs_M), L_X12_safeBy_10  n x1 x2 x3 x4 x5 x6 x7 x8 x9 x10 μ = some (r, μ2) → WJ p l e R s m args below meth c 0 0 (MQ below (gs_Q ad g tyc (some (.int r)) μ2) args s 0 0 (gs_A ad)) ad g tyc 11 10 [.ref 78, .int x1, .int x2, .int x3, .int x4, .int x5, .int x6, .int x7, .int x8, .int x9, .int x10] [] μ := by
  intro n
  induction n with
  | zero => intro x1 x2 x3 x4 x5 x6 x7 x8 x9 x10 μ  hD; cases hD
  | succ n ih => intro x1 x2 x3 x4 x5 x6 x7 x8 x9 x10 μ  hD; exact To_X12_safeBy_10 hK  ih  hD
set_option maxRecDepth 20000 in
theorem C_X12_safeBy  {x1 : Int32} {x2 : Int32} {x3 : Int32} {x4 : Int32} {x5 : Int32} {x6 : Int32} {x7 : Int32} {x8 : Int32} {μ : gs_M} {r : Int32} {μ2 : gs_M}  (hD : D_X12_safeBy x1 x2 x3 x4 x5 x6 x7 x8 μ = some (r, μ2)) : CALL yX12_safeBy cX12_safeBy 11 (some .int) 8 [.ref 78, .int x1, .int x2, .int x3, .int x4, .int x5, .int x6, .int x7, .int x8] μ (some (.int r)) μ2 := by
  unfold D_X12_safeBy at hD
  refine gs_enter mf_X12_safeBy (Nat.le_of_ble_eq_true rfl) (ls := [.ref 78, .int x1, .int x2, .int x3, .int x4, .int x5, .int x6, .int x7, .int x8, gs_J, gs_J]) rfl (fun p l e R s m args below meth c ad g tyc hK => ?_)
  have hK : KC p R s m args meth c ad g tyc RX12 cX12_safeBy 11 (some .int) 8 := hK
  refine r_aload_n hK d_X12_safeBy_0 rfl rfl ?_
  obtain ⟨u2, e1, hD⟩ := bd0_e hD
  refine r_callV (As := []) (st := []) (stk2 := []) hK (C_X12_keeps  e1) d_X12_safeBy_1 mf_X12_keeps ml_RX12_402 im_X12_keeps rfl se_11_RX12_X12_keeps kd_78 rfl (Nat.le_of_ble_eq_true rfl) (by decide) ⟨Nat.zero_le _, Nat.zero_le _⟩ rfl rfl ?_
  refine r_iconst hK d_X12_safeBy_4 ci_0 ?_
  refine r_istore hK d_X12_safeBy_5 (by decide) (ls2 := [.ref 78, .int x1, .int x2, .int x3, .int x4, .int x5, .int x6, .int x7, .int x8, .int (0 : Int32), gs_J]) rfl ?_
  refine r_iconst hK d_X12_safeBy_7 ci_0 ?_
  refine r_istore hK d_X12_safeBy_8 (by decide) (ls2 := [.ref 78, .int x1, .int x2, .int x3, .int x4, .int x5, .int x6, .int x7, .int x8, .int (0 : Int32), .int (0 : Int32)]) rfl ?_
  exact TL_X12_safeBy_10 hK  _ _ _ _ _ _ _ _ _ _ _ _  hD
end S_X12_safeBy
theorem d_X12_isVoyage_0 : gd cX12_isVoyage 0 (.iload_n 0) 1 1 := ⟨by decide +kernel, rfl⟩
theorem d_X12_isVoyage_1 : gd cX12_isVoyage 1 (.iconst 0) 1 2 := ⟨by decide +kernel, rfl⟩
theorem d_X12_isVoyage_2 : gd cX12_isVoyage 2 (.bipush 30) 2 4 := ⟨by decide +kernel, rfl⟩
theorem d_X12_isVoyage_4 : gd cX12_isVoyage 4 (.invokestatic 217) 3 7 := ⟨by decide +kernel, rfl⟩
theorem d_X12_isVoyage_7 : gd cX12_isVoyage 7 (.ifCond .eq 26) 3 10 := ⟨by decide +kernel, rfl⟩
theorem d_X12_isVoyage_10 : gd cX12_isVoyage 10 (.iload_n 1) 1 11 := ⟨by decide +kernel, rfl⟩
theorem d_X12_isVoyage_11 : gd cX12_isVoyage 11 (.iconst 1) 1 12 := ⟨by decide +kernel, rfl⟩
theorem d_X12_isVoyage_12 : gd cX12_isVoyage 12 (.bipush 9) 2 14 := ⟨by decide +kernel, rfl⟩
theorem d_X12_isVoyage_14 : gd cX12_isVoyage 14 (.invokestatic 217) 3 17 := ⟨by decide +kernel, rfl⟩
theorem d_X12_isVoyage_17 : gd cX12_isVoyage 17 (.ifCond .eq 16) 3 20 := ⟨by decide +kernel, rfl⟩
theorem d_X12_isVoyage_20 : gd cX12_isVoyage 20 (.iload_n 2) 1 21 := ⟨by decide +kernel, rfl⟩
theorem d_X12_isVoyage_21 : gd cX12_isVoyage 21 (.iconst 1) 1 22 := ⟨by decide +kernel, rfl⟩
theorem d_X12_isVoyage_22 : gd cX12_isVoyage 22 (.iconst 5) 1 23 := ⟨by decide +kernel, rfl⟩
theorem d_X12_isVoyage_23 : gd cX12_isVoyage 23 (.invokestatic 217) 3 26 := ⟨by decide +kernel, rfl⟩
theorem d_X12_isVoyage_26 : gd cX12_isVoyage 26 (.ifCond .eq 7) 3 29 := ⟨by decide +kernel, rfl⟩
theorem d_X12_isVoyage_29 : gd cX12_isVoyage 29 (.iconst 1) 1 30 := ⟨by decide +kernel, rfl⟩
theorem d_X12_isVoyage_30 : gd cX12_isVoyage 30 (.goto 4) 3 33 := ⟨by decide +kernel, rfl⟩
theorem d_X12_isVoyage_33 : gd cX12_isVoyage 33 (.iconst 0) 1 34 := ⟨by decide +kernel, rfl⟩
theorem d_X12_isVoyage_34 : gd cX12_isVoyage 34 .ireturn 1 35 := ⟨by decide +kernel, rfl⟩
def B_X12_isVoyage_33   (μ : gs_M) : Option (Int32 × gs_M) :=
  some ((0 : Int32), μ)
def D_X12_isVoyage (x0 : Int32) (x1 : Int32) (x2 : Int32) (μ : gs_M) : Option (Int32 × gs_M) :=
  bd (D_X12_isIn x0 (0 : Int32) (30 : Int32) μ) (fun v3 u2 => if v3 = 0 then (B_X12_isVoyage_33 u2) else (bd (D_X12_isIn x1 (1 : Int32) (9 : Int32) u2) (fun v7 u6 => if v7 = 0 then (B_X12_isVoyage_33 u6) else (bd (D_X12_isIn x2 (1 : Int32) (5 : Int32) u6) (fun v11 u10 => if v11 = 0 then (B_X12_isVoyage_33 u10) else (some ((1 : Int32), u10)))))))
section S_X12_isVoyage
variable {p : Program} {l : Launch} {e : Env} {R : Room} {s : State} {m : MethodId} {args : Array Value} {below : List Frame} {meth : Method} {c : Code} {ad : Nat → Nat} {g : va_G} {tyc : Nat → ClassId}
set_option maxRecDepth 20000 in
theorem T_X12_isVoyage_33  (hK : KC p R s m args meth c ad g tyc RX12 cX12_isVoyage 3 (some .boolean) 1) {r : Int32} {μ2 : gs_M}    {μ : gs_M}  (hD : B_X12_isVoyage_33   μ = some (r, μ2)) : WJ p l e R s m args below meth c 0 0 (MQ below (gs_Q ad g tyc (some (.int r)) μ2) args s 0 0 (gs_A ad)) ad g tyc 3 33 [gs_J, gs_J, gs_J] [] μ := by
  unfold B_X12_isVoyage_33 at hD
  refine r_iconst hK d_X12_isVoyage_33 ci_0 ?_
  cases hD
  exact r_zret hK (Or.inl rfl) d_X12_isVoyage_34
set_option maxRecDepth 20000 in
theorem C_X12_isVoyage  {x0 : Int32} {x1 : Int32} {x2 : Int32} {μ : gs_M} {r : Int32} {μ2 : gs_M}  (hD : D_X12_isVoyage x0 x1 x2 μ = some (r, μ2)) : CALL yX12_isVoyage cX12_isVoyage 3 (some .boolean) 1 [.int x0, .int x1, .int x2] μ (some (.int r)) μ2 := by
  unfold D_X12_isVoyage at hD
  refine gs_enter mf_X12_isVoyage (Nat.le_of_ble_eq_true rfl) (ls := [.int x0, .int x1, .int x2]) rfl (fun p l e R s m args below meth c ad g tyc hK => ?_)
  have hK : KC p R s m args meth c ad g tyc RX12 cX12_isVoyage 3 (some .boolean) 1 := hK
  refine r_iload_n hK d_X12_isVoyage_0 rfl rfl ?_
  refine r_iconst hK d_X12_isVoyage_1 ci_0 ?_
  refine r_bipush hK d_X12_isVoyage_2 cb_30 ?_
  obtain ⟨v3, u2, e1, hD⟩ := bd_e hD
  refine r_callS (As := [.int x0, .int (0 : Int32), .int (30 : Int32)]) (st := []) (stk2 := [.int v3]) hK (C_X12_isIn  e1) d_X12_isVoyage_4 mf_X12_isIn ml_RX12_217 ss_X12_isIn rfl (Nat.le_of_ble_eq_true rfl) (by decide) ⟨Nat.zero_le _, Nat.zero_le _⟩ rfl rfl ?_
  refine r_if_eq (tgt := 33) hK d_X12_isVoyage_7 (by decide) (fun h4 => ?_) (fun h4 => ?_)
  · have hD := if_t hD h4
    refine r_junk [false, false, false] (ls2 := [gs_J, gs_J, gs_J]) rfl ?_
    exact T_X12_isVoyage_33 hK   hD
  · have hD := if_f hD h4
    refine r_iload_n hK d_X12_isVoyage_10 rfl rfl ?_
    refine r_iconst hK d_X12_isVoyage_11 ci_1 ?_
    refine r_bipush hK d_X12_isVoyage_12 cb_9 ?_
    obtain ⟨v7, u6, e5, hD⟩ := bd_e hD
    refine r_callS (As := [.int x1, .int (1 : Int32), .int (9 : Int32)]) (st := []) (stk2 := [.int v7]) hK (C_X12_isIn  e5) d_X12_isVoyage_14 mf_X12_isIn ml_RX12_217 ss_X12_isIn rfl (Nat.le_of_ble_eq_true rfl) (by decide) ⟨Nat.zero_le _, Nat.zero_le _⟩ rfl rfl ?_
    refine r_if_eq (tgt := 33) hK d_X12_isVoyage_17 (by decide) (fun h8 => ?_) (fun h8 => ?_)
    · have hD := if_t hD h8
      refine r_junk [false, false, false] (ls2 := [gs_J, gs_J, gs_J]) rfl ?_
      exact T_X12_isVoyage_33 hK   hD
    · have hD := if_f hD h8
      refine r_iload_n hK d_X12_isVoyage_20 rfl rfl ?_
      refine r_iconst hK d_X12_isVoyage_21 ci_1 ?_
      refine r_iconst hK d_X12_isVoyage_22 ci_5 ?_
      obtain ⟨v11, u10, e9, hD⟩ := bd_e hD
      refine r_callS (As := [.int x2, .int (1 : Int32), .int (5 : Int32)]) (st := []) (stk2 := [.int v11]) hK (C_X12_isIn  e9) d_X12_isVoyage_23 mf_X12_isIn ml_RX12_217 ss_X12_isIn rfl (Nat.le_of_ble_eq_true rfl) (by decide) ⟨Nat.zero_le _, Nat.zero_le _⟩ rfl rfl ?_
      refine r_if_eq (tgt := 33) hK d_X12_isVoyage_26 (by decide) (fun h12 => ?_) (fun h12 => ?_)
      · have hD := if_t hD h12
        refine r_junk [false, false, false] (ls2 := [gs_J, gs_J, gs_J]) rfl ?_
        exact T_X12_isVoyage_33 hK   hD
      · have hD := if_f hD h12
        refine r_iconst hK d_X12_isVoyage_29 ci_1 ?_
        refine r_goto (tgt := 34) hK d_X12_isVoyage_30 (by decide) ?_
        cases hD
        exact r_zret hK (Or.inr rfl) d_X12_isVoyage_34
end S_X12_isVoyage
theorem d_X12_safe_0 : gd cX12_safe 0 (.aload_n 0) 1 1 := ⟨by decide +kernel, rfl⟩
theorem d_X12_safe_1 : gd cX12_safe 1 (.iconst 0) 1 2 := ⟨by decide +kernel, rfl⟩
theorem d_X12_safe_2 : gd cX12_safe 2 (.putfield 98) 3 5 := ⟨by decide +kernel, rfl⟩
theorem d_X12_safe_5 : gd cX12_safe 5 (.aload_n 0) 1 6 := ⟨by decide +kernel, rfl⟩
theorem d_X12_safe_6 : gd cX12_safe 6 (.iload_n 1) 1 7 := ⟨by decide +kernel, rfl⟩
theorem d_X12_safe_7 : gd cX12_safe 7 (.iload_n 2) 1 8 := ⟨by decide +kernel, rfl⟩
theorem d_X12_safe_8 : gd cX12_safe 8 (.invokevirtual 360) 3 11 := ⟨by decide +kernel, rfl⟩
theorem d_X12_safe_11 : gd cX12_safe 11 (.ifCond .eq 31) 3 14 := ⟨by decide +kernel, rfl⟩
theorem d_X12_safe_14 : gd cX12_safe 14 (.iload_n 3) 1 15 := ⟨by decide +kernel, rfl⟩
theorem d_X12_safe_15 : gd cX12_safe 15 (.iload 4) 2 17 := ⟨by decide +kernel, rfl⟩
theorem d_X12_safe_17 : gd cX12_safe 17 (.iload 5) 2 19 := ⟨by decide +kernel, rfl⟩
theorem d_X12_safe_19 : gd cX12_safe 19 (.invokestatic 424) 3 22 := ⟨by decide +kernel, rfl⟩
theorem d_X12_safe_22 : gd cX12_safe 22 (.ifCond .eq 20) 3 25 := ⟨by decide +kernel, rfl⟩
theorem d_X12_safe_25 : gd cX12_safe 25 (.aload_n 0) 1 26 := ⟨by decide +kernel, rfl⟩
theorem d_X12_safe_26 : gd cX12_safe 26 (.iload_n 1) 1 27 := ⟨by decide +kernel, rfl⟩
theorem d_X12_safe_27 : gd cX12_safe 27 (.iload_n 2) 1 28 := ⟨by decide +kernel, rfl⟩
theorem d_X12_safe_28 : gd cX12_safe 28 (.iconst (-1)) 1 29 := ⟨by decide +kernel, rfl⟩
theorem d_X12_safe_29 : gd cX12_safe 29 (.iconst 0) 1 30 := ⟨by decide +kernel, rfl⟩
theorem d_X12_safe_30 : gd cX12_safe 30 (.iconst 0) 1 31 := ⟨by decide +kernel, rfl⟩
theorem d_X12_safe_31 : gd cX12_safe 31 (.iload_n 3) 1 32 := ⟨by decide +kernel, rfl⟩
theorem d_X12_safe_32 : gd cX12_safe 32 (.iload 4) 2 34 := ⟨by decide +kernel, rfl⟩
theorem d_X12_safe_34 : gd cX12_safe 34 (.iload 5) 2 36 := ⟨by decide +kernel, rfl⟩
theorem d_X12_safe_36 : gd cX12_safe 36 (.invokevirtual 427) 3 39 := ⟨by decide +kernel, rfl⟩
theorem d_X12_safe_39 : gd cX12_safe 39 (.goto 4) 3 42 := ⟨by decide +kernel, rfl⟩
theorem d_X12_safe_42 : gd cX12_safe 42 (.iconst (-1)) 1 43 := ⟨by decide +kernel, rfl⟩
theorem d_X12_safe_43 : gd cX12_safe 43 .ireturn 1 44 := ⟨by decide +kernel, rfl⟩
def B_X12_safe_42   (μ : gs_M) : Option (Int32 × gs_M) :=
  some ((-1 : Int32), μ)
def D_X12_safe (x1 : Int32) (x2 : Int32) (x3 : Int32) (x4 : Int32) (x5 : Int32) (μ : gs_M) : Option (Int32 × gs_M) :=
  lt1 (sI μ 78 0 (0 : Int32)) (fun u1 => bd (D_X12_canLoad x1 x2 u1) (fun v4 u3 => if v4 = 0 then (B_X12_safe_42 u3) else (bd (D_X12_isVoyage x3 x4 x5 u3) (fun v8 u7 => if v8 = 0 then (B_X12_safe_42 u7) else (bd (D_X12_safeBy x1 x2 (-1 : Int32) (0 : Int32) (0 : Int32) x3 x4 x5 u7) (fun v12 u11 => some (v12, u11)))))))
section S_X12_safe
variable {p : Program} {l : Launch} {e : Env} {R : Room} {s : State} {m : MethodId} {args : Array Value} {below : List Frame} {meth : Method} {c : Code} {ad : Nat → Nat} {g : va_G} {tyc : Nat → ClassId}
set_option maxRecDepth 20000 in
theorem T_X12_safe_42  (hK : KC p R s m args meth c ad g tyc RX12 cX12_safe 6 (some .int) 9) {r : Int32} {μ2 : gs_M}    {μ : gs_M}  (hD : B_X12_safe_42   μ = some (r, μ2)) : WJ p l e R s m args below meth c 0 0 (MQ below (gs_Q ad g tyc (some (.int r)) μ2) args s 0 0 (gs_A ad)) ad g tyc 6 42 [gs_J, gs_J, gs_J, gs_J, gs_J, gs_J] [] μ := by
  unfold B_X12_safe_42 at hD
  refine r_iconst hK d_X12_safe_42 ci_m1 ?_
  cases hD
  exact r_iret hK d_X12_safe_43
set_option maxRecDepth 20000 in
theorem C_X12_safe  {x1 : Int32} {x2 : Int32} {x3 : Int32} {x4 : Int32} {x5 : Int32} {μ : gs_M} {r : Int32} {μ2 : gs_M}  (hD : D_X12_safe x1 x2 x3 x4 x5 μ = some (r, μ2)) : CALL yX12_safe cX12_safe 6 (some .int) 9 [.ref 78, .int x1, .int x2, .int x3, .int x4, .int x5] μ (some (.int r)) μ2 := by
  unfold D_X12_safe at hD
  refine gs_enter mf_X12_safe (Nat.le_of_ble_eq_true rfl) (ls := [.ref 78, .int x1, .int x2, .int x3, .int x4, .int x5]) rfl (fun p l e R s m args below meth c ad g tyc hK => ?_)
  have hK : KC p R s m args meth c ad g tyc RX12 cX12_safe 6 (some .int) 9 := hK
  refine r_aload_n hK d_X12_safe_0 rfl rfl ?_
  refine r_iconst hK d_X12_safe_1 ci_0 ?_
  refine r_putI hK d_X12_safe_2 fl_RX12_98_11 rfl rfl kd_78 ?_
  refine r_ltm hD (fun u1 hD => ?_)
  refine r_aload_n hK d_X12_safe_5 rfl rfl ?_
  refine r_iload_n hK d_X12_safe_6 rfl rfl ?_
  refine r_iload_n hK d_X12_safe_7 rfl rfl ?_
  obtain ⟨v4, u3, e2, hD⟩ := bd_e hD
  refine r_callV (As := [.int x1, .int x2]) (st := []) (stk2 := [.int v4]) hK (C_X12_canLoad  e2) d_X12_safe_8 mf_X12_canLoad ml_RX12_360 im_X12_canLoad rfl se_11_RX12_X12_canLoad kd_78 rfl (Nat.le_of_ble_eq_true rfl) (by decide) ⟨Nat.zero_le _, Nat.zero_le _⟩ rfl rfl ?_
  refine r_if_eq (tgt := 42) hK d_X12_safe_11 (by decide) (fun h5 => ?_) (fun h5 => ?_)
  · have hD := if_t hD h5
    refine r_junk [false, false, false, false, false, false] (ls2 := [gs_J, gs_J, gs_J, gs_J, gs_J, gs_J]) rfl ?_
    exact T_X12_safe_42 hK   hD
  · have hD := if_f hD h5
    refine r_iload_n hK d_X12_safe_14 rfl rfl ?_
    refine r_iload hK d_X12_safe_15 rfl ?_
    refine r_iload hK d_X12_safe_17 rfl ?_
    obtain ⟨v8, u7, e6, hD⟩ := bd_e hD
    refine r_callS (As := [.int x3, .int x4, .int x5]) (st := []) (stk2 := [.int v8]) hK (C_X12_isVoyage  e6) d_X12_safe_19 mf_X12_isVoyage ml_RX12_424 ss_X12_isVoyage rfl (Nat.le_of_ble_eq_true rfl) (by decide) ⟨Nat.zero_le _, Nat.zero_le _⟩ rfl rfl ?_
    refine r_if_eq (tgt := 42) hK d_X12_safe_22 (by decide) (fun h9 => ?_) (fun h9 => ?_)
    · have hD := if_t hD h9
      refine r_junk [false, false, false, false, false, false] (ls2 := [gs_J, gs_J, gs_J, gs_J, gs_J, gs_J]) rfl ?_
      exact T_X12_safe_42 hK   hD
    · have hD := if_f hD h9
      refine r_aload_n hK d_X12_safe_25 rfl rfl ?_
      refine r_iload_n hK d_X12_safe_26 rfl rfl ?_
      refine r_iload_n hK d_X12_safe_27 rfl rfl ?_
      refine r_iconst hK d_X12_safe_28 ci_m1 ?_
      refine r_iconst hK d_X12_safe_29 ci_0 ?_
      refine r_iconst hK d_X12_safe_30 ci_0 ?_
      refine r_iload_n hK d_X12_safe_31 rfl rfl ?_
      refine r_iload hK d_X12_safe_32 rfl ?_
      refine r_iload hK d_X12_safe_34 rfl ?_
      obtain ⟨v12, u11, e10, hD⟩ := bd_e hD
      refine r_callV (As := [.int x1, .int x2, .int (-1 : Int32), .int (0 : Int32), .int (0 : Int32), .int x3, .int x4, .int x5]) (st := []) (stk2 := [.int v12]) hK (C_X12_safeBy  e10) d_X12_safe_36 mf_X12_safeBy ml_RX12_427 im_X12_safeBy rfl se_11_RX12_X12_safeBy kd_78 rfl (Nat.le_of_ble_eq_true rfl) (by decide) ⟨Nat.zero_le _, Nat.zero_le _⟩ rfl rfl ?_
      refine r_goto (tgt := 43) hK d_X12_safe_39 (by decide) ?_
      cases hD
      exact r_iret hK d_X12_safe_43
end S_X12_safe
theorem d_X12_cheapest_0 : gd cX12_cheapest 0 (.aload_n 0) 1 1 := ⟨by decide +kernel, rfl⟩
theorem d_X12_cheapest_1 : gd cX12_cheapest 1 (.iconst 0) 1 2 := ⟨by decide +kernel, rfl⟩
theorem d_X12_cheapest_2 : gd cX12_cheapest 2 (.putfield 98) 3 5 := ⟨by decide +kernel, rfl⟩
theorem d_X12_cheapest_5 : gd cX12_cheapest 5 (.aload_n 0) 1 6 := ⟨by decide +kernel, rfl⟩
theorem d_X12_cheapest_6 : gd cX12_cheapest 6 (.iload_n 1) 1 7 := ⟨by decide +kernel, rfl⟩
theorem d_X12_cheapest_7 : gd cX12_cheapest 7 (.invokevirtual 283) 3 10 := ⟨by decide +kernel, rfl⟩
theorem d_X12_cheapest_10 : gd cX12_cheapest 10 (.ifCond .eq 23) 3 13 := ⟨by decide +kernel, rfl⟩
theorem d_X12_cheapest_13 : gd cX12_cheapest 13 (.iload_n 2) 1 14 := ⟨by decide +kernel, rfl⟩
theorem d_X12_cheapest_14 : gd cX12_cheapest 14 (.iload_n 3) 1 15 := ⟨by decide +kernel, rfl⟩
theorem d_X12_cheapest_15 : gd cX12_cheapest 15 (.iload 4) 2 17 := ⟨by decide +kernel, rfl⟩
theorem d_X12_cheapest_17 : gd cX12_cheapest 17 (.invokestatic 424) 3 20 := ⟨by decide +kernel, rfl⟩
theorem d_X12_cheapest_20 : gd cX12_cheapest 20 (.ifCond .eq 13) 3 23 := ⟨by decide +kernel, rfl⟩
theorem d_X12_cheapest_23 : gd cX12_cheapest 23 (.iload 5) 2 25 := ⟨by decide +kernel, rfl⟩
theorem d_X12_cheapest_25 : gd cX12_cheapest 25 (.iconst 0) 1 26 := ⟨by decide +kernel, rfl⟩
theorem d_X12_cheapest_26 : gd cX12_cheapest 26 (.iconst 5) 1 27 := ⟨by decide +kernel, rfl⟩
theorem d_X12_cheapest_27 : gd cX12_cheapest 27 (.invokestatic 217) 3 30 := ⟨by decide +kernel, rfl⟩
theorem d_X12_cheapest_30 : gd cX12_cheapest 30 (.ifCond .ne 5) 3 33 := ⟨by decide +kernel, rfl⟩
theorem d_X12_cheapest_33 : gd cX12_cheapest 33 (.iconst (-1)) 1 34 := ⟨by decide +kernel, rfl⟩
theorem d_X12_cheapest_34 : gd cX12_cheapest 34 .ireturn 1 35 := ⟨by decide +kernel, rfl⟩
theorem d_X12_cheapest_35 : gd cX12_cheapest 35 (.iconst (-1)) 1 36 := ⟨by decide +kernel, rfl⟩
theorem d_X12_cheapest_36 : gd cX12_cheapest 36 (.istore 6) 2 38 := ⟨by decide +kernel, rfl⟩
theorem d_X12_cheapest_38 : gd cX12_cheapest 38 (.iconst 0) 1 39 := ⟨by decide +kernel, rfl⟩
theorem d_X12_cheapest_39 : gd cX12_cheapest 39 (.istore 7) 2 41 := ⟨by decide +kernel, rfl⟩
theorem d_X12_cheapest_41 : gd cX12_cheapest 41 (.iconst 0) 1 42 := ⟨by decide +kernel, rfl⟩
theorem d_X12_cheapest_42 : gd cX12_cheapest 42 (.istore 8) 2 44 := ⟨by decide +kernel, rfl⟩
theorem d_X12_cheapest_44 : gd cX12_cheapest 44 (.iload 8) 2 46 := ⟨by decide +kernel, rfl⟩
theorem d_X12_cheapest_46 : gd cX12_cheapest 46 (.aload_n 0) 1 47 := ⟨by decide +kernel, rfl⟩
theorem d_X12_cheapest_47 : gd cX12_cheapest 47 (.getfield 269) 3 50 := ⟨by decide +kernel, rfl⟩
theorem d_X12_cheapest_50 : gd cX12_cheapest 50 (.if_icmp .ge 80) 3 53 := ⟨by decide +kernel, rfl⟩
theorem d_X12_cheapest_53 : gd cX12_cheapest 53 (.aload_n 0) 1 54 := ⟨by decide +kernel, rfl⟩
theorem d_X12_cheapest_54 : gd cX12_cheapest 54 (.iload_n 1) 1 55 := ⟨by decide +kernel, rfl⟩
theorem d_X12_cheapest_55 : gd cX12_cheapest 55 (.iload 8) 2 57 := ⟨by decide +kernel, rfl⟩
theorem d_X12_cheapest_57 : gd cX12_cheapest 57 (.invokevirtual 360) 3 60 := ⟨by decide +kernel, rfl⟩
theorem d_X12_cheapest_60 : gd cX12_cheapest 60 (.ifCond .ne 6) 3 63 := ⟨by decide +kernel, rfl⟩
theorem d_X12_cheapest_63 : gd cX12_cheapest 63 (.goto 61) 3 66 := ⟨by decide +kernel, rfl⟩
theorem d_X12_cheapest_66 : gd cX12_cheapest 66 (.aload_n 0) 1 67 := ⟨by decide +kernel, rfl⟩
theorem d_X12_cheapest_67 : gd cX12_cheapest 67 (.iload_n 1) 1 68 := ⟨by decide +kernel, rfl⟩
theorem d_X12_cheapest_68 : gd cX12_cheapest 68 (.iload 8) 2 70 := ⟨by decide +kernel, rfl⟩
theorem d_X12_cheapest_70 : gd cX12_cheapest 70 (.iconst (-1)) 1 71 := ⟨by decide +kernel, rfl⟩
theorem d_X12_cheapest_71 : gd cX12_cheapest 71 (.iconst 0) 1 72 := ⟨by decide +kernel, rfl⟩
theorem d_X12_cheapest_72 : gd cX12_cheapest 72 (.iconst 0) 1 73 := ⟨by decide +kernel, rfl⟩
theorem d_X12_cheapest_73 : gd cX12_cheapest 73 (.invokevirtual 420) 3 76 := ⟨by decide +kernel, rfl⟩
theorem d_X12_cheapest_76 : gd cX12_cheapest 76 (.istore 9) 2 78 := ⟨by decide +kernel, rfl⟩
theorem d_X12_cheapest_78 : gd cX12_cheapest 78 (.iload 6) 2 80 := ⟨by decide +kernel, rfl⟩
theorem d_X12_cheapest_80 : gd cX12_cheapest 80 (.iconst (-1)) 1 81 := ⟨by decide +kernel, rfl⟩
theorem d_X12_cheapest_81 : gd cX12_cheapest 81 (.if_icmp .eq 10) 3 84 := ⟨by decide +kernel, rfl⟩
theorem d_X12_cheapest_84 : gd cX12_cheapest 84 (.iload 9) 2 86 := ⟨by decide +kernel, rfl⟩
theorem d_X12_cheapest_86 : gd cX12_cheapest 86 (.iload 7) 2 88 := ⟨by decide +kernel, rfl⟩
theorem d_X12_cheapest_88 : gd cX12_cheapest 88 (.if_icmp .ge 36) 3 91 := ⟨by decide +kernel, rfl⟩
theorem d_X12_cheapest_91 : gd cX12_cheapest 91 (.iload 4) 2 93 := ⟨by decide +kernel, rfl⟩
theorem d_X12_cheapest_93 : gd cX12_cheapest 93 (.aload_n 0) 1 94 := ⟨by decide +kernel, rfl⟩
theorem d_X12_cheapest_94 : gd cX12_cheapest 94 (.iload_n 1) 1 95 := ⟨by decide +kernel, rfl⟩
theorem d_X12_cheapest_95 : gd cX12_cheapest 95 (.iload 8) 2 97 := ⟨by decide +kernel, rfl⟩
theorem d_X12_cheapest_97 : gd cX12_cheapest 97 (.iconst (-1)) 1 98 := ⟨by decide +kernel, rfl⟩
theorem d_X12_cheapest_98 : gd cX12_cheapest 98 (.iconst 0) 1 99 := ⟨by decide +kernel, rfl⟩
theorem d_X12_cheapest_99 : gd cX12_cheapest 99 (.iconst 0) 1 100 := ⟨by decide +kernel, rfl⟩
theorem d_X12_cheapest_100 : gd cX12_cheapest 100 (.iload_n 2) 1 101 := ⟨by decide +kernel, rfl⟩
theorem d_X12_cheapest_101 : gd cX12_cheapest 101 (.iload_n 3) 1 102 := ⟨by decide +kernel, rfl⟩
theorem d_X12_cheapest_102 : gd cX12_cheapest 102 (.iload 4) 2 104 := ⟨by decide +kernel, rfl⟩
theorem d_X12_cheapest_104 : gd cX12_cheapest 104 (.invokevirtual 427) 3 107 := ⟨by decide +kernel, rfl⟩
theorem d_X12_cheapest_107 : gd cX12_cheapest 107 .isub 1 108 := ⟨by decide +kernel, rfl⟩
theorem d_X12_cheapest_108 : gd cX12_cheapest 108 (.iload 5) 2 110 := ⟨by decide +kernel, rfl⟩
theorem d_X12_cheapest_110 : gd cX12_cheapest 110 (.if_icmp .le 6) 3 113 := ⟨by decide +kernel, rfl⟩
theorem d_X12_cheapest_113 : gd cX12_cheapest 113 (.goto 11) 3 116 := ⟨by decide +kernel, rfl⟩
theorem d_X12_cheapest_116 : gd cX12_cheapest 116 (.iload 8) 2 118 := ⟨by decide +kernel, rfl⟩
theorem d_X12_cheapest_118 : gd cX12_cheapest 118 (.istore 6) 2 120 := ⟨by decide +kernel, rfl⟩
theorem d_X12_cheapest_120 : gd cX12_cheapest 120 (.iload 9) 2 122 := ⟨by decide +kernel, rfl⟩
theorem d_X12_cheapest_122 : gd cX12_cheapest 122 (.istore 7) 2 124 := ⟨by decide +kernel, rfl⟩
theorem d_X12_cheapest_124 : gd cX12_cheapest 124 (.iinc 8 1) 3 127 := ⟨by decide +kernel, rfl⟩
theorem d_X12_cheapest_127 : gd cX12_cheapest 127 (.goto (-83)) 3 130 := ⟨by decide +kernel, rfl⟩
theorem d_X12_cheapest_130 : gd cX12_cheapest 130 (.iload 6) 2 132 := ⟨by decide +kernel, rfl⟩
theorem d_X12_cheapest_132 : gd cX12_cheapest 132 .ireturn 1 133 := ⟨by decide +kernel, rfl⟩
def B_X12_cheapest_91 (q44 : Int32 → Int32 → Int32 → Int32 → Int32 → Int32 → Int32 → Int32 → gs_M → Option (Int32 × gs_M)) (x1 : Int32) (x2 : Int32) (x3 : Int32) (x4 : Int32) (x5 : Int32) (x6 : Int32) (x7 : Int32) (x8 : Int32) (x9 : Int32) (μ : gs_M) : Option (Int32 × gs_M) :=
  bd (D_X12_safeBy x1 x8 (-1 : Int32) (0 : Int32) (0 : Int32) x2 x3 x4 μ) (fun v3 u2 => if (x4 - v3) ≤ x5 then (q44 x1 x2 x3 x4 x5 x8 x9 (x8 + (1 : Int32)) u2) else (q44 x1 x2 x3 x4 x5 x6 x7 (x8 + (1 : Int32)) u2))
def Bo_X12_cheapest_44 (q44 : Int32 → Int32 → Int32 → Int32 → Int32 → Int32 → Int32 → Int32 → gs_M → Option (Int32 × gs_M)) (x1 : Int32) (x2 : Int32) (x3 : Int32) (x4 : Int32) (x5 : Int32) (x6 : Int32) (x7 : Int32) (x8 : Int32) (μ : gs_M) : Option (Int32 × gs_M) :=
  if (gI μ 78 26) ≤ x8 then (some (x6, μ)) else (bd (D_X12_canLoad x1 x8 μ) (fun v4 u3 => if v4 = 0 then (q44 x1 x2 x3 x4 x5 x6 x7 (x8 + (1 : Int32)) u3) else (bd (D_X12_costOf x1 x8 (-1 : Int32) (0 : Int32) (0 : Int32) u3) (fun v8 u7 => if x6 = (-1 : Int32) then (B_X12_cheapest_91 q44 x1 x2 x3 x4 x5 x6 x7 x8 v8 u7) else (if x7 ≤ v8 then (q44 x1 x2 x3 x4 x5 x6 x7 (x8 + (1 : Int32)) u7) else (B_X12_cheapest_91 q44 x1 x2 x3 x4 x5 x6 x7 x8 v8 u7))))))
def L_X12_cheapest_44  : Nat → Int32 → Int32 → Int32 → Int32 → Int32 → Int32 → Int32 → Int32 → gs_M → Option (Int32 × gs_M)
  | 0 => fun _ _ _ _ _ _ _ _ _ => none
  | n + 1 => fun x1 x2 x3 x4 x5 x6 x7 x8 μ => Bo_X12_cheapest_44  (L_X12_cheapest_44  n) x1 x2 x3 x4 x5 x6 x7 x8 μ
def D_X12_cheapest (x1 : Int32) (x2 : Int32) (x3 : Int32) (x4 : Int32) (x5 : Int32) (μ : gs_M) : Option (Int32 × gs_M) :=
  lt1 (sI μ 78 0 (0 : Int32)) (fun u1 => bd (D_X12_isShip x1 u1) (fun v4 u3 => if v4 = 0 then (some ((-1 : Int32), u3)) else (bd (D_X12_isVoyage x2 x3 x4 u3) (fun v8 u7 => if v8 = 0 then (some ((-1 : Int32), u7)) else (bd (D_X12_isIn x5 (0 : Int32) (5 : Int32) u7) (fun v12 u11 => if v12 = 0 then (some ((-1 : Int32), u11)) else (L_X12_cheapest_44 4096 x1 x2 x3 x4 x5 (-1 : Int32) (0 : Int32) (0 : Int32) u11)))))))
section S_X12_cheapest
variable {p : Program} {l : Launch} {e : Env} {R : Room} {s : State} {m : MethodId} {args : Array Value} {below : List Frame} {meth : Method} {c : Code} {ad : Nat → Nat} {g : va_G} {tyc : Nat → ClassId}
set_option maxRecDepth 20000 in
theorem T_X12_cheapest_91  (hK : KC p R s m args meth c ad g tyc RX12 cX12_cheapest 10 (some .int) 9) {r : Int32} {μ2 : gs_M} {q44 : Int32 → Int32 → Int32 → Int32 → Int32 → Int32 → Int32 → Int32 → gs_M → Option (Int32 × gs_M)} (hq44 : ∀ (x1 : Int32) (x2 : Int32) (x3 : Int32) (x4 : Int32) (x5 : Int32) (x6 : Int32) (x7 : Int32) (x8 : Int32) (μ : gs_M), q44 x1 x2 x3 x4 x5 x6 x7 x8 μ = some (r, μ2) → WJ p l e R s m args below meth c 0 0 (MQ below (gs_Q ad g tyc (some (.int r)) μ2) args s 0 0 (gs_A ad)) ad g tyc 10 44 [.ref 78, .int x1, .int x2, .int x3, .int x4, .int x5, .int x6, .int x7, .int x8, gs_J] [] μ) {x1 : Int32} {x2 : Int32} {x3 : Int32} {x4 : Int32} {x5 : Int32} {x6 : Int32} {x7 : Int32} {x8 : Int32} {x9 : Int32} {μ : gs_M}  (hD : B_X12_cheapest_91 q44 x1 x2 x3 x4 x5 x6 x7 x8 x9 μ = some (r, μ2)) : WJ p l e R s m args below meth c 0 0 (MQ below (gs_Q ad g tyc (some (.int r)) μ2) args s 0 0 (gs_A ad)) ad g tyc 10 91 [.ref 78, .int x1, .int x2, .int x3, .int x4, .int x5, .int x6, .int x7, .int x8, .int x9] [] μ := by
  unfold B_X12_cheapest_91 at hD
  refine r_iload hK d_X12_cheapest_91 rfl ?_
  refine r_aload_n hK d_X12_cheapest_93 rfl rfl ?_
  refine r_iload_n hK d_X12_cheapest_94 rfl rfl ?_
  refine r_iload hK d_X12_cheapest_95 rfl ?_
  refine r_iconst hK d_X12_cheapest_97 ci_m1 ?_
  refine r_iconst hK d_X12_cheapest_98 ci_0 ?_
  refine r_iconst hK d_X12_cheapest_99 ci_0 ?_
  refine r_iload_n hK d_X12_cheapest_100 rfl rfl ?_
  refine r_iload_n hK d_X12_cheapest_101 rfl rfl ?_
  refine r_iload hK d_X12_cheapest_102 rfl ?_
  obtain ⟨v3, u2, e1, hD⟩ := bd_e hD
  refine r_callV (As := [.int x1, .int x8, .int (-1 : Int32), .int (0 : Int32), .int (0 : Int32), .int x2, .int x3, .int x4]) (st := [.int x4]) (stk2 := [.int v3, .int x4]) hK (C_X12_safeBy  e1) d_X12_cheapest_104 mf_X12_safeBy ml_RX12_427 im_X12_safeBy rfl se_11_RX12_X12_safeBy kd_78 rfl (Nat.le_of_ble_eq_true rfl) (by decide) ⟨Nat.zero_le _, Nat.zero_le _⟩ rfl rfl ?_
  refine r_isub hK d_X12_cheapest_107 ?_
  refine r_iload hK d_X12_cheapest_108 rfl ?_
  refine r_icmp_le (tgt := 116) hK d_X12_cheapest_110 (by decide) (fun h4 => ?_) (fun h4 => ?_)
  · have hD := if_t hD h4
    refine r_iload hK d_X12_cheapest_116 rfl ?_
    refine r_istore hK d_X12_cheapest_118 (by decide) (ls2 := [.ref 78, .int x1, .int x2, .int x3, .int x4, .int x5, .int x8, .int x7, .int x8, .int x9]) rfl ?_
    refine r_iload hK d_X12_cheapest_120 rfl ?_
    refine r_istore hK d_X12_cheapest_122 (by decide) (ls2 := [.ref 78, .int x1, .int x2, .int x3, .int x4, .int x5, .int x8, .int x9, .int x8, .int x9]) rfl ?_
    refine r_iinc hK d_X12_cheapest_124 rfl (v := x8 + (1 : Int32)) (by rw [ci_1]) (by decide) (ls2 := [.ref 78, .int x1, .int x2, .int x3, .int x4, .int x5, .int x8, .int x9, .int (x8 + (1 : Int32)), .int x9]) rfl ?_
    refine r_goto (tgt := 44) hK d_X12_cheapest_127 (by decide) ?_
    refine r_junk [true, true, true, true, true, true, true, true, true, false] (ls2 := [.ref 78, .int x1, .int x2, .int x3, .int x4, .int x5, .int x8, .int x9, .int (x8 + (1 : Int32)), gs_J]) rfl ?_
    exact hq44 _ _ _ _ _ _ _ _ _  hD
  · have hD := if_f hD h4
    refine r_goto (tgt := 124) hK d_X12_cheapest_113 (by decide) ?_
    refine r_iinc hK d_X12_cheapest_124 rfl (v := x8 + (1 : Int32)) (by rw [ci_1]) (by decide) (ls2 := [.ref 78, .int x1, .int x2, .int x3, .int x4, .int x5, .int x6, .int x7, .int (x8 + (1 : Int32)), .int x9]) rfl ?_
    refine r_goto (tgt := 44) hK d_X12_cheapest_127 (by decide) ?_
    refine r_junk [true, true, true, true, true, true, true, true, true, false] (ls2 := [.ref 78, .int x1, .int x2, .int x3, .int x4, .int x5, .int x6, .int x7, .int (x8 + (1 : Int32)), gs_J]) rfl ?_
    exact hq44 _ _ _ _ _ _ _ _ _  hD
set_option maxRecDepth 20000 in
theorem To_X12_cheapest_44  (hK : KC p R s m args meth c ad g tyc RX12 cX12_cheapest 10 (some .int) 9) {r : Int32} {μ2 : gs_M} {q44 : Int32 → Int32 → Int32 → Int32 → Int32 → Int32 → Int32 → Int32 → gs_M → Option (Int32 × gs_M)} (hq44 : ∀ (x1 : Int32) (x2 : Int32) (x3 : Int32) (x4 : Int32) (x5 : Int32) (x6 : Int32) (x7 : Int32) (x8 : Int32) (μ : gs_M), q44 x1 x2 x3 x4 x5 x6 x7 x8 μ = some (r, μ2) → WJ p l e R s m args below meth c 0 0 (MQ below (gs_Q ad g tyc (some (.int r)) μ2) args s 0 0 (gs_A ad)) ad g tyc 10 44 [.ref 78, .int x1, .int x2, .int x3, .int x4, .int x5, .int x6, .int x7, .int x8, gs_J] [] μ) {x1 : Int32} {x2 : Int32} {x3 : Int32} {x4 : Int32} {x5 : Int32} {x6 : Int32} {x7 : Int32} {x8 : Int32} {μ : gs_M}  (hD : Bo_X12_cheapest_44 q44 x1 x2 x3 x4 x5 x6 x7 x8 μ = some (r, μ2)) : WJ p l e R s m args below meth c 0 0 (MQ below (gs_Q ad g tyc (some (.int r)) μ2) args s 0 0 (gs_A ad)) ad g tyc 10 44 [.ref 78, .int x1, .int x2, .int x3, .int x4, .int x5, .int x6, .int x7, .int x8, gs_J] [] μ := by
  unfold Bo_X12_cheapest_44 at hD
  refine r_iload hK d_X12_cheapest_44 rfl ?_
  refine r_aload_n hK d_X12_cheapest_46 rfl rfl ?_
  refine r_getI hK d_X12_cheapest_47 fl_RX12_269_11 rfl kd_78 ?_
  refine r_icmp_ge (tgt := 130) hK d_X12_cheapest_50 (by decide) (fun h1 => ?_) (fun h1 => ?_)
  · have hD := if_t hD h1
    refine r_iload hK d_X12_cheapest_130 rfl ?_
    cases hD
    exact r_iret hK d_X12_cheapest_132
  · have hD := if_f hD h1
    refine r_aload_n hK d_X12_cheapest_53 rfl rfl ?_
    refine r_iload_n hK d_X12_cheapest_54 rfl rfl ?_
    refine r_iload hK d_X12_cheapest_55 rfl ?_
    obtain ⟨v4, u3, e2, hD⟩ := bd_e hD
    refine r_callV (As := [.int x1, .int x8]) (st := []) (stk2 := [.int v4]) hK (C_X12_canLoad  e2) d_X12_cheapest_57 mf_X12_canLoad ml_RX12_360 im_X12_canLoad rfl se_11_RX12_X12_canLoad kd_78 rfl (Nat.le_of_ble_eq_true rfl) (by decide) ⟨Nat.zero_le _, Nat.zero_le _⟩ rfl rfl ?_
    refine r_if_ne (tgt := 66) hK d_X12_cheapest_60 (by decide) (fun h5 => ?_) (fun h5 => ?_)
    · have hD := if_f hD h5
      refine r_aload_n hK d_X12_cheapest_66 rfl rfl ?_
      refine r_iload_n hK d_X12_cheapest_67 rfl rfl ?_
      refine r_iload hK d_X12_cheapest_68 rfl ?_
      refine r_iconst hK d_X12_cheapest_70 ci_m1 ?_
      refine r_iconst hK d_X12_cheapest_71 ci_0 ?_
      refine r_iconst hK d_X12_cheapest_72 ci_0 ?_
      obtain ⟨v8, u7, e6, hD⟩ := bd_e hD
      refine r_callV (As := [.int x1, .int x8, .int (-1 : Int32), .int (0 : Int32), .int (0 : Int32)]) (st := []) (stk2 := [.int v8]) hK (C_X12_costOf  e6) d_X12_cheapest_73 mf_X12_costOf ml_RX12_420 im_X12_costOf rfl se_11_RX12_X12_costOf kd_78 rfl (Nat.le_of_ble_eq_true rfl) (by decide) ⟨Nat.zero_le _, Nat.zero_le _⟩ rfl rfl ?_
      refine r_istore hK d_X12_cheapest_76 (by decide) (ls2 := [.ref 78, .int x1, .int x2, .int x3, .int x4, .int x5, .int x6, .int x7, .int x8, .int v8]) rfl ?_
      refine r_iload hK d_X12_cheapest_78 rfl ?_
      refine r_iconst hK d_X12_cheapest_80 ci_m1 ?_
      refine r_icmp_eq (tgt := 91) hK d_X12_cheapest_81 (by decide) (fun h9 => ?_) (fun h9 => ?_)
      · have hD := if_t hD h9
        exact T_X12_cheapest_91 hK hq44  hD
      · have hD := if_f hD h9
        refine r_iload hK d_X12_cheapest_84 rfl ?_
        refine r_iload hK d_X12_cheapest_86 rfl ?_
        refine r_icmp_ge (tgt := 124) hK d_X12_cheapest_88 (by decide) (fun h10 => ?_) (fun h10 => ?_)
        · have hD := if_t hD h10
          refine r_iinc hK d_X12_cheapest_124 rfl (v := x8 + (1 : Int32)) (by rw [ci_1]) (by decide) (ls2 := [.ref 78, .int x1, .int x2, .int x3, .int x4, .int x5, .int x6, .int x7, .int (x8 + (1 : Int32)), .int v8]) rfl ?_
          refine r_goto (tgt := 44) hK d_X12_cheapest_127 (by decide) ?_
          refine r_junk [true, true, true, true, true, true, true, true, true, false] (ls2 := [.ref 78, .int x1, .int x2, .int x3, .int x4, .int x5, .int x6, .int x7, .int (x8 + (1 : Int32)), gs_J]) rfl ?_
          exact hq44 _ _ _ _ _ _ _ _ _  hD
        · have hD := if_f hD h10
          exact T_X12_cheapest_91 hK hq44  hD
    · have hD := if_t hD h5
      refine r_goto (tgt := 124) hK d_X12_cheapest_63 (by decide) ?_
      refine r_iinc hK d_X12_cheapest_124 rfl (v := x8 + (1 : Int32)) (by rw [ci_1]) (by decide) (ls2 := [.ref 78, .int x1, .int x2, .int x3, .int x4, .int x5, .int x6, .int x7, .int (x8 + (1 : Int32)), gs_J]) rfl ?_
      refine r_goto (tgt := 44) hK d_X12_cheapest_127 (by decide) ?_
      exact hq44 _ _ _ _ _ _ _ _ _  hD
set_option maxRecDepth 20000 in
theorem TL_X12_cheapest_44  (hK : KC p R s m args meth c ad g tyc RX12 cX12_cheapest 10 (some .int) 9) {r : Int32} {μ2 : gs_M}   : ∀ (n : Nat) (x1 : Int32) (x2 : Int32) (x3 : Int32) (x4 : Int32) (x5 : Int32) (x6 : Int32) (x7 : Int32) (x8 : Int32) (μ : gs_M), L_X12_cheapest_44  n x1 x2 x3 x4 x5 x6 x7 x8 μ = some (r, μ2) → WJ p l e R s m args below meth c 0 0 (MQ below (gs_Q ad g tyc (some (.int r)) μ2) args s 0 0 (gs_A ad)) ad g tyc 10 44 [.ref 78, .int x1, .int x2, .int x3, .int x4, .int x5, .int x6, .int x7, .int x8, gs_J] [] μ := by
  intro n
  induction n with
  | zero => intro x1 x2 x3 x4 x5 x6 x7 x8 μ  hD; cases hD
  | succ n ih => intro x1 x2 x3 x4 x5 x6 x7 x8 μ  hD; exact To_X12_cheapest_44 hK  ih  hD
set_option maxRecDepth 20000 in
theorem C_X12_cheapest  {x1 : Int32} {x2 : Int32} {x3 : Int32} {x4 : Int32} {x5 : Int32} {μ : gs_M} {r : Int32} {μ2 : gs_M}  (hD : D_X12_cheapest x1 x2 x3 x4 x5 μ = some (r, μ2)) : CALL yX12_cheapest cX12_cheapest 10 (some .int) 9 [.ref 78, .int x1, .int x2, .int x3, .int x4, .int x5] μ (some (.int r)) μ2 := by
  unfold D_X12_cheapest at hD
  refine gs_enter mf_X12_cheapest (Nat.le_of_ble_eq_true rfl) (ls := [.ref 78, .int x1, .int x2, .int x3, .int x4, .int x5, gs_J, gs_J, gs_J, gs_J]) rfl (fun p l e R s m args below meth c ad g tyc hK => ?_)
  have hK : KC p R s m args meth c ad g tyc RX12 cX12_cheapest 10 (some .int) 9 := hK
  refine r_aload_n hK d_X12_cheapest_0 rfl rfl ?_
  refine r_iconst hK d_X12_cheapest_1 ci_0 ?_
  refine r_putI hK d_X12_cheapest_2 fl_RX12_98_11 rfl rfl kd_78 ?_
  refine r_ltm hD (fun u1 hD => ?_)
  refine r_aload_n hK d_X12_cheapest_5 rfl rfl ?_
  refine r_iload_n hK d_X12_cheapest_6 rfl rfl ?_
  obtain ⟨v4, u3, e2, hD⟩ := bd_e hD
  refine r_callV (As := [.int x1]) (st := []) (stk2 := [.int v4]) hK (C_X12_isShip  e2) d_X12_cheapest_7 mf_X12_isShip ml_RX12_283 im_X12_isShip rfl se_11_RX12_X12_isShip kd_78 rfl (Nat.le_of_ble_eq_true rfl) (by decide) ⟨Nat.zero_le _, Nat.zero_le _⟩ rfl rfl ?_
  refine r_if_eq (tgt := 33) hK d_X12_cheapest_10 (by decide) (fun h5 => ?_) (fun h5 => ?_)
  · have hD := if_t hD h5
    refine r_iconst hK d_X12_cheapest_33 ci_m1 ?_
    cases hD
    exact r_iret hK d_X12_cheapest_34
  · have hD := if_f hD h5
    refine r_iload_n hK d_X12_cheapest_13 rfl rfl ?_
    refine r_iload_n hK d_X12_cheapest_14 rfl rfl ?_
    refine r_iload hK d_X12_cheapest_15 rfl ?_
    obtain ⟨v8, u7, e6, hD⟩ := bd_e hD
    refine r_callS (As := [.int x2, .int x3, .int x4]) (st := []) (stk2 := [.int v8]) hK (C_X12_isVoyage  e6) d_X12_cheapest_17 mf_X12_isVoyage ml_RX12_424 ss_X12_isVoyage rfl (Nat.le_of_ble_eq_true rfl) (by decide) ⟨Nat.zero_le _, Nat.zero_le _⟩ rfl rfl ?_
    refine r_if_eq (tgt := 33) hK d_X12_cheapest_20 (by decide) (fun h9 => ?_) (fun h9 => ?_)
    · have hD := if_t hD h9
      refine r_iconst hK d_X12_cheapest_33 ci_m1 ?_
      cases hD
      exact r_iret hK d_X12_cheapest_34
    · have hD := if_f hD h9
      refine r_iload hK d_X12_cheapest_23 rfl ?_
      refine r_iconst hK d_X12_cheapest_25 ci_0 ?_
      refine r_iconst hK d_X12_cheapest_26 ci_5 ?_
      obtain ⟨v12, u11, e10, hD⟩ := bd_e hD
      refine r_callS (As := [.int x5, .int (0 : Int32), .int (5 : Int32)]) (st := []) (stk2 := [.int v12]) hK (C_X12_isIn  e10) d_X12_cheapest_27 mf_X12_isIn ml_RX12_217 ss_X12_isIn rfl (Nat.le_of_ble_eq_true rfl) (by decide) ⟨Nat.zero_le _, Nat.zero_le _⟩ rfl rfl ?_
      refine r_if_ne (tgt := 35) hK d_X12_cheapest_30 (by decide) (fun h13 => ?_) (fun h13 => ?_)
      · have hD := if_f hD h13
        refine r_iconst hK d_X12_cheapest_35 ci_m1 ?_
        refine r_istore hK d_X12_cheapest_36 (by decide) (ls2 := [.ref 78, .int x1, .int x2, .int x3, .int x4, .int x5, .int (-1 : Int32), gs_J, gs_J, gs_J]) rfl ?_
        refine r_iconst hK d_X12_cheapest_38 ci_0 ?_
        refine r_istore hK d_X12_cheapest_39 (by decide) (ls2 := [.ref 78, .int x1, .int x2, .int x3, .int x4, .int x5, .int (-1 : Int32), .int (0 : Int32), gs_J, gs_J]) rfl ?_
        refine r_iconst hK d_X12_cheapest_41 ci_0 ?_
        refine r_istore hK d_X12_cheapest_42 (by decide) (ls2 := [.ref 78, .int x1, .int x2, .int x3, .int x4, .int x5, .int (-1 : Int32), .int (0 : Int32), .int (0 : Int32), gs_J]) rfl ?_
        exact TL_X12_cheapest_44 hK  _ _ _ _ _ _ _ _ _ _  hD
      · have hD := if_t hD h13
        refine r_iconst hK d_X12_cheapest_33 ci_m1 ?_
        cases hD
        exact r_iret hK d_X12_cheapest_34
end S_X12_cheapest
theorem d_X12_fitted_0 : gd cX12_fitted 0 (.aload_n 0) 1 1 := ⟨by decide +kernel, rfl⟩
theorem d_X12_fitted_1 : gd cX12_fitted 1 (.iconst 0) 1 2 := ⟨by decide +kernel, rfl⟩
theorem d_X12_fitted_2 : gd cX12_fitted 2 (.putfield 98) 3 5 := ⟨by decide +kernel, rfl⟩
theorem d_X12_fitted_5 : gd cX12_fitted 5 (.aload_n 0) 1 6 := ⟨by decide +kernel, rfl⟩
theorem d_X12_fitted_6 : gd cX12_fitted 6 (.iload_n 1) 1 7 := ⟨by decide +kernel, rfl⟩
theorem d_X12_fitted_7 : gd cX12_fitted 7 (.iload_n 2) 1 8 := ⟨by decide +kernel, rfl⟩
theorem d_X12_fitted_8 : gd cX12_fitted 8 (.invokevirtual 360) 3 11 := ⟨by decide +kernel, rfl⟩
theorem d_X12_fitted_11 : gd cX12_fitted 11 (.ifCond .eq 41) 3 14 := ⟨by decide +kernel, rfl⟩
theorem d_X12_fitted_14 : gd cX12_fitted 14 (.iload_n 3) 1 15 := ⟨by decide +kernel, rfl⟩
theorem d_X12_fitted_15 : gd cX12_fitted 15 (.iconst 0) 1 16 := ⟨by decide +kernel, rfl⟩
theorem d_X12_fitted_16 : gd cX12_fitted 16 (.aload_n 0) 1 17 := ⟨by decide +kernel, rfl⟩
theorem d_X12_fitted_17 : gd cX12_fitted 17 (.getfield 46) 3 20 := ⟨by decide +kernel, rfl⟩
theorem d_X12_fitted_20 : gd cX12_fitted 20 (.iload_n 1) 1 21 := ⟨by decide +kernel, rfl⟩
theorem d_X12_fitted_21 : gd cX12_fitted 21 .iaload 1 22 := ⟨by decide +kernel, rfl⟩
theorem d_X12_fitted_22 : gd cX12_fitted 22 (.iconst 1) 1 23 := ⟨by decide +kernel, rfl⟩
theorem d_X12_fitted_23 : gd cX12_fitted 23 .isub 1 24 := ⟨by decide +kernel, rfl⟩
theorem d_X12_fitted_24 : gd cX12_fitted 24 (.invokestatic 217) 3 27 := ⟨by decide +kernel, rfl⟩
theorem d_X12_fitted_27 : gd cX12_fitted 27 (.ifCond .eq 25) 3 30 := ⟨by decide +kernel, rfl⟩
theorem d_X12_fitted_30 : gd cX12_fitted 30 (.iload 4) 2 32 := ⟨by decide +kernel, rfl⟩
theorem d_X12_fitted_32 : gd cX12_fitted 32 (.iload 5) 2 34 := ⟨by decide +kernel, rfl⟩
theorem d_X12_fitted_34 : gd cX12_fitted 34 (.iload 6) 2 36 := ⟨by decide +kernel, rfl⟩
theorem d_X12_fitted_36 : gd cX12_fitted 36 (.invokestatic 424) 3 39 := ⟨by decide +kernel, rfl⟩
theorem d_X12_fitted_39 : gd cX12_fitted 39 (.ifCond .eq 13) 3 42 := ⟨by decide +kernel, rfl⟩
theorem d_X12_fitted_42 : gd cX12_fitted 42 (.iload 7) 2 44 := ⟨by decide +kernel, rfl⟩
theorem d_X12_fitted_44 : gd cX12_fitted 44 (.iconst 0) 1 45 := ⟨by decide +kernel, rfl⟩
theorem d_X12_fitted_45 : gd cX12_fitted 45 (.iconst 1) 1 46 := ⟨by decide +kernel, rfl⟩
theorem d_X12_fitted_46 : gd cX12_fitted 46 (.invokestatic 217) 3 49 := ⟨by decide +kernel, rfl⟩
theorem d_X12_fitted_49 : gd cX12_fitted 49 (.ifCond .ne 5) 3 52 := ⟨by decide +kernel, rfl⟩
theorem d_X12_fitted_52 : gd cX12_fitted 52 (.iconst (-1)) 1 53 := ⟨by decide +kernel, rfl⟩
theorem d_X12_fitted_53 : gd cX12_fitted 53 .ireturn 1 54 := ⟨by decide +kernel, rfl⟩
theorem d_X12_fitted_54 : gd cX12_fitted 54 (.iconst (-1)) 1 55 := ⟨by decide +kernel, rfl⟩
theorem d_X12_fitted_55 : gd cX12_fitted 55 (.istore 8) 2 57 := ⟨by decide +kernel, rfl⟩
theorem d_X12_fitted_57 : gd cX12_fitted 57 (.iconst 0) 1 58 := ⟨by decide +kernel, rfl⟩
theorem d_X12_fitted_58 : gd cX12_fitted 58 (.istore 9) 2 60 := ⟨by decide +kernel, rfl⟩
theorem d_X12_fitted_60 : gd cX12_fitted 60 (.iconst 0) 1 61 := ⟨by decide +kernel, rfl⟩
theorem d_X12_fitted_61 : gd cX12_fitted 61 (.istore 10) 2 63 := ⟨by decide +kernel, rfl⟩
theorem d_X12_fitted_63 : gd cX12_fitted 63 (.iload 10) 2 65 := ⟨by decide +kernel, rfl⟩
theorem d_X12_fitted_65 : gd cX12_fitted 65 (.iconst 4) 1 66 := ⟨by decide +kernel, rfl⟩
theorem d_X12_fitted_66 : gd cX12_fitted 66 (.if_icmp .ge 90) 3 69 := ⟨by decide +kernel, rfl⟩
theorem d_X12_fitted_69 : gd cX12_fitted 69 (.iconst 0) 1 70 := ⟨by decide +kernel, rfl⟩
theorem d_X12_fitted_70 : gd cX12_fitted 70 (.istore 11) 2 72 := ⟨by decide +kernel, rfl⟩
theorem d_X12_fitted_72 : gd cX12_fitted 72 (.iload 11) 2 74 := ⟨by decide +kernel, rfl⟩
theorem d_X12_fitted_74 : gd cX12_fitted 74 (.bipush 40) 2 76 := ⟨by decide +kernel, rfl⟩
theorem d_X12_fitted_76 : gd cX12_fitted 76 (.if_icmp .gt 74) 3 79 := ⟨by decide +kernel, rfl⟩
theorem d_X12_fitted_79 : gd cX12_fitted 79 (.aload_n 0) 1 80 := ⟨by decide +kernel, rfl⟩
theorem d_X12_fitted_80 : gd cX12_fitted 80 (.iload_n 1) 1 81 := ⟨by decide +kernel, rfl⟩
theorem d_X12_fitted_81 : gd cX12_fitted 81 (.iload_n 2) 1 82 := ⟨by decide +kernel, rfl⟩
theorem d_X12_fitted_82 : gd cX12_fitted 82 (.iload_n 3) 1 83 := ⟨by decide +kernel, rfl⟩
theorem d_X12_fitted_83 : gd cX12_fitted 83 (.iload 11) 2 85 := ⟨by decide +kernel, rfl⟩
theorem d_X12_fitted_85 : gd cX12_fitted 85 (.iload 10) 2 87 := ⟨by decide +kernel, rfl⟩
theorem d_X12_fitted_87 : gd cX12_fitted 87 (.invokevirtual 420) 3 90 := ⟨by decide +kernel, rfl⟩
theorem d_X12_fitted_90 : gd cX12_fitted 90 (.istore 12) 2 92 := ⟨by decide +kernel, rfl⟩
theorem d_X12_fitted_92 : gd cX12_fitted 92 (.iload 8) 2 94 := ⟨by decide +kernel, rfl⟩
theorem d_X12_fitted_94 : gd cX12_fitted 94 (.iconst (-1)) 1 95 := ⟨by decide +kernel, rfl⟩
theorem d_X12_fitted_95 : gd cX12_fitted 95 (.if_icmp .eq 10) 3 98 := ⟨by decide +kernel, rfl⟩
theorem d_X12_fitted_98 : gd cX12_fitted 98 (.iload 12) 2 100 := ⟨by decide +kernel, rfl⟩
theorem d_X12_fitted_100 : gd cX12_fitted 100 (.iload 9) 2 102 := ⟨by decide +kernel, rfl⟩
theorem d_X12_fitted_102 : gd cX12_fitted 102 (.if_icmp .ge 42) 3 105 := ⟨by decide +kernel, rfl⟩
theorem d_X12_fitted_105 : gd cX12_fitted 105 (.aload_n 0) 1 106 := ⟨by decide +kernel, rfl⟩
theorem d_X12_fitted_106 : gd cX12_fitted 106 (.iload_n 1) 1 107 := ⟨by decide +kernel, rfl⟩
theorem d_X12_fitted_107 : gd cX12_fitted 107 (.iload_n 2) 1 108 := ⟨by decide +kernel, rfl⟩
theorem d_X12_fitted_108 : gd cX12_fitted 108 (.iload_n 3) 1 109 := ⟨by decide +kernel, rfl⟩
theorem d_X12_fitted_109 : gd cX12_fitted 109 (.iload 11) 2 111 := ⟨by decide +kernel, rfl⟩
theorem d_X12_fitted_111 : gd cX12_fitted 111 (.iload 10) 2 113 := ⟨by decide +kernel, rfl⟩
theorem d_X12_fitted_113 : gd cX12_fitted 113 (.iload 4) 2 115 := ⟨by decide +kernel, rfl⟩
theorem d_X12_fitted_115 : gd cX12_fitted 115 (.iload 5) 2 117 := ⟨by decide +kernel, rfl⟩
theorem d_X12_fitted_117 : gd cX12_fitted 117 (.iload 6) 2 119 := ⟨by decide +kernel, rfl⟩
theorem d_X12_fitted_119 : gd cX12_fitted 119 (.invokevirtual 427) 3 122 := ⟨by decide +kernel, rfl⟩
theorem d_X12_fitted_122 : gd cX12_fitted 122 (.iload 6) 2 124 := ⟨by decide +kernel, rfl⟩
theorem d_X12_fitted_124 : gd cX12_fitted 124 (.if_icmp .ge 6) 3 127 := ⟨by decide +kernel, rfl⟩
theorem d_X12_fitted_127 : gd cX12_fitted 127 (.goto 17) 3 130 := ⟨by decide +kernel, rfl⟩
theorem d_X12_fitted_130 : gd cX12_fitted 130 (.bipush 41) 2 132 := ⟨by decide +kernel, rfl⟩
theorem d_X12_fitted_132 : gd cX12_fitted 132 (.iload 10) 2 134 := ⟨by decide +kernel, rfl⟩
theorem d_X12_fitted_134 : gd cX12_fitted 134 .imul 1 135 := ⟨by decide +kernel, rfl⟩
theorem d_X12_fitted_135 : gd cX12_fitted 135 (.iload 11) 2 137 := ⟨by decide +kernel, rfl⟩
theorem d_X12_fitted_137 : gd cX12_fitted 137 .iadd 1 138 := ⟨by decide +kernel, rfl⟩
theorem d_X12_fitted_138 : gd cX12_fitted 138 (.istore 8) 2 140 := ⟨by decide +kernel, rfl⟩
theorem d_X12_fitted_140 : gd cX12_fitted 140 (.iload 12) 2 142 := ⟨by decide +kernel, rfl⟩
theorem d_X12_fitted_142 : gd cX12_fitted 142 (.istore 9) 2 144 := ⟨by decide +kernel, rfl⟩
theorem d_X12_fitted_144 : gd cX12_fitted 144 (.iinc 11 5) 3 147 := ⟨by decide +kernel, rfl⟩
theorem d_X12_fitted_147 : gd cX12_fitted 147 (.goto (-75)) 3 150 := ⟨by decide +kernel, rfl⟩
theorem d_X12_fitted_150 : gd cX12_fitted 150 (.iinc 10 1) 3 153 := ⟨by decide +kernel, rfl⟩
theorem d_X12_fitted_153 : gd cX12_fitted 153 (.goto (-90)) 3 156 := ⟨by decide +kernel, rfl⟩
theorem d_X12_fitted_156 : gd cX12_fitted 156 (.iload 8) 2 158 := ⟨by decide +kernel, rfl⟩
theorem d_X12_fitted_158 : gd cX12_fitted 158 (.iconst (-1)) 1 159 := ⟨by decide +kernel, rfl⟩
theorem d_X12_fitted_159 : gd cX12_fitted 159 (.if_icmp .ne 7) 3 162 := ⟨by decide +kernel, rfl⟩
theorem d_X12_fitted_162 : gd cX12_fitted 162 (.iconst (-1)) 1 163 := ⟨by decide +kernel, rfl⟩
theorem d_X12_fitted_163 : gd cX12_fitted 163 (.goto 15) 3 166 := ⟨by decide +kernel, rfl⟩
theorem d_X12_fitted_166 : gd cX12_fitted 166 (.iload 7) 2 168 := ⟨by decide +kernel, rfl⟩
theorem d_X12_fitted_168 : gd cX12_fitted 168 (.ifCond .ne 8) 3 171 := ⟨by decide +kernel, rfl⟩
theorem d_X12_fitted_171 : gd cX12_fitted 171 (.iload 8) 2 173 := ⟨by decide +kernel, rfl⟩
theorem d_X12_fitted_173 : gd cX12_fitted 173 (.goto 5) 3 176 := ⟨by decide +kernel, rfl⟩
theorem d_X12_fitted_176 : gd cX12_fitted 176 (.iload 9) 2 178 := ⟨by decide +kernel, rfl⟩
theorem d_X12_fitted_178 : gd cX12_fitted 178 .ireturn 1 179 := ⟨by decide +kernel, rfl⟩
def B_X12_fitted_105 (q63 : Int32 → Int32 → Int32 → Int32 → Int32 → Int32 → Int32 → Int32 → Int32 → Int32 → gs_M → Option (Int32 × gs_M)) (q72 : Int32 → Int32 → Int32 → Int32 → Int32 → Int32 → Int32 → Int32 → Int32 → Int32 → Int32 → gs_M → Option (Int32 × gs_M)) (x1 : Int32) (x2 : Int32) (x3 : Int32) (x4 : Int32) (x5 : Int32) (x6 : Int32) (x7 : Int32) (x8 : Int32) (x9 : Int32) (x10 : Int32) (x11 : Int32) (x12 : Int32) (μ : gs_M) : Option (Int32 × gs_M) :=
  bd (D_X12_safeBy x1 x2 x3 x11 x10 x4 x5 x6 μ) (fun v3 u2 => if x6 ≤ v3 then (lt1 (((41 : Int32) * x10) + x11) (fun v5 => q72 x1 x2 x3 x4 x5 x6 x7 v5 x12 x10 (x11 + (5 : Int32)) u2)) else (q72 x1 x2 x3 x4 x5 x6 x7 x8 x9 x10 (x11 + (5 : Int32)) u2))
def Bo_X12_fitted_72 (q63 : Int32 → Int32 → Int32 → Int32 → Int32 → Int32 → Int32 → Int32 → Int32 → Int32 → gs_M → Option (Int32 × gs_M)) (q72 : Int32 → Int32 → Int32 → Int32 → Int32 → Int32 → Int32 → Int32 → Int32 → Int32 → Int32 → gs_M → Option (Int32 × gs_M)) (x1 : Int32) (x2 : Int32) (x3 : Int32) (x4 : Int32) (x5 : Int32) (x6 : Int32) (x7 : Int32) (x8 : Int32) (x9 : Int32) (x10 : Int32) (x11 : Int32) (μ : gs_M) : Option (Int32 × gs_M) :=
  if (40 : Int32) < x11 then (q63 x1 x2 x3 x4 x5 x6 x7 x8 x9 (x10 + (1 : Int32)) μ) else (bd (D_X12_costOf x1 x2 x3 x11 x10 μ) (fun v4 u3 => if x8 = (-1 : Int32) then (B_X12_fitted_105 q63 q72 x1 x2 x3 x4 x5 x6 x7 x8 x9 x10 x11 v4 u3) else (if x9 ≤ v4 then (q72 x1 x2 x3 x4 x5 x6 x7 x8 x9 x10 (x11 + (5 : Int32)) u3) else (B_X12_fitted_105 q63 q72 x1 x2 x3 x4 x5 x6 x7 x8 x9 x10 x11 v4 u3))))
def L_X12_fitted_72 (q63 : Int32 → Int32 → Int32 → Int32 → Int32 → Int32 → Int32 → Int32 → Int32 → Int32 → gs_M → Option (Int32 × gs_M)) : Nat → Int32 → Int32 → Int32 → Int32 → Int32 → Int32 → Int32 → Int32 → Int32 → Int32 → Int32 → gs_M → Option (Int32 × gs_M)
  | 0 => fun _ _ _ _ _ _ _ _ _ _ _ _ => none
  | n + 1 => fun x1 x2 x3 x4 x5 x6 x7 x8 x9 x10 x11 μ => Bo_X12_fitted_72 q63 (L_X12_fitted_72 q63 n) x1 x2 x3 x4 x5 x6 x7 x8 x9 x10 x11 μ
def Bo_X12_fitted_63 (q63 : Int32 → Int32 → Int32 → Int32 → Int32 → Int32 → Int32 → Int32 → Int32 → Int32 → gs_M → Option (Int32 × gs_M)) (x1 : Int32) (x2 : Int32) (x3 : Int32) (x4 : Int32) (x5 : Int32) (x6 : Int32) (x7 : Int32) (x8 : Int32) (x9 : Int32) (x10 : Int32) (μ : gs_M) : Option (Int32 × gs_M) :=
  if (4 : Int32) ≤ x10 then (if x8 = (-1 : Int32) then (some ((-1 : Int32), μ)) else (if x7 = 0 then (some (x8, μ)) else (some (x9, μ)))) else (L_X12_fitted_72 q63 4096 x1 x2 x3 x4 x5 x6 x7 x8 x9 x10 (0 : Int32) μ)
def L_X12_fitted_63  : Nat → Int32 → Int32 → Int32 → Int32 → Int32 → Int32 → Int32 → Int32 → Int32 → Int32 → gs_M → Option (Int32 × gs_M)
  | 0 => fun _ _ _ _ _ _ _ _ _ _ _ => none
  | n + 1 => fun x1 x2 x3 x4 x5 x6 x7 x8 x9 x10 μ => Bo_X12_fitted_63  (L_X12_fitted_63  n) x1 x2 x3 x4 x5 x6 x7 x8 x9 x10 μ
def D_X12_fitted (x1 : Int32) (x2 : Int32) (x3 : Int32) (x4 : Int32) (x5 : Int32) (x6 : Int32) (x7 : Int32) (μ : gs_M) : Option (Int32 × gs_M) :=
  lt1 (sI μ 78 0 (0 : Int32)) (fun u1 => bd (D_X12_canLoad x1 x2 u1) (fun v4 u3 => if v4 = 0 then (some ((-1 : Int32), u3)) else (ck (inb x1 4) (bd (D_X12_isIn x3 (0 : Int32) ((gI u3 86 (Int32.toNatClampNeg x1)) - (1 : Int32)) u3) (fun v9 u8 => if v9 = 0 then (some ((-1 : Int32), u8)) else (bd (D_X12_isVoyage x4 x5 x6 u8) (fun v13 u12 => if v13 = 0 then (some ((-1 : Int32), u12)) else (bd (D_X12_isIn x7 (0 : Int32) (1 : Int32) u12) (fun v17 u16 => if v17 = 0 then (some ((-1 : Int32), u16)) else (L_X12_fitted_63 4096 x1 x2 x3 x4 x5 x6 x7 (-1 : Int32) (0 : Int32) (0 : Int32) u16))))))))))
section S_X12_fitted
variable {p : Program} {l : Launch} {e : Env} {R : Room} {s : State} {m : MethodId} {args : Array Value} {below : List Frame} {meth : Method} {c : Code} {ad : Nat → Nat} {g : va_G} {tyc : Nat → ClassId}
set_option maxRecDepth 20000 in
theorem T_X12_fitted_105  (hK : KC p R s m args meth c ad g tyc RX12 cX12_fitted 13 (some .int) 9) {r : Int32} {μ2 : gs_M} {q63 : Int32 → Int32 → Int32 → Int32 → Int32 → Int32 → Int32 → Int32 → Int32 → Int32 → gs_M → Option (Int32 × gs_M)} {q72 : Int32 → Int32 → Int32 → Int32 → Int32 → Int32 → Int32 → Int32 → Int32 → Int32 → Int32 → gs_M → Option (Int32 × gs_M)} (hq63 : ∀ (x1 : Int32) (x2 : Int32) (x3 : Int32) (x4 : Int32) (x5 : Int32) (x6 : Int32) (x7 : Int32) (x8 : Int32) (x9 : Int32) (x10 : Int32) (μ : gs_M), q63 x1 x2 x3 x4 x5 x6 x7 x8 x9 x10 μ = some (r, μ2) → WJ p l e R s m args below meth c 0 0 (MQ below (gs_Q ad g tyc (some (.int r)) μ2) args s 0 0 (gs_A ad)) ad g tyc 13 63 [.ref 78, .int x1, .int x2, .int x3, .int x4, .int x5, .int x6, .int x7, .int x8, .int x9, .int x10, gs_J, gs_J] [] μ) (hq72 : ∀ (x1 : Int32) (x2 : Int32) (x3 : Int32) (x4 : Int32) (x5 : Int32) (x6 : Int32) (x7 : Int32) (x8 : Int32) (x9 : Int32) (x10 : Int32) (x11 : Int32) (μ : gs_M), q72 x1 x2 x3 x4 x5 x6 x7 x8 x9 x10 x11 μ = some (r, μ2) → WJ p l e R s m args below meth c 0 0 (MQ below (gs_Q ad g tyc (some (.int r)) μ2) args s 0 0 (gs_A ad)) ad g tyc 13 72 [.ref 78, .int x1, .int x2, .int x3, .int x4, .int x5, .int x6, .int x7, .int x8, .int x9, .int x10, .int x11, gs_J] [] μ) {x1 : Int32} {x2 : Int32} {x3 : Int32} {x4 : Int32} {x5 : Int32} {x6 : Int32} {x7 : Int32} {x8 : Int32} {x9 : Int32} {x10 : Int32} {x11 : Int32} {x12 : Int32} {μ : gs_M}  (hD : B_X12_fitted_105 q63 q72 x1 x2 x3 x4 x5 x6 x7 x8 x9 x10 x11 x12 μ = some (r, μ2)) : WJ p l e R s m args below meth c 0 0 (MQ below (gs_Q ad g tyc (some (.int r)) μ2) args s 0 0 (gs_A ad)) ad g tyc 13 105 [.ref 78, .int x1, .int x2, .int x3, .int x4, .int x5, .int x6, .int x7, .int x8, .int x9, .int x10, .int x11, .int x12] [] μ := by
  unfold B_X12_fitted_105 at hD
  refine r_aload_n hK d_X12_fitted_105 rfl rfl ?_
  refine r_iload_n hK d_X12_fitted_106 rfl rfl ?_
  refine r_iload_n hK d_X12_fitted_107 rfl rfl ?_
  refine r_iload_n hK d_X12_fitted_108 rfl rfl ?_
  refine r_iload hK d_X12_fitted_109 rfl ?_
  refine r_iload hK d_X12_fitted_111 rfl ?_
  refine r_iload hK d_X12_fitted_113 rfl ?_
  refine r_iload hK d_X12_fitted_115 rfl ?_
  refine r_iload hK d_X12_fitted_117 rfl ?_
  obtain ⟨v3, u2, e1, hD⟩ := bd_e hD
  refine r_callV (As := [.int x1, .int x2, .int x3, .int x11, .int x10, .int x4, .int x5, .int x6]) (st := []) (stk2 := [.int v3]) hK (C_X12_safeBy  e1) d_X12_fitted_119 mf_X12_safeBy ml_RX12_427 im_X12_safeBy rfl se_11_RX12_X12_safeBy kd_78 rfl (Nat.le_of_ble_eq_true rfl) (by decide) ⟨Nat.zero_le _, Nat.zero_le _⟩ rfl rfl ?_
  refine r_iload hK d_X12_fitted_122 rfl ?_
  refine r_icmp_ge (tgt := 130) hK d_X12_fitted_124 (by decide) (fun h4 => ?_) (fun h4 => ?_)
  · have hD := if_t hD h4
    refine r_bipush hK d_X12_fitted_130 cb_41 ?_
    refine r_iload hK d_X12_fitted_132 rfl ?_
    refine r_imul hK d_X12_fitted_134 ?_
    refine r_iload hK d_X12_fitted_135 rfl ?_
    refine r_iadd hK d_X12_fitted_137 ?_
    refine r_lti hD (fun v5 hD => ?_)
    refine r_istore hK d_X12_fitted_138 (by decide) (ls2 := [.ref 78, .int x1, .int x2, .int x3, .int x4, .int x5, .int x6, .int x7, .int v5, .int x9, .int x10, .int x11, .int x12]) rfl ?_
    refine r_iload hK d_X12_fitted_140 rfl ?_
    refine r_istore hK d_X12_fitted_142 (by decide) (ls2 := [.ref 78, .int x1, .int x2, .int x3, .int x4, .int x5, .int x6, .int x7, .int v5, .int x12, .int x10, .int x11, .int x12]) rfl ?_
    refine r_iinc hK d_X12_fitted_144 rfl (v := x11 + (5 : Int32)) (by rw [ci_5]) (by decide) (ls2 := [.ref 78, .int x1, .int x2, .int x3, .int x4, .int x5, .int x6, .int x7, .int v5, .int x12, .int x10, .int (x11 + (5 : Int32)), .int x12]) rfl ?_
    refine r_goto (tgt := 72) hK d_X12_fitted_147 (by decide) ?_
    refine r_junk [true, true, true, true, true, true, true, true, true, true, true, true, false] (ls2 := [.ref 78, .int x1, .int x2, .int x3, .int x4, .int x5, .int x6, .int x7, .int v5, .int x12, .int x10, .int (x11 + (5 : Int32)), gs_J]) rfl ?_
    exact hq72 _ _ _ _ _ _ _ _ _ _ _ _  hD
  · have hD := if_f hD h4
    refine r_goto (tgt := 144) hK d_X12_fitted_127 (by decide) ?_
    refine r_iinc hK d_X12_fitted_144 rfl (v := x11 + (5 : Int32)) (by rw [ci_5]) (by decide) (ls2 := [.ref 78, .int x1, .int x2, .int x3, .int x4, .int x5, .int x6, .int x7, .int x8, .int x9, .int x10, .int (x11 + (5 : Int32)), .int x12]) rfl ?_
    refine r_goto (tgt := 72) hK d_X12_fitted_147 (by decide) ?_
    refine r_junk [true, true, true, true, true, true, true, true, true, true, true, true, false] (ls2 := [.ref 78, .int x1, .int x2, .int x3, .int x4, .int x5, .int x6, .int x7, .int x8, .int x9, .int x10, .int (x11 + (5 : Int32)), gs_J]) rfl ?_
    exact hq72 _ _ _ _ _ _ _ _ _ _ _ _  hD
set_option maxRecDepth 20000 in
theorem To_X12_fitted_72  (hK : KC p R s m args meth c ad g tyc RX12 cX12_fitted 13 (some .int) 9) {r : Int32} {μ2 : gs_M} {q63 : Int32 → Int32 → Int32 → Int32 → Int32 → Int32 → Int32 → Int32 → Int32 → Int32 → gs_M → Option (Int32 × gs_M)} {q72 : Int32 → Int32 → Int32 → Int32 → Int32 → Int32 → Int32 → Int32 → Int32 → Int32 → Int32 → gs_M → Option (Int32 × gs_M)} (hq63 : ∀ (x1 : Int32) (x2 : Int32) (x3 : Int32) (x4 : Int32) (x5 : Int32) (x6 : Int32) (x7 : Int32) (x8 : Int32) (x9 : Int32) (x10 : Int32) (μ : gs_M), q63 x1 x2 x3 x4 x5 x6 x7 x8 x9 x10 μ = some (r, μ2) → WJ p l e R s m args below meth c 0 0 (MQ below (gs_Q ad g tyc (some (.int r)) μ2) args s 0 0 (gs_A ad)) ad g tyc 13 63 [.ref 78, .int x1, .int x2, .int x3, .int x4, .int x5, .int x6, .int x7, .int x8, .int x9, .int x10, gs_J, gs_J] [] μ) (hq72 : ∀ (x1 : Int32) (x2 : Int32) (x3 : Int32) (x4 : Int32) (x5 : Int32) (x6 : Int32) (x7 : Int32) (x8 : Int32) (x9 : Int32) (x10 : Int32) (x11 : Int32) (μ : gs_M), q72 x1 x2 x3 x4 x5 x6 x7 x8 x9 x10 x11 μ = some (r, μ2) → WJ p l e R s m args below meth c 0 0 (MQ below (gs_Q ad g tyc (some (.int r)) μ2) args s 0 0 (gs_A ad)) ad g tyc 13 72 [.ref 78, .int x1, .int x2, .int x3, .int x4, .int x5, .int x6, .int x7, .int x8, .int x9, .int x10, .int x11, gs_J] [] μ) {x1 : Int32} {x2 : Int32} {x3 : Int32} {x4 : Int32} {x5 : Int32} {x6 : Int32} {x7 : Int32} {x8 : Int32} {x9 : Int32} {x10 : Int32} {x11 : Int32} {μ : gs_M}  (hD : Bo_X12_fitted_72 q63 q72 x1 x2 x3 x4 x5 x6 x7 x8 x9 x10 x11 μ = some (r, μ2)) : WJ p l e R s m args below meth c 0 0 (MQ below (gs_Q ad g tyc (some (.int r)) μ2) args s 0 0 (gs_A ad)) ad g tyc 13 72 [.ref 78, .int x1, .int x2, .int x3, .int x4, .int x5, .int x6, .int x7, .int x8, .int x9, .int x10, .int x11, gs_J] [] μ := by
  unfold Bo_X12_fitted_72 at hD
  refine r_iload hK d_X12_fitted_72 rfl ?_
  refine r_bipush hK d_X12_fitted_74 cb_40 ?_
  refine r_icmp_gt (tgt := 150) hK d_X12_fitted_76 (by decide) (fun h1 => ?_) (fun h1 => ?_)
  · have hD := if_t hD h1
    refine r_iinc hK d_X12_fitted_150 rfl (v := x10 + (1 : Int32)) (by rw [ci_1]) (by decide) (ls2 := [.ref 78, .int x1, .int x2, .int x3, .int x4, .int x5, .int x6, .int x7, .int x8, .int x9, .int (x10 + (1 : Int32)), .int x11, gs_J]) rfl ?_
    refine r_goto (tgt := 63) hK d_X12_fitted_153 (by decide) ?_
    refine r_junk [true, true, true, true, true, true, true, true, true, true, true, false, false] (ls2 := [.ref 78, .int x1, .int x2, .int x3, .int x4, .int x5, .int x6, .int x7, .int x8, .int x9, .int (x10 + (1 : Int32)), gs_J, gs_J]) rfl ?_
    exact hq63 _ _ _ _ _ _ _ _ _ _ _  hD
  · have hD := if_f hD h1
    refine r_aload_n hK d_X12_fitted_79 rfl rfl ?_
    refine r_iload_n hK d_X12_fitted_80 rfl rfl ?_
    refine r_iload_n hK d_X12_fitted_81 rfl rfl ?_
    refine r_iload_n hK d_X12_fitted_82 rfl rfl ?_
    refine r_iload hK d_X12_fitted_83 rfl ?_
    refine r_iload hK d_X12_fitted_85 rfl ?_
    obtain ⟨v4, u3, e2, hD⟩ := bd_e hD
    refine r_callV (As := [.int x1, .int x2, .int x3, .int x11, .int x10]) (st := []) (stk2 := [.int v4]) hK (C_X12_costOf  e2) d_X12_fitted_87 mf_X12_costOf ml_RX12_420 im_X12_costOf rfl se_11_RX12_X12_costOf kd_78 rfl (Nat.le_of_ble_eq_true rfl) (by decide) ⟨Nat.zero_le _, Nat.zero_le _⟩ rfl rfl ?_
    refine r_istore hK d_X12_fitted_90 (by decide) (ls2 := [.ref 78, .int x1, .int x2, .int x3, .int x4, .int x5, .int x6, .int x7, .int x8, .int x9, .int x10, .int x11, .int v4]) rfl ?_
    refine r_iload hK d_X12_fitted_92 rfl ?_
    refine r_iconst hK d_X12_fitted_94 ci_m1 ?_
    refine r_icmp_eq (tgt := 105) hK d_X12_fitted_95 (by decide) (fun h5 => ?_) (fun h5 => ?_)
    · have hD := if_t hD h5
      exact T_X12_fitted_105 hK hq63 hq72  hD
    · have hD := if_f hD h5
      refine r_iload hK d_X12_fitted_98 rfl ?_
      refine r_iload hK d_X12_fitted_100 rfl ?_
      refine r_icmp_ge (tgt := 144) hK d_X12_fitted_102 (by decide) (fun h6 => ?_) (fun h6 => ?_)
      · have hD := if_t hD h6
        refine r_iinc hK d_X12_fitted_144 rfl (v := x11 + (5 : Int32)) (by rw [ci_5]) (by decide) (ls2 := [.ref 78, .int x1, .int x2, .int x3, .int x4, .int x5, .int x6, .int x7, .int x8, .int x9, .int x10, .int (x11 + (5 : Int32)), .int v4]) rfl ?_
        refine r_goto (tgt := 72) hK d_X12_fitted_147 (by decide) ?_
        refine r_junk [true, true, true, true, true, true, true, true, true, true, true, true, false] (ls2 := [.ref 78, .int x1, .int x2, .int x3, .int x4, .int x5, .int x6, .int x7, .int x8, .int x9, .int x10, .int (x11 + (5 : Int32)), gs_J]) rfl ?_
        exact hq72 _ _ _ _ _ _ _ _ _ _ _ _  hD
      · have hD := if_f hD h6
        exact T_X12_fitted_105 hK hq63 hq72  hD
set_option maxRecDepth 20000 in
theorem TL_X12_fitted_72  (hK : KC p R s m args meth c ad g tyc RX12 cX12_fitted 13 (some .int) 9) {r : Int32} {μ2 : gs_M} {q63 : Int32 → Int32 → Int32 → Int32 → Int32 → Int32 → Int32 → Int32 → Int32 → Int32 → gs_M → Option (Int32 × gs_M)} (hq63 : ∀ (x1 : Int32) (x2 : Int32) (x3 : Int32) (x4 : Int32) (x5 : Int32) (x6 : Int32) (x7 : Int32) (x8 : Int32) (x9 : Int32) (x10 : Int32) (μ : gs_M), q63 x1 x2 x3 x4 x5 x6 x7 x8 x9 x10 μ = some (r, μ2) → WJ p l e R s m args below meth c 0 0 (MQ below (gs_Q ad g tyc (some (.int r)) μ2) args s 0 0 (gs_A ad)) ad g tyc 13 63 [.ref 78, .int x1, .int x2, .int x3, .int x4, .int x5, .int x6, .int x7, .int x8, .int x9, .int x10, gs_J, gs_J] [] μ) : ∀ (n : Nat) (x1 : Int32) (x2 : Int32) (x3 : Int32) (x4 : Int32) (x5 : Int32) (x6 : Int32) (x7 : Int32) (x8 : Int32) (x9 : Int32) (x10 : Int32) (x11 : Int32) (μ : gs_M), L_X12_fitted_72 q63 n x1 x2 x3 x4 x5 x6 x7 x8 x9 x10 x11 μ = some (r, μ2) → WJ p l e R s m args below meth c 0 0 (MQ below (gs_Q ad g tyc (some (.int r)) μ2) args s 0 0 (gs_A ad)) ad g tyc 13 72 [.ref 78, .int x1, .int x2, .int x3, .int x4, .int x5, .int x6, .int x7, .int x8, .int x9, .int x10, .int x11, gs_J] [] μ := by
  intro n
  induction n with
  | zero => intro x1 x2 x3 x4 x5 x6 x7 x8 x9 x10 x11 μ  hD; cases hD
  | succ n ih => intro x1 x2 x3 x4 x5 x6 x7 x8 x9 x10 x11 μ  hD; exact To_X12_fitted_72 hK hq63 ih  hD
set_option maxRecDepth 20000 in
theorem To_X12_fitted_63  (hK : KC p R s m args meth c ad g tyc RX12 cX12_fitted 13 (some .int) 9) {r : Int32} {μ2 : gs_M} {q63 : Int32 → Int32 → Int32 → Int32 → Int32 → Int32 → Int32 → Int32 → Int32 → Int32 → gs_M → Option (Int32 × gs_M)} (hq63 : ∀ (x1 : Int32) (x2 : Int32) (x3 : Int32) (x4 : Int32) (x5 : Int32) (x6 : Int32) (x7 : Int32) (x8 : Int32) (x9 : Int32) (x10 : Int32) (μ : gs_M), q63 x1 x2 x3 x4 x5 x6 x7 x8 x9 x10 μ = some (r, μ2) → WJ p l e R s m args below meth c 0 0 (MQ below (gs_Q ad g tyc (some (.int r)) μ2) args s 0 0 (gs_A ad)) ad g tyc 13 63 [.ref 78, .int x1, .int x2, .int x3, .int x4, .int x5, .int x6, .int x7, .int x8, .int x9, .int x10, gs_J, gs_J] [] μ) {x1 : Int32} {x2 : Int32} {x3 : Int32} {x4 : Int32} {x5 : Int32} {x6 : Int32} {x7 : Int32} {x8 : Int32} {x9 : Int32} {x10 : Int32} {μ : gs_M}  (hD : Bo_X12_fitted_63 q63 x1 x2 x3 x4 x5 x6 x7 x8 x9 x10 μ = some (r, μ2)) : WJ p l e R s m args below meth c 0 0 (MQ below (gs_Q ad g tyc (some (.int r)) μ2) args s 0 0 (gs_A ad)) ad g tyc 13 63 [.ref 78, .int x1, .int x2, .int x3, .int x4, .int x5, .int x6, .int x7, .int x8, .int x9, .int x10, gs_J, gs_J] [] μ := by
  unfold Bo_X12_fitted_63 at hD
  refine r_iload hK d_X12_fitted_63 rfl ?_
  refine r_iconst hK d_X12_fitted_65 ci_4 ?_
  refine r_icmp_ge (tgt := 156) hK d_X12_fitted_66 (by decide) (fun h1 => ?_) (fun h1 => ?_)
  · have hD := if_t hD h1
    refine r_iload hK d_X12_fitted_156 rfl ?_
    refine r_iconst hK d_X12_fitted_158 ci_m1 ?_
    refine r_icmp_ne (tgt := 166) hK d_X12_fitted_159 (by decide) (fun h2 => ?_) (fun h2 => ?_)
    · have hD := if_f hD h2
      refine r_iload hK d_X12_fitted_166 rfl ?_
      refine r_if_ne (tgt := 176) hK d_X12_fitted_168 (by decide) (fun h3 => ?_) (fun h3 => ?_)
      · have hD := if_f hD h3
        refine r_iload hK d_X12_fitted_176 rfl ?_
        cases hD
        exact r_iret hK d_X12_fitted_178
      · have hD := if_t hD h3
        refine r_iload hK d_X12_fitted_171 rfl ?_
        refine r_goto (tgt := 178) hK d_X12_fitted_173 (by decide) ?_
        cases hD
        exact r_iret hK d_X12_fitted_178
    · have hD := if_t hD h2
      refine r_iconst hK d_X12_fitted_162 ci_m1 ?_
      refine r_goto (tgt := 178) hK d_X12_fitted_163 (by decide) ?_
      cases hD
      exact r_iret hK d_X12_fitted_178
  · have hD := if_f hD h1
    refine r_iconst hK d_X12_fitted_69 ci_0 ?_
    refine r_istore hK d_X12_fitted_70 (by decide) (ls2 := [.ref 78, .int x1, .int x2, .int x3, .int x4, .int x5, .int x6, .int x7, .int x8, .int x9, .int x10, .int (0 : Int32), gs_J]) rfl ?_
    exact TL_X12_fitted_72 hK hq63 _ _ _ _ _ _ _ _ _ _ _ _ _  hD
set_option maxRecDepth 20000 in
theorem TL_X12_fitted_63  (hK : KC p R s m args meth c ad g tyc RX12 cX12_fitted 13 (some .int) 9) {r : Int32} {μ2 : gs_M}   : ∀ (n : Nat) (x1 : Int32) (x2 : Int32) (x3 : Int32) (x4 : Int32) (x5 : Int32) (x6 : Int32) (x7 : Int32) (x8 : Int32) (x9 : Int32) (x10 : Int32) (μ : gs_M), L_X12_fitted_63  n x1 x2 x3 x4 x5 x6 x7 x8 x9 x10 μ = some (r, μ2) → WJ p l e R s m args below meth c 0 0 (MQ below (gs_Q ad g tyc (some (.int r)) μ2) args s 0 0 (gs_A ad)) ad g tyc 13 63 [.ref 78, .int x1, .int x2, .int x3, .int x4, .int x5, .int x6, .int x7, .int x8, .int x9, .int x10, gs_J, gs_J] [] μ := by
  intro n
  induction n with
  | zero => intro x1 x2 x3 x4 x5 x6 x7 x8 x9 x10 μ  hD; cases hD
  | succ n ih => intro x1 x2 x3 x4 x5 x6 x7 x8 x9 x10 μ  hD; exact To_X12_fitted_63 hK  ih  hD
set_option maxRecDepth 20000 in
theorem C_X12_fitted  {x1 : Int32} {x2 : Int32} {x3 : Int32} {x4 : Int32} {x5 : Int32} {x6 : Int32} {x7 : Int32} {μ : gs_M} {r : Int32} {μ2 : gs_M}  (hD : D_X12_fitted x1 x2 x3 x4 x5 x6 x7 μ = some (r, μ2)) : CALL yX12_fitted cX12_fitted 13 (some .int) 9 [.ref 78, .int x1, .int x2, .int x3, .int x4, .int x5, .int x6, .int x7] μ (some (.int r)) μ2 := by
  unfold D_X12_fitted at hD
  refine gs_enter mf_X12_fitted (Nat.le_of_ble_eq_true rfl) (ls := [.ref 78, .int x1, .int x2, .int x3, .int x4, .int x5, .int x6, .int x7, gs_J, gs_J, gs_J, gs_J, gs_J]) rfl (fun p l e R s m args below meth c ad g tyc hK => ?_)
  have hK : KC p R s m args meth c ad g tyc RX12 cX12_fitted 13 (some .int) 9 := hK
  refine r_aload_n hK d_X12_fitted_0 rfl rfl ?_
  refine r_iconst hK d_X12_fitted_1 ci_0 ?_
  refine r_putI hK d_X12_fitted_2 fl_RX12_98_11 rfl rfl kd_78 ?_
  refine r_ltm hD (fun u1 hD => ?_)
  refine r_aload_n hK d_X12_fitted_5 rfl rfl ?_
  refine r_iload_n hK d_X12_fitted_6 rfl rfl ?_
  refine r_iload_n hK d_X12_fitted_7 rfl rfl ?_
  obtain ⟨v4, u3, e2, hD⟩ := bd_e hD
  refine r_callV (As := [.int x1, .int x2]) (st := []) (stk2 := [.int v4]) hK (C_X12_canLoad  e2) d_X12_fitted_8 mf_X12_canLoad ml_RX12_360 im_X12_canLoad rfl se_11_RX12_X12_canLoad kd_78 rfl (Nat.le_of_ble_eq_true rfl) (by decide) ⟨Nat.zero_le _, Nat.zero_le _⟩ rfl rfl ?_
  refine r_if_eq (tgt := 52) hK d_X12_fitted_11 (by decide) (fun h5 => ?_) (fun h5 => ?_)
  · have hD := if_t hD h5
    refine r_iconst hK d_X12_fitted_52 ci_m1 ?_
    cases hD
    exact r_iret hK d_X12_fitted_53
  · have hD := if_f hD h5
    refine r_iload_n hK d_X12_fitted_14 rfl rfl ?_
    refine r_iconst hK d_X12_fitted_15 ci_0 ?_
    refine r_aload_n hK d_X12_fitted_16 rfl rfl ?_
    refine r_getR hK d_X12_fitted_17 fl_RX12_46_11 rfl kd_78 ?_
    refine r_ref (b := 86) R0_78_21 ?_
    refine r_iload_n hK d_X12_fitted_20 rfl rfl ?_
    obtain ⟨h6, hD⟩ := ck_e hD
    refine r_iald hK d_X12_fitted_21 kd_86 ln_86 (inb_in h6) ?_
    refine r_iconst hK d_X12_fitted_22 ci_1 ?_
    refine r_isub hK d_X12_fitted_23 ?_
    obtain ⟨v9, u8, e7, hD⟩ := bd_e hD
    refine r_callS (As := [.int x3, .int (0 : Int32), .int ((gI u3 86 (Int32.toNatClampNeg x1)) - (1 : Int32))]) (st := []) (stk2 := [.int v9]) hK (C_X12_isIn  e7) d_X12_fitted_24 mf_X12_isIn ml_RX12_217 ss_X12_isIn rfl (Nat.le_of_ble_eq_true rfl) (by decide) ⟨Nat.zero_le _, Nat.zero_le _⟩ rfl rfl ?_
    refine r_if_eq (tgt := 52) hK d_X12_fitted_27 (by decide) (fun h10 => ?_) (fun h10 => ?_)
    · have hD := if_t hD h10
      refine r_iconst hK d_X12_fitted_52 ci_m1 ?_
      cases hD
      exact r_iret hK d_X12_fitted_53
    · have hD := if_f hD h10
      refine r_iload hK d_X12_fitted_30 rfl ?_
      refine r_iload hK d_X12_fitted_32 rfl ?_
      refine r_iload hK d_X12_fitted_34 rfl ?_
      obtain ⟨v13, u12, e11, hD⟩ := bd_e hD
      refine r_callS (As := [.int x4, .int x5, .int x6]) (st := []) (stk2 := [.int v13]) hK (C_X12_isVoyage  e11) d_X12_fitted_36 mf_X12_isVoyage ml_RX12_424 ss_X12_isVoyage rfl (Nat.le_of_ble_eq_true rfl) (by decide) ⟨Nat.zero_le _, Nat.zero_le _⟩ rfl rfl ?_
      refine r_if_eq (tgt := 52) hK d_X12_fitted_39 (by decide) (fun h14 => ?_) (fun h14 => ?_)
      · have hD := if_t hD h14
        refine r_iconst hK d_X12_fitted_52 ci_m1 ?_
        cases hD
        exact r_iret hK d_X12_fitted_53
      · have hD := if_f hD h14
        refine r_iload hK d_X12_fitted_42 rfl ?_
        refine r_iconst hK d_X12_fitted_44 ci_0 ?_
        refine r_iconst hK d_X12_fitted_45 ci_1 ?_
        obtain ⟨v17, u16, e15, hD⟩ := bd_e hD
        refine r_callS (As := [.int x7, .int (0 : Int32), .int (1 : Int32)]) (st := []) (stk2 := [.int v17]) hK (C_X12_isIn  e15) d_X12_fitted_46 mf_X12_isIn ml_RX12_217 ss_X12_isIn rfl (Nat.le_of_ble_eq_true rfl) (by decide) ⟨Nat.zero_le _, Nat.zero_le _⟩ rfl rfl ?_
        refine r_if_ne (tgt := 54) hK d_X12_fitted_49 (by decide) (fun h18 => ?_) (fun h18 => ?_)
        · have hD := if_f hD h18
          refine r_iconst hK d_X12_fitted_54 ci_m1 ?_
          refine r_istore hK d_X12_fitted_55 (by decide) (ls2 := [.ref 78, .int x1, .int x2, .int x3, .int x4, .int x5, .int x6, .int x7, .int (-1 : Int32), gs_J, gs_J, gs_J, gs_J]) rfl ?_
          refine r_iconst hK d_X12_fitted_57 ci_0 ?_
          refine r_istore hK d_X12_fitted_58 (by decide) (ls2 := [.ref 78, .int x1, .int x2, .int x3, .int x4, .int x5, .int x6, .int x7, .int (-1 : Int32), .int (0 : Int32), gs_J, gs_J, gs_J]) rfl ?_
          refine r_iconst hK d_X12_fitted_60 ci_0 ?_
          refine r_istore hK d_X12_fitted_61 (by decide) (ls2 := [.ref 78, .int x1, .int x2, .int x3, .int x4, .int x5, .int x6, .int x7, .int (-1 : Int32), .int (0 : Int32), .int (0 : Int32), gs_J, gs_J]) rfl ?_
          exact TL_X12_fitted_63 hK  _ _ _ _ _ _ _ _ _ _ _ _  hD
        · have hD := if_t hD h18
          refine r_iconst hK d_X12_fitted_52 ci_m1 ?_
          cases hD
          exact r_iret hK d_X12_fitted_53
end S_X12_fitted
theorem d_X12_log_0 : gd cX12_log 0 (.aload_n 0) 1 1 := ⟨by decide +kernel, rfl⟩
theorem d_X12_log_1 : gd cX12_log 1 (.iconst 0) 1 2 := ⟨by decide +kernel, rfl⟩
theorem d_X12_log_2 : gd cX12_log 2 (.putfield 98) 3 5 := ⟨by decide +kernel, rfl⟩
theorem d_X12_log_5 : gd cX12_log 5 (.aload_n 0) 1 6 := ⟨by decide +kernel, rfl⟩
theorem d_X12_log_6 : gd cX12_log 6 (.getfield 431) 3 9 := ⟨by decide +kernel, rfl⟩
theorem d_X12_log_9 : gd cX12_log 9 (.bipush 20) 2 11 := ⟨by decide +kernel, rfl⟩
theorem d_X12_log_11 : gd cX12_log 11 (.if_icmp .eq 14) 3 14 := ⟨by decide +kernel, rfl⟩
theorem d_X12_log_14 : gd cX12_log 14 (.iload_n 1) 1 15 := ⟨by decide +kernel, rfl⟩
theorem d_X12_log_15 : gd cX12_log 15 (.bipush (-60)) 2 17 := ⟨by decide +kernel, rfl⟩
theorem d_X12_log_17 : gd cX12_log 17 (.bipush 60) 2 19 := ⟨by decide +kernel, rfl⟩
theorem d_X12_log_19 : gd cX12_log 19 (.invokestatic 217) 3 22 := ⟨by decide +kernel, rfl⟩
theorem d_X12_log_22 : gd cX12_log 22 (.ifCond .ne 5) 3 25 := ⟨by decide +kernel, rfl⟩
theorem d_X12_log_25 : gd cX12_log 25 (.iconst (-1)) 1 26 := ⟨by decide +kernel, rfl⟩
theorem d_X12_log_26 : gd cX12_log 26 .ireturn 1 27 := ⟨by decide +kernel, rfl⟩
theorem d_X12_log_27 : gd cX12_log 27 (.aload_n 0) 1 28 := ⟨by decide +kernel, rfl⟩
theorem d_X12_log_28 : gd cX12_log 28 (.getfield 86) 3 31 := ⟨by decide +kernel, rfl⟩
theorem d_X12_log_31 : gd cX12_log 31 (.aload_n 0) 1 32 := ⟨by decide +kernel, rfl⟩
theorem d_X12_log_32 : gd cX12_log 32 (.getfield 431) 3 35 := ⟨by decide +kernel, rfl⟩
theorem d_X12_log_35 : gd cX12_log 35 (.iload_n 1) 1 36 := ⟨by decide +kernel, rfl⟩
theorem d_X12_log_36 : gd cX12_log 36 .iastore 1 37 := ⟨by decide +kernel, rfl⟩
theorem d_X12_log_37 : gd cX12_log 37 (.aload_n 0) 1 38 := ⟨by decide +kernel, rfl⟩
theorem d_X12_log_38 : gd cX12_log 38 .dup 1 39 := ⟨by decide +kernel, rfl⟩
theorem d_X12_log_39 : gd cX12_log 39 (.getfield 431) 3 42 := ⟨by decide +kernel, rfl⟩
theorem d_X12_log_42 : gd cX12_log 42 (.iconst 1) 1 43 := ⟨by decide +kernel, rfl⟩
theorem d_X12_log_43 : gd cX12_log 43 .iadd 1 44 := ⟨by decide +kernel, rfl⟩
theorem d_X12_log_44 : gd cX12_log 44 (.putfield 431) 3 47 := ⟨by decide +kernel, rfl⟩
theorem d_X12_log_47 : gd cX12_log 47 (.aload_n 0) 1 48 := ⟨by decide +kernel, rfl⟩
theorem d_X12_log_48 : gd cX12_log 48 (.getfield 431) 3 51 := ⟨by decide +kernel, rfl⟩
theorem d_X12_log_51 : gd cX12_log 51 .ireturn 1 52 := ⟨by decide +kernel, rfl⟩
def D_X12_log (x1 : Int32) (μ : gs_M) : Option (Int32 × gs_M) :=
  lt1 (sI μ 78 0 (0 : Int32)) (fun u1 => if (gI u1 78 43) = (20 : Int32) then (some ((-1 : Int32), u1)) else (bd (D_X12_isIn x1 (-60 : Int32) (60 : Int32) u1) (fun v5 u4 => if v5 = 0 then (some ((-1 : Int32), u4)) else (ck (inb (gI u4 78 43) 20) (lt1 (sI u4 94 (Int32.toNatClampNeg (gI u4 78 43)) x1) (fun u8 => lt1 (sI u8 78 43 ((gI u8 78 43) + (1 : Int32))) (fun u9 => some (gI u9 78 43, u9))))))))
section S_X12_log
variable {p : Program} {l : Launch} {e : Env} {R : Room} {s : State} {m : MethodId} {args : Array Value} {below : List Frame} {meth : Method} {c : Code} {ad : Nat → Nat} {g : va_G} {tyc : Nat → ClassId}
set_option maxRecDepth 20000 in
theorem C_X12_log  {x1 : Int32} {μ : gs_M} {r : Int32} {μ2 : gs_M}  (hD : D_X12_log x1 μ = some (r, μ2)) : CALL yX12_log cX12_log 2 (some .int) 1 [.ref 78, .int x1] μ (some (.int r)) μ2 := by
  unfold D_X12_log at hD
  refine gs_enter mf_X12_log (Nat.le_of_ble_eq_true rfl) (ls := [.ref 78, .int x1]) rfl (fun p l e R s m args below meth c ad g tyc hK => ?_)
  have hK : KC p R s m args meth c ad g tyc RX12 cX12_log 2 (some .int) 1 := hK
  refine r_aload_n hK d_X12_log_0 rfl rfl ?_
  refine r_iconst hK d_X12_log_1 ci_0 ?_
  refine r_putI hK d_X12_log_2 fl_RX12_98_11 rfl rfl kd_78 ?_
  refine r_ltm hD (fun u1 hD => ?_)
  refine r_aload_n hK d_X12_log_5 rfl rfl ?_
  refine r_getI hK d_X12_log_6 fl_RX12_431_11 rfl kd_78 ?_
  refine r_bipush hK d_X12_log_9 cb_20 ?_
  refine r_icmp_eq (tgt := 25) hK d_X12_log_11 (by decide) (fun h2 => ?_) (fun h2 => ?_)
  · have hD := if_t hD h2
    refine r_iconst hK d_X12_log_25 ci_m1 ?_
    cases hD
    exact r_iret hK d_X12_log_26
  · have hD := if_f hD h2
    refine r_iload_n hK d_X12_log_14 rfl rfl ?_
    refine r_bipush hK d_X12_log_15 cb_m60 ?_
    refine r_bipush hK d_X12_log_17 cb_60 ?_
    obtain ⟨v5, u4, e3, hD⟩ := bd_e hD
    refine r_callS (As := [.int x1, .int (-60 : Int32), .int (60 : Int32)]) (st := []) (stk2 := [.int v5]) hK (C_X12_isIn  e3) d_X12_log_19 mf_X12_isIn ml_RX12_217 ss_X12_isIn rfl (Nat.le_of_ble_eq_true rfl) (by decide) ⟨Nat.zero_le _, Nat.zero_le _⟩ rfl rfl ?_
    refine r_if_ne (tgt := 27) hK d_X12_log_22 (by decide) (fun h6 => ?_) (fun h6 => ?_)
    · have hD := if_f hD h6
      refine r_aload_n hK d_X12_log_27 rfl rfl ?_
      refine r_getR hK d_X12_log_28 fl_RX12_86_11 rfl kd_78 ?_
      refine r_ref (b := 94) R0_78_42 ?_
      refine r_aload_n hK d_X12_log_31 rfl rfl ?_
      refine r_getI hK d_X12_log_32 fl_RX12_431_11 rfl kd_78 ?_
      refine r_iload_n hK d_X12_log_35 rfl rfl ?_
      obtain ⟨h7, hD⟩ := ck_e hD
      refine r_iast hK d_X12_log_36 kd_94 ln_94 (inb_in h7) ?_
      refine r_ltm hD (fun u8 hD => ?_)
      refine r_aload_n hK d_X12_log_37 rfl rfl ?_
      refine r_dup hK d_X12_log_38 rfl ?_
      refine r_getI hK d_X12_log_39 fl_RX12_431_11 rfl kd_78 ?_
      refine r_iconst hK d_X12_log_42 ci_1 ?_
      refine r_iadd hK d_X12_log_43 ?_
      refine r_putI hK d_X12_log_44 fl_RX12_431_11 rfl rfl kd_78 ?_
      refine r_ltm hD (fun u9 hD => ?_)
      refine r_aload_n hK d_X12_log_47 rfl rfl ?_
      refine r_getI hK d_X12_log_48 fl_RX12_431_11 rfl kd_78 ?_
      cases hD
      exact r_iret hK d_X12_log_51
    · have hD := if_t hD h6
      refine r_iconst hK d_X12_log_25 ci_m1 ?_
      cases hD
      exact r_iret hK d_X12_log_26
end S_X12_log
theorem d_X12_agree_0 : gd cX12_agree 0 (.aload_n 0) 1 1 := ⟨by decide +kernel, rfl⟩
theorem d_X12_agree_1 : gd cX12_agree 1 (.iconst 0) 1 2 := ⟨by decide +kernel, rfl⟩
theorem d_X12_agree_2 : gd cX12_agree 2 (.putfield 98) 3 5 := ⟨by decide +kernel, rfl⟩
theorem d_X12_agree_5 : gd cX12_agree 5 (.aload_n 0) 1 6 := ⟨by decide +kernel, rfl⟩
theorem d_X12_agree_6 : gd cX12_agree 6 (.iload_n 1) 1 7 := ⟨by decide +kernel, rfl⟩
theorem d_X12_agree_7 : gd cX12_agree 7 (.invokevirtual 283) 3 10 := ⟨by decide +kernel, rfl⟩
theorem d_X12_agree_10 : gd cX12_agree 10 (.ifCond .eq 23) 3 13 := ⟨by decide +kernel, rfl⟩
theorem d_X12_agree_13 : gd cX12_agree 13 (.iload_n 2) 1 14 := ⟨by decide +kernel, rfl⟩
theorem d_X12_agree_14 : gd cX12_agree 14 (.iconst 0) 1 15 := ⟨by decide +kernel, rfl⟩
theorem d_X12_agree_15 : gd cX12_agree 15 (.bipush 40) 2 17 := ⟨by decide +kernel, rfl⟩
theorem d_X12_agree_17 : gd cX12_agree 17 (.invokestatic 217) 3 20 := ⟨by decide +kernel, rfl⟩
theorem d_X12_agree_20 : gd cX12_agree 20 (.ifCond .eq 13) 3 23 := ⟨by decide +kernel, rfl⟩
theorem d_X12_agree_23 : gd cX12_agree 23 (.iload_n 3) 1 24 := ⟨by decide +kernel, rfl⟩
theorem d_X12_agree_24 : gd cX12_agree 24 (.iconst 0) 1 25 := ⟨by decide +kernel, rfl⟩
theorem d_X12_agree_25 : gd cX12_agree 25 (.bipush 60) 2 27 := ⟨by decide +kernel, rfl⟩
theorem d_X12_agree_27 : gd cX12_agree 27 (.invokestatic 217) 3 30 := ⟨by decide +kernel, rfl⟩
theorem d_X12_agree_30 : gd cX12_agree 30 (.ifCond .ne 5) 3 33 := ⟨by decide +kernel, rfl⟩
theorem d_X12_agree_33 : gd cX12_agree 33 (.iconst (-1)) 1 34 := ⟨by decide +kernel, rfl⟩
theorem d_X12_agree_34 : gd cX12_agree 34 .ireturn 1 35 := ⟨by decide +kernel, rfl⟩
theorem d_X12_agree_35 : gd cX12_agree 35 (.iconst 0) 1 36 := ⟨by decide +kernel, rfl⟩
theorem d_X12_agree_36 : gd cX12_agree 36 (.istore 4) 2 38 := ⟨by decide +kernel, rfl⟩
theorem d_X12_agree_38 : gd cX12_agree 38 (.aload_n 0) 1 39 := ⟨by decide +kernel, rfl⟩
theorem d_X12_agree_39 : gd cX12_agree 39 (.invokevirtual 402) 3 42 := ⟨by decide +kernel, rfl⟩
theorem d_X12_agree_42 : gd cX12_agree 42 (.iconst 0) 1 43 := ⟨by decide +kernel, rfl⟩
theorem d_X12_agree_43 : gd cX12_agree 43 (.istore 5) 2 45 := ⟨by decide +kernel, rfl⟩
theorem d_X12_agree_45 : gd cX12_agree 45 (.iload 5) 2 47 := ⟨by decide +kernel, rfl⟩
theorem d_X12_agree_47 : gd cX12_agree 47 (.aload_n 0) 1 48 := ⟨by decide +kernel, rfl⟩
theorem d_X12_agree_48 : gd cX12_agree 48 (.getfield 269) 3 51 := ⟨by decide +kernel, rfl⟩
theorem d_X12_agree_51 : gd cX12_agree 51 (.if_icmp .ge 117) 3 54 := ⟨by decide +kernel, rfl⟩
theorem d_X12_agree_54 : gd cX12_agree 54 (.aload_n 0) 1 55 := ⟨by decide +kernel, rfl⟩
theorem d_X12_agree_55 : gd cX12_agree 55 (.iload_n 1) 1 56 := ⟨by decide +kernel, rfl⟩
theorem d_X12_agree_56 : gd cX12_agree 56 (.iload 5) 2 58 := ⟨by decide +kernel, rfl⟩
theorem d_X12_agree_58 : gd cX12_agree 58 (.invokevirtual 360) 3 61 := ⟨by decide +kernel, rfl⟩
theorem d_X12_agree_61 : gd cX12_agree 61 (.ifCond .ne 6) 3 64 := ⟨by decide +kernel, rfl⟩
theorem d_X12_agree_64 : gd cX12_agree 64 (.goto 98) 3 67 := ⟨by decide +kernel, rfl⟩
theorem d_X12_agree_67 : gd cX12_agree 67 (.aload_n 0) 1 68 := ⟨by decide +kernel, rfl⟩
theorem d_X12_agree_68 : gd cX12_agree 68 (.iload_n 1) 1 69 := ⟨by decide +kernel, rfl⟩
theorem d_X12_agree_69 : gd cX12_agree 69 (.iload 5) 2 71 := ⟨by decide +kernel, rfl⟩
theorem d_X12_agree_71 : gd cX12_agree 71 (.iconst (-1)) 1 72 := ⟨by decide +kernel, rfl⟩
theorem d_X12_agree_72 : gd cX12_agree 72 (.iconst 0) 1 73 := ⟨by decide +kernel, rfl⟩
theorem d_X12_agree_73 : gd cX12_agree 73 (.iconst 0) 1 74 := ⟨by decide +kernel, rfl⟩
theorem d_X12_agree_74 : gd cX12_agree 74 (.lconst 0) 1 75 := ⟨by decide +kernel, rfl⟩
theorem d_X12_agree_75 : gd cX12_agree 75 (.invokevirtual 363) 3 78 := ⟨by decide +kernel, rfl⟩
theorem d_X12_agree_78 : gd cX12_agree 78 (.iconst 1) 1 79 := ⟨by decide +kernel, rfl⟩
theorem d_X12_agree_79 : gd cX12_agree 79 (.istore 6) 2 81 := ⟨by decide +kernel, rfl⟩
theorem d_X12_agree_81 : gd cX12_agree 81 (.iconst 0) 1 82 := ⟨by decide +kernel, rfl⟩
theorem d_X12_agree_82 : gd cX12_agree 82 (.istore 7) 2 84 := ⟨by decide +kernel, rfl⟩
theorem d_X12_agree_84 : gd cX12_agree 84 (.iload 7) 2 86 := ⟨by decide +kernel, rfl⟩
theorem d_X12_agree_86 : gd cX12_agree 86 (.aload_n 0) 1 87 := ⟨by decide +kernel, rfl⟩
theorem d_X12_agree_87 : gd cX12_agree 87 (.getfield 431) 3 90 := ⟨by decide +kernel, rfl⟩
theorem d_X12_agree_90 : gd cX12_agree 90 (.if_icmp .ge 54) 3 93 := ⟨by decide +kernel, rfl⟩
theorem d_X12_agree_93 : gd cX12_agree 93 (.aload_n 0) 1 94 := ⟨by decide +kernel, rfl⟩
theorem d_X12_agree_94 : gd cX12_agree 94 (.bipush 79) 2 96 := ⟨by decide +kernel, rfl⟩
theorem d_X12_agree_96 : gd cX12_agree 96 (.invokevirtual 337) 3 99 := ⟨by decide +kernel, rfl⟩
theorem d_X12_agree_99 : gd cX12_agree 99 (.ifCond .ne 8) 3 102 := ⟨by decide +kernel, rfl⟩
theorem d_X12_agree_102 : gd cX12_agree 102 (.aload_n 0) 1 103 := ⟨by decide +kernel, rfl⟩
theorem d_X12_agree_103 : gd cX12_agree 103 (.iload_n 2) 1 104 := ⟨by decide +kernel, rfl⟩
theorem d_X12_agree_104 : gd cX12_agree 104 (.invokevirtual 376) 3 107 := ⟨by decide +kernel, rfl⟩
theorem d_X12_agree_107 : gd cX12_agree 107 (.iload 6) 2 109 := ⟨by decide +kernel, rfl⟩
theorem d_X12_agree_109 : gd cX12_agree 109 (.ifCond .eq 26) 3 112 := ⟨by decide +kernel, rfl⟩
theorem d_X12_agree_112 : gd cX12_agree 112 (.aload_n 0) 1 113 := ⟨by decide +kernel, rfl⟩
theorem d_X12_agree_113 : gd cX12_agree 113 (.invokevirtual 367) 3 116 := ⟨by decide +kernel, rfl⟩
theorem d_X12_agree_116 : gd cX12_agree 116 (.aload_n 0) 1 117 := ⟨by decide +kernel, rfl⟩
theorem d_X12_agree_117 : gd cX12_agree 117 (.getfield 86) 3 120 := ⟨by decide +kernel, rfl⟩
theorem d_X12_agree_120 : gd cX12_agree 120 (.iload 7) 2 122 := ⟨by decide +kernel, rfl⟩
theorem d_X12_agree_122 : gd cX12_agree 122 .iaload 1 123 := ⟨by decide +kernel, rfl⟩
theorem d_X12_agree_123 : gd cX12_agree 123 .isub 1 124 := ⟨by decide +kernel, rfl⟩
theorem d_X12_agree_124 : gd cX12_agree 124 (.invokestatic 370) 3 127 := ⟨by decide +kernel, rfl⟩
theorem d_X12_agree_127 : gd cX12_agree 127 (.iload_n 3) 1 128 := ⟨by decide +kernel, rfl⟩
theorem d_X12_agree_128 : gd cX12_agree 128 (.if_icmp .gt 7) 3 131 := ⟨by decide +kernel, rfl⟩
theorem d_X12_agree_131 : gd cX12_agree 131 (.iconst 1) 1 132 := ⟨by decide +kernel, rfl⟩
theorem d_X12_agree_132 : gd cX12_agree 132 (.goto 4) 3 135 := ⟨by decide +kernel, rfl⟩
theorem d_X12_agree_135 : gd cX12_agree 135 (.iconst 0) 1 136 := ⟨by decide +kernel, rfl⟩
theorem d_X12_agree_136 : gd cX12_agree 136 (.istore 6) 2 138 := ⟨by decide +kernel, rfl⟩
theorem d_X12_agree_138 : gd cX12_agree 138 (.iinc 7 1) 3 141 := ⟨by decide +kernel, rfl⟩
theorem d_X12_agree_141 : gd cX12_agree 141 (.goto (-57)) 3 144 := ⟨by decide +kernel, rfl⟩
theorem d_X12_agree_144 : gd cX12_agree 144 (.iload 4) 2 146 := ⟨by decide +kernel, rfl⟩
theorem d_X12_agree_146 : gd cX12_agree 146 (.iload 6) 2 148 := ⟨by decide +kernel, rfl⟩
theorem d_X12_agree_148 : gd cX12_agree 148 (.ifCond .eq 10) 3 151 := ⟨by decide +kernel, rfl⟩
theorem d_X12_agree_151 : gd cX12_agree 151 (.iconst 1) 1 152 := ⟨by decide +kernel, rfl⟩
theorem d_X12_agree_152 : gd cX12_agree 152 (.iload 5) 2 154 := ⟨by decide +kernel, rfl⟩
theorem d_X12_agree_154 : gd cX12_agree 154 .ishl 1 155 := ⟨by decide +kernel, rfl⟩
theorem d_X12_agree_155 : gd cX12_agree 155 (.goto 4) 3 158 := ⟨by decide +kernel, rfl⟩
theorem d_X12_agree_158 : gd cX12_agree 158 (.iconst 0) 1 159 := ⟨by decide +kernel, rfl⟩
theorem d_X12_agree_159 : gd cX12_agree 159 .ior 1 160 := ⟨by decide +kernel, rfl⟩
theorem d_X12_agree_160 : gd cX12_agree 160 (.istore 4) 2 162 := ⟨by decide +kernel, rfl⟩
theorem d_X12_agree_162 : gd cX12_agree 162 (.iinc 5 1) 3 165 := ⟨by decide +kernel, rfl⟩
theorem d_X12_agree_165 : gd cX12_agree 165 (.goto (-120)) 3 168 := ⟨by decide +kernel, rfl⟩
theorem d_X12_agree_168 : gd cX12_agree 168 (.aload_n 0) 1 169 := ⟨by decide +kernel, rfl⟩
theorem d_X12_agree_169 : gd cX12_agree 169 (.invokevirtual 405) 3 172 := ⟨by decide +kernel, rfl⟩
theorem d_X12_agree_172 : gd cX12_agree 172 (.iload 4) 2 174 := ⟨by decide +kernel, rfl⟩
theorem d_X12_agree_174 : gd cX12_agree 174 .ireturn 1 175 := ⟨by decide +kernel, rfl⟩
def B_X12_agree_135 (q45 : Int32 → Int32 → Int32 → Int32 → Int32 → gs_M → Option (Int32 × gs_M)) (q84 : Int32 → Int32 → Int32 → Int32 → Int32 → Int32 → Int32 → gs_M → Option (Int32 × gs_M)) (x1 : Int32) (x2 : Int32) (x3 : Int32) (x4 : Int32) (x5 : Int32) (x7 : Int32) (μ : gs_M) : Option (Int32 × gs_M) :=
  q84 x1 x2 x3 x4 x5 (0 : Int32) (x7 + (1 : Int32)) μ
def B_X12_agree_107 (q45 : Int32 → Int32 → Int32 → Int32 → Int32 → gs_M → Option (Int32 × gs_M)) (q84 : Int32 → Int32 → Int32 → Int32 → Int32 → Int32 → Int32 → gs_M → Option (Int32 × gs_M)) (x1 : Int32) (x2 : Int32) (x3 : Int32) (x4 : Int32) (x5 : Int32) (x6 : Int32) (x7 : Int32) (μ : gs_M) : Option (Int32 × gs_M) :=
  if x6 = 0 then (B_X12_agree_135 q45 q84 x1 x2 x3 x4 x5 x7 μ) else (bd (D_X12_lean μ) (fun v4 u3 => ck (inb x7 20) (lt1 (if 0 ≤ (v4 - (gI u3 94 (Int32.toNatClampNeg x7))) then (v4 - (gI u3 94 (Int32.toNatClampNeg x7))) else 0 - (v4 - (gI u3 94 (Int32.toNatClampNeg x7)))) (fun v6 => if x3 < v6 then (B_X12_agree_135 q45 q84 x1 x2 x3 x4 x5 x7 u3) else (q84 x1 x2 x3 x4 x5 (1 : Int32) (x7 + (1 : Int32)) u3)))))
def B_X12_agree_159 (q45 : Int32 → Int32 → Int32 → Int32 → Int32 → gs_M → Option (Int32 × gs_M)) (x1 : Int32) (x2 : Int32) (x3 : Int32) (x5 : Int32) (xs0 : Int32) (xs1 : Int32) (μ : gs_M) : Option (Int32 × gs_M) :=
  lt1 (xs0 ||| xs1) (fun v1 => q45 x1 x2 x3 v1 (x5 + (1 : Int32)) μ)
def Bo_X12_agree_84 (q45 : Int32 → Int32 → Int32 → Int32 → Int32 → gs_M → Option (Int32 × gs_M)) (q84 : Int32 → Int32 → Int32 → Int32 → Int32 → Int32 → Int32 → gs_M → Option (Int32 × gs_M)) (x1 : Int32) (x2 : Int32) (x3 : Int32) (x4 : Int32) (x5 : Int32) (x6 : Int32) (x7 : Int32) (μ : gs_M) : Option (Int32 × gs_M) :=
  if (gI μ 78 43) ≤ x7 then (if x6 = 0 then (B_X12_agree_159 q45 x1 x2 x3 x5 x4 (0 : Int32) μ) else (B_X12_agree_159 q45 x1 x2 x3 x5 x4 ((1 : Int32) <<< (x5 &&& 31)) μ)) else (bd (D_X12_now (79 : Int32) μ) (fun v5 u4 => if v5 = 0 then (bd0 (D_X12_rolls x2 u4) (fun u8 => B_X12_agree_107 q45 q84 x1 x2 x3 x4 x5 x6 x7 u8)) else (B_X12_agree_107 q45 q84 x1 x2 x3 x4 x5 x6 x7 u4)))
def L_X12_agree_84 (q45 : Int32 → Int32 → Int32 → Int32 → Int32 → gs_M → Option (Int32 × gs_M)) : Nat → Int32 → Int32 → Int32 → Int32 → Int32 → Int32 → Int32 → gs_M → Option (Int32 × gs_M)
  | 0 => fun _ _ _ _ _ _ _ _ => none
  | n + 1 => fun x1 x2 x3 x4 x5 x6 x7 μ => Bo_X12_agree_84 q45 (L_X12_agree_84 q45 n) x1 x2 x3 x4 x5 x6 x7 μ
def Bo_X12_agree_45 (q45 : Int32 → Int32 → Int32 → Int32 → Int32 → gs_M → Option (Int32 × gs_M)) (x1 : Int32) (x2 : Int32) (x3 : Int32) (x4 : Int32) (x5 : Int32) (μ : gs_M) : Option (Int32 × gs_M) :=
  if (gI μ 78 26) ≤ x5 then (bd0 (D_X12_putBack μ) (fun u3 => some (x4, u3))) else (bd (D_X12_canLoad x1 x5 μ) (fun v6 u5 => if v6 = 0 then (q45 x1 x2 x3 x4 (x5 + (1 : Int32)) u5) else (bd0 (D_X12_loads x1 x5 (-1 : Int32) (0 : Int32) (0 : Int32) (0 : Int64) u5) (fun u9 => L_X12_agree_84 q45 4096 x1 x2 x3 x4 x5 (1 : Int32) (0 : Int32) u9))))
def L_X12_agree_45  : Nat → Int32 → Int32 → Int32 → Int32 → Int32 → gs_M → Option (Int32 × gs_M)
  | 0 => fun _ _ _ _ _ _ => none
  | n + 1 => fun x1 x2 x3 x4 x5 μ => Bo_X12_agree_45  (L_X12_agree_45  n) x1 x2 x3 x4 x5 μ
def D_X12_agree (x1 : Int32) (x2 : Int32) (x3 : Int32) (μ : gs_M) : Option (Int32 × gs_M) :=
  lt1 (sI μ 78 0 (0 : Int32)) (fun u1 => bd (D_X12_isShip x1 u1) (fun v4 u3 => if v4 = 0 then (some ((-1 : Int32), u3)) else (bd (D_X12_isIn x2 (0 : Int32) (40 : Int32) u3) (fun v8 u7 => if v8 = 0 then (some ((-1 : Int32), u7)) else (bd (D_X12_isIn x3 (0 : Int32) (60 : Int32) u7) (fun v12 u11 => if v12 = 0 then (some ((-1 : Int32), u11)) else (bd0 (D_X12_keeps u11) (fun u15 => L_X12_agree_45 4096 x1 x2 x3 (0 : Int32) (0 : Int32) u15))))))))
section S_X12_agree
variable {p : Program} {l : Launch} {e : Env} {R : Room} {s : State} {m : MethodId} {args : Array Value} {below : List Frame} {meth : Method} {c : Code} {ad : Nat → Nat} {g : va_G} {tyc : Nat → ClassId}
set_option maxRecDepth 20000 in
theorem T_X12_agree_135  (hK : KC p R s m args meth c ad g tyc RX12 cX12_agree 8 (some .int) 7) {r : Int32} {μ2 : gs_M} {q45 : Int32 → Int32 → Int32 → Int32 → Int32 → gs_M → Option (Int32 × gs_M)} {q84 : Int32 → Int32 → Int32 → Int32 → Int32 → Int32 → Int32 → gs_M → Option (Int32 × gs_M)} (hq45 : ∀ (x1 : Int32) (x2 : Int32) (x3 : Int32) (x4 : Int32) (x5 : Int32) (μ : gs_M), q45 x1 x2 x3 x4 x5 μ = some (r, μ2) → WJ p l e R s m args below meth c 0 0 (MQ below (gs_Q ad g tyc (some (.int r)) μ2) args s 0 0 (gs_A ad)) ad g tyc 8 45 [.ref 78, .int x1, .int x2, .int x3, .int x4, .int x5, gs_J, gs_J] [] μ) (hq84 : ∀ (x1 : Int32) (x2 : Int32) (x3 : Int32) (x4 : Int32) (x5 : Int32) (x6 : Int32) (x7 : Int32) (μ : gs_M), q84 x1 x2 x3 x4 x5 x6 x7 μ = some (r, μ2) → WJ p l e R s m args below meth c 0 0 (MQ below (gs_Q ad g tyc (some (.int r)) μ2) args s 0 0 (gs_A ad)) ad g tyc 8 84 [.ref 78, .int x1, .int x2, .int x3, .int x4, .int x5, .int x6, .int x7] [] μ) {x1 : Int32} {x2 : Int32} {x3 : Int32} {x4 : Int32} {x5 : Int32} {x7 : Int32} {μ : gs_M}  (hD : B_X12_agree_135 q45 q84 x1 x2 x3 x4 x5 x7 μ = some (r, μ2)) : WJ p l e R s m args below meth c 0 0 (MQ below (gs_Q ad g tyc (some (.int r)) μ2) args s 0 0 (gs_A ad)) ad g tyc 8 135 [.ref 78, .int x1, .int x2, .int x3, .int x4, .int x5, gs_J, .int x7] [] μ := by
  unfold B_X12_agree_135 at hD
  refine r_iconst hK d_X12_agree_135 ci_0 ?_
  refine r_istore hK d_X12_agree_136 (by decide) (ls2 := [.ref 78, .int x1, .int x2, .int x3, .int x4, .int x5, .int (0 : Int32), .int x7]) rfl ?_
  refine r_iinc hK d_X12_agree_138 rfl (v := x7 + (1 : Int32)) (by rw [ci_1]) (by decide) (ls2 := [.ref 78, .int x1, .int x2, .int x3, .int x4, .int x5, .int (0 : Int32), .int (x7 + (1 : Int32))]) rfl ?_
  refine r_goto (tgt := 84) hK d_X12_agree_141 (by decide) ?_
  exact hq84 _ _ _ _ _ _ _ _  hD
set_option maxRecDepth 20000 in
theorem T_X12_agree_107  (hK : KC p R s m args meth c ad g tyc RX12 cX12_agree 8 (some .int) 7) {r : Int32} {μ2 : gs_M} {q45 : Int32 → Int32 → Int32 → Int32 → Int32 → gs_M → Option (Int32 × gs_M)} {q84 : Int32 → Int32 → Int32 → Int32 → Int32 → Int32 → Int32 → gs_M → Option (Int32 × gs_M)} (hq45 : ∀ (x1 : Int32) (x2 : Int32) (x3 : Int32) (x4 : Int32) (x5 : Int32) (μ : gs_M), q45 x1 x2 x3 x4 x5 μ = some (r, μ2) → WJ p l e R s m args below meth c 0 0 (MQ below (gs_Q ad g tyc (some (.int r)) μ2) args s 0 0 (gs_A ad)) ad g tyc 8 45 [.ref 78, .int x1, .int x2, .int x3, .int x4, .int x5, gs_J, gs_J] [] μ) (hq84 : ∀ (x1 : Int32) (x2 : Int32) (x3 : Int32) (x4 : Int32) (x5 : Int32) (x6 : Int32) (x7 : Int32) (μ : gs_M), q84 x1 x2 x3 x4 x5 x6 x7 μ = some (r, μ2) → WJ p l e R s m args below meth c 0 0 (MQ below (gs_Q ad g tyc (some (.int r)) μ2) args s 0 0 (gs_A ad)) ad g tyc 8 84 [.ref 78, .int x1, .int x2, .int x3, .int x4, .int x5, .int x6, .int x7] [] μ) {x1 : Int32} {x2 : Int32} {x3 : Int32} {x4 : Int32} {x5 : Int32} {x6 : Int32} {x7 : Int32} {μ : gs_M}  (hD : B_X12_agree_107 q45 q84 x1 x2 x3 x4 x5 x6 x7 μ = some (r, μ2)) : WJ p l e R s m args below meth c 0 0 (MQ below (gs_Q ad g tyc (some (.int r)) μ2) args s 0 0 (gs_A ad)) ad g tyc 8 107 [.ref 78, .int x1, .int x2, .int x3, .int x4, .int x5, .int x6, .int x7] [] μ := by
  unfold B_X12_agree_107 at hD
  refine r_iload hK d_X12_agree_107 rfl ?_
  refine r_if_eq (tgt := 135) hK d_X12_agree_109 (by decide) (fun h1 => ?_) (fun h1 => ?_)
  · have hD := if_t hD h1
    refine r_junk [true, true, true, true, true, true, false, true] (ls2 := [.ref 78, .int x1, .int x2, .int x3, .int x4, .int x5, gs_J, .int x7]) rfl ?_
    exact T_X12_agree_135 hK hq45 hq84  hD
  · have hD := if_f hD h1
    refine r_aload_n hK d_X12_agree_112 rfl rfl ?_
    obtain ⟨v4, u3, e2, hD⟩ := bd_e hD
    refine r_callV (As := []) (st := []) (stk2 := [.int v4]) hK (C_X12_lean  e2) d_X12_agree_113 mf_X12_lean ml_RX12_367 im_X12_lean rfl se_11_RX12_X12_lean kd_78 rfl (Nat.le_of_ble_eq_true rfl) (by decide) ⟨Nat.zero_le _, Nat.zero_le _⟩ rfl rfl ?_
    refine r_aload_n hK d_X12_agree_116 rfl rfl ?_
    refine r_getR hK d_X12_agree_117 fl_RX12_86_11 rfl kd_78 ?_
    refine r_ref (b := 94) R0_78_42 ?_
    refine r_iload hK d_X12_agree_120 rfl ?_
    obtain ⟨h5, hD⟩ := ck_e hD
    refine r_iald hK d_X12_agree_122 kd_94 ln_94 (inb_in h5) ?_
    refine r_isub hK d_X12_agree_123 ?_
    refine r_mabs hK d_X12_agree_124 mm_RX12_370 ms_abs mi_0 mc_abs (Nat.le_of_ble_eq_true rfl) (by decide) ⟨Nat.zero_le _, Nat.zero_le _⟩ ?_
    refine r_lti hD (fun v6 hD => ?_)
    refine r_iload_n hK d_X12_agree_127 rfl rfl ?_
    refine r_icmp_gt (tgt := 135) hK d_X12_agree_128 (by decide) (fun h7 => ?_) (fun h7 => ?_)
    · have hD := if_t hD h7
      refine r_junk [true, true, true, true, true, true, false, true] (ls2 := [.ref 78, .int x1, .int x2, .int x3, .int x4, .int x5, gs_J, .int x7]) rfl ?_
      exact T_X12_agree_135 hK hq45 hq84  hD
    · have hD := if_f hD h7
      refine r_iconst hK d_X12_agree_131 ci_1 ?_
      refine r_goto (tgt := 136) hK d_X12_agree_132 (by decide) ?_
      refine r_istore hK d_X12_agree_136 (by decide) (ls2 := [.ref 78, .int x1, .int x2, .int x3, .int x4, .int x5, .int (1 : Int32), .int x7]) rfl ?_
      refine r_iinc hK d_X12_agree_138 rfl (v := x7 + (1 : Int32)) (by rw [ci_1]) (by decide) (ls2 := [.ref 78, .int x1, .int x2, .int x3, .int x4, .int x5, .int (1 : Int32), .int (x7 + (1 : Int32))]) rfl ?_
      refine r_goto (tgt := 84) hK d_X12_agree_141 (by decide) ?_
      exact hq84 _ _ _ _ _ _ _ _  hD
set_option maxRecDepth 20000 in
theorem T_X12_agree_159  (hK : KC p R s m args meth c ad g tyc RX12 cX12_agree 8 (some .int) 7) {r : Int32} {μ2 : gs_M} {q45 : Int32 → Int32 → Int32 → Int32 → Int32 → gs_M → Option (Int32 × gs_M)} (hq45 : ∀ (x1 : Int32) (x2 : Int32) (x3 : Int32) (x4 : Int32) (x5 : Int32) (μ : gs_M), q45 x1 x2 x3 x4 x5 μ = some (r, μ2) → WJ p l e R s m args below meth c 0 0 (MQ below (gs_Q ad g tyc (some (.int r)) μ2) args s 0 0 (gs_A ad)) ad g tyc 8 45 [.ref 78, .int x1, .int x2, .int x3, .int x4, .int x5, gs_J, gs_J] [] μ) {x1 : Int32} {x2 : Int32} {x3 : Int32} {x5 : Int32} {xs0 : Int32} {xs1 : Int32} {μ : gs_M}  (hD : B_X12_agree_159 q45 x1 x2 x3 x5 xs0 xs1 μ = some (r, μ2)) : WJ p l e R s m args below meth c 0 0 (MQ below (gs_Q ad g tyc (some (.int r)) μ2) args s 0 0 (gs_A ad)) ad g tyc 8 159 [.ref 78, .int x1, .int x2, .int x3, gs_J, .int x5, gs_J, gs_J] [.int xs1, .int xs0] μ := by
  unfold B_X12_agree_159 at hD
  refine r_ior hK d_X12_agree_159 ?_
  refine r_lti hD (fun v1 hD => ?_)
  refine r_istore hK d_X12_agree_160 (by decide) (ls2 := [.ref 78, .int x1, .int x2, .int x3, .int v1, .int x5, gs_J, gs_J]) rfl ?_
  refine r_iinc hK d_X12_agree_162 rfl (v := x5 + (1 : Int32)) (by rw [ci_1]) (by decide) (ls2 := [.ref 78, .int x1, .int x2, .int x3, .int v1, .int (x5 + (1 : Int32)), gs_J, gs_J]) rfl ?_
  refine r_goto (tgt := 45) hK d_X12_agree_165 (by decide) ?_
  exact hq45 _ _ _ _ _ _  hD
set_option maxRecDepth 20000 in
theorem To_X12_agree_84  (hK : KC p R s m args meth c ad g tyc RX12 cX12_agree 8 (some .int) 7) {r : Int32} {μ2 : gs_M} {q45 : Int32 → Int32 → Int32 → Int32 → Int32 → gs_M → Option (Int32 × gs_M)} {q84 : Int32 → Int32 → Int32 → Int32 → Int32 → Int32 → Int32 → gs_M → Option (Int32 × gs_M)} (hq45 : ∀ (x1 : Int32) (x2 : Int32) (x3 : Int32) (x4 : Int32) (x5 : Int32) (μ : gs_M), q45 x1 x2 x3 x4 x5 μ = some (r, μ2) → WJ p l e R s m args below meth c 0 0 (MQ below (gs_Q ad g tyc (some (.int r)) μ2) args s 0 0 (gs_A ad)) ad g tyc 8 45 [.ref 78, .int x1, .int x2, .int x3, .int x4, .int x5, gs_J, gs_J] [] μ) (hq84 : ∀ (x1 : Int32) (x2 : Int32) (x3 : Int32) (x4 : Int32) (x5 : Int32) (x6 : Int32) (x7 : Int32) (μ : gs_M), q84 x1 x2 x3 x4 x5 x6 x7 μ = some (r, μ2) → WJ p l e R s m args below meth c 0 0 (MQ below (gs_Q ad g tyc (some (.int r)) μ2) args s 0 0 (gs_A ad)) ad g tyc 8 84 [.ref 78, .int x1, .int x2, .int x3, .int x4, .int x5, .int x6, .int x7] [] μ) {x1 : Int32} {x2 : Int32} {x3 : Int32} {x4 : Int32} {x5 : Int32} {x6 : Int32} {x7 : Int32} {μ : gs_M}  (hD : Bo_X12_agree_84 q45 q84 x1 x2 x3 x4 x5 x6 x7 μ = some (r, μ2)) : WJ p l e R s m args below meth c 0 0 (MQ below (gs_Q ad g tyc (some (.int r)) μ2) args s 0 0 (gs_A ad)) ad g tyc 8 84 [.ref 78, .int x1, .int x2, .int x3, .int x4, .int x5, .int x6, .int x7] [] μ := by
  unfold Bo_X12_agree_84 at hD
  refine r_iload hK d_X12_agree_84 rfl ?_
  refine r_aload_n hK d_X12_agree_86 rfl rfl ?_
  refine r_getI hK d_X12_agree_87 fl_RX12_431_11 rfl kd_78 ?_
  refine r_icmp_ge (tgt := 144) hK d_X12_agree_90 (by decide) (fun h1 => ?_) (fun h1 => ?_)
  · have hD := if_t hD h1
    refine r_iload hK d_X12_agree_144 rfl ?_
    refine r_iload hK d_X12_agree_146 rfl ?_
    refine r_if_eq (tgt := 158) hK d_X12_agree_148 (by decide) (fun h2 => ?_) (fun h2 => ?_)
    · have hD := if_t hD h2
      refine r_iconst hK d_X12_agree_158 ci_0 ?_
      refine r_junk [true, true, true, true, false, true, false, false] (ls2 := [.ref 78, .int x1, .int x2, .int x3, gs_J, .int x5, gs_J, gs_J]) rfl ?_
      exact T_X12_agree_159 hK hq45  hD
    · have hD := if_f hD h2
      refine r_iconst hK d_X12_agree_151 ci_1 ?_
      refine r_iload hK d_X12_agree_152 rfl ?_
      refine r_ishl hK d_X12_agree_154 ?_
      refine r_goto (tgt := 159) hK d_X12_agree_155 (by decide) ?_
      refine r_junk [true, true, true, true, false, true, false, false] (ls2 := [.ref 78, .int x1, .int x2, .int x3, gs_J, .int x5, gs_J, gs_J]) rfl ?_
      exact T_X12_agree_159 hK hq45  hD
  · have hD := if_f hD h1
    refine r_aload_n hK d_X12_agree_93 rfl rfl ?_
    refine r_bipush hK d_X12_agree_94 cb_79 ?_
    obtain ⟨v5, u4, e3, hD⟩ := bd_e hD
    refine r_callV (As := [.int (79 : Int32)]) (st := []) (stk2 := [.int v5]) hK (C_X12_now  e3) d_X12_agree_96 mf_X12_now ml_RX12_337 im_X12_now rfl se_11_RX12_X12_now kd_78 rfl (Nat.le_of_ble_eq_true rfl) (by decide) ⟨Nat.zero_le _, Nat.zero_le _⟩ rfl rfl ?_
    refine r_if_ne (tgt := 107) hK d_X12_agree_99 (by decide) (fun h6 => ?_) (fun h6 => ?_)
    · have hD := if_f hD h6
      exact T_X12_agree_107 hK hq45 hq84  hD
    · have hD := if_t hD h6
      refine r_aload_n hK d_X12_agree_102 rfl rfl ?_
      refine r_iload_n hK d_X12_agree_103 rfl rfl ?_
      obtain ⟨u8, e7, hD⟩ := bd0_e hD
      refine r_callV (As := [.int x2]) (st := []) (stk2 := []) hK (C_X12_rolls  e7) d_X12_agree_104 mf_X12_rolls ml_RX12_376 im_X12_rolls rfl se_11_RX12_X12_rolls kd_78 rfl (Nat.le_of_ble_eq_true rfl) (by decide) ⟨Nat.zero_le _, Nat.zero_le _⟩ rfl rfl ?_
      exact T_X12_agree_107 hK hq45 hq84  hD
set_option maxRecDepth 20000 in
theorem TL_X12_agree_84  (hK : KC p R s m args meth c ad g tyc RX12 cX12_agree 8 (some .int) 7) {r : Int32} {μ2 : gs_M} {q45 : Int32 → Int32 → Int32 → Int32 → Int32 → gs_M → Option (Int32 × gs_M)} (hq45 : ∀ (x1 : Int32) (x2 : Int32) (x3 : Int32) (x4 : Int32) (x5 : Int32) (μ : gs_M), q45 x1 x2 x3 x4 x5 μ = some (r, μ2) → WJ p l e R s m args below meth c 0 0 (MQ below (gs_Q ad g tyc (some (.int r)) μ2) args s 0 0 (gs_A ad)) ad g tyc 8 45 [.ref 78, .int x1, .int x2, .int x3, .int x4, .int x5, gs_J, gs_J] [] μ) : ∀ (n : Nat) (x1 : Int32) (x2 : Int32) (x3 : Int32) (x4 : Int32) (x5 : Int32) (x6 : Int32) (x7 : Int32) (μ : gs_M), L_X12_agree_84 q45 n x1 x2 x3 x4 x5 x6 x7 μ = some (r, μ2) → WJ p l e R s m args below meth c 0 0 (MQ below (gs_Q ad g tyc (some (.int r)) μ2) args s 0 0 (gs_A ad)) ad g tyc 8 84 [.ref 78, .int x1, .int x2, .int x3, .int x4, .int x5, .int x6, .int x7] [] μ := by
  intro n
  induction n with
  | zero => intro x1 x2 x3 x4 x5 x6 x7 μ  hD; cases hD
  | succ n ih => intro x1 x2 x3 x4 x5 x6 x7 μ  hD; exact To_X12_agree_84 hK hq45 ih  hD
set_option maxRecDepth 20000 in
theorem To_X12_agree_45  (hK : KC p R s m args meth c ad g tyc RX12 cX12_agree 8 (some .int) 7) {r : Int32} {μ2 : gs_M} {q45 : Int32 → Int32 → Int32 → Int32 → Int32 → gs_M → Option (Int32 × gs_M)} (hq45 : ∀ (x1 : Int32) (x2 : Int32) (x3 : Int32) (x4 : Int32) (x5 : Int32) (μ : gs_M), q45 x1 x2 x3 x4 x5 μ = some (r, μ2) → WJ p l e R s m args below meth c 0 0 (MQ below (gs_Q ad g tyc (some (.int r)) μ2) args s 0 0 (gs_A ad)) ad g tyc 8 45 [.ref 78, .int x1, .int x2, .int x3, .int x4, .int x5, gs_J, gs_J] [] μ) {x1 : Int32} {x2 : Int32} {x3 : Int32} {x4 : Int32} {x5 : Int32} {μ : gs_M}  (hD : Bo_X12_agree_45 q45 x1 x2 x3 x4 x5 μ = some (r, μ2)) : WJ p l e R s m args below meth c 0 0 (MQ below (gs_Q ad g tyc (some (.int r)) μ2) args s 0 0 (gs_A ad)) ad g tyc 8 45 [.ref 78, .int x1, .int x2, .int x3, .int x4, .int x5, gs_J, gs_J] [] μ := by
  unfold Bo_X12_agree_45 at hD
  refine r_iload hK d_X12_agree_45 rfl ?_
  refine r_aload_n hK d_X12_agree_47 rfl rfl ?_
  refine r_getI hK d_X12_agree_48 fl_RX12_269_11 rfl kd_78 ?_
  refine r_icmp_ge (tgt := 168) hK d_X12_agree_51 (by decide) (fun h1 => ?_) (fun h1 => ?_)
  · have hD := if_t hD h1
    refine r_aload_n hK d_X12_agree_168 rfl rfl ?_
    obtain ⟨u3, e2, hD⟩ := bd0_e hD
    refine r_callV (As := []) (st := []) (stk2 := []) hK (C_X12_putBack  e2) d_X12_agree_169 mf_X12_putBack ml_RX12_405 im_X12_putBack rfl se_11_RX12_X12_putBack kd_78 rfl (Nat.le_of_ble_eq_true rfl) (by decide) ⟨Nat.zero_le _, Nat.zero_le _⟩ rfl rfl ?_
    refine r_iload hK d_X12_agree_172 rfl ?_
    cases hD
    exact r_iret hK d_X12_agree_174
  · have hD := if_f hD h1
    refine r_aload_n hK d_X12_agree_54 rfl rfl ?_
    refine r_iload_n hK d_X12_agree_55 rfl rfl ?_
    refine r_iload hK d_X12_agree_56 rfl ?_
    obtain ⟨v6, u5, e4, hD⟩ := bd_e hD
    refine r_callV (As := [.int x1, .int x5]) (st := []) (stk2 := [.int v6]) hK (C_X12_canLoad  e4) d_X12_agree_58 mf_X12_canLoad ml_RX12_360 im_X12_canLoad rfl se_11_RX12_X12_canLoad kd_78 rfl (Nat.le_of_ble_eq_true rfl) (by decide) ⟨Nat.zero_le _, Nat.zero_le _⟩ rfl rfl ?_
    refine r_if_ne (tgt := 67) hK d_X12_agree_61 (by decide) (fun h7 => ?_) (fun h7 => ?_)
    · have hD := if_f hD h7
      refine r_aload_n hK d_X12_agree_67 rfl rfl ?_
      refine r_iload_n hK d_X12_agree_68 rfl rfl ?_
      refine r_iload hK d_X12_agree_69 rfl ?_
      refine r_iconst hK d_X12_agree_71 ci_m1 ?_
      refine r_iconst hK d_X12_agree_72 ci_0 ?_
      refine r_iconst hK d_X12_agree_73 ci_0 ?_
      refine r_lconst hK d_X12_agree_74 cl_0 ?_
      obtain ⟨u9, e8, hD⟩ := bd0_e hD
      refine r_callV (As := [.int x1, .int x5, .int (-1 : Int32), .int (0 : Int32), .int (0 : Int32), .long (0 : Int64)]) (st := []) (stk2 := []) hK (C_X12_loads  e8) d_X12_agree_75 mf_X12_loads ml_RX12_363 im_X12_loads rfl se_11_RX12_X12_loads kd_78 rfl (Nat.le_of_ble_eq_true rfl) (by decide) ⟨Nat.zero_le _, Nat.zero_le _⟩ rfl rfl ?_
      refine r_iconst hK d_X12_agree_78 ci_1 ?_
      refine r_istore hK d_X12_agree_79 (by decide) (ls2 := [.ref 78, .int x1, .int x2, .int x3, .int x4, .int x5, .int (1 : Int32), gs_J]) rfl ?_
      refine r_iconst hK d_X12_agree_81 ci_0 ?_
      refine r_istore hK d_X12_agree_82 (by decide) (ls2 := [.ref 78, .int x1, .int x2, .int x3, .int x4, .int x5, .int (1 : Int32), .int (0 : Int32)]) rfl ?_
      exact TL_X12_agree_84 hK hq45 _ _ _ _ _ _ _ _ _  hD
    · have hD := if_t hD h7
      refine r_goto (tgt := 162) hK d_X12_agree_64 (by decide) ?_
      refine r_iinc hK d_X12_agree_162 rfl (v := x5 + (1 : Int32)) (by rw [ci_1]) (by decide) (ls2 := [.ref 78, .int x1, .int x2, .int x3, .int x4, .int (x5 + (1 : Int32)), gs_J, gs_J]) rfl ?_
      refine r_goto (tgt := 45) hK d_X12_agree_165 (by decide) ?_
      exact hq45 _ _ _ _ _ _  hD
set_option maxRecDepth 20000 in
theorem TL_X12_agree_45  (hK : KC p R s m args meth c ad g tyc RX12 cX12_agree 8 (some .int) 7) {r : Int32} {μ2 : gs_M}   : ∀ (n : Nat) (x1 : Int32) (x2 : Int32) (x3 : Int32) (x4 : Int32) (x5 : Int32) (μ : gs_M), L_X12_agree_45  n x1 x2 x3 x4 x5 μ = some (r, μ2) → WJ p l e R s m args below meth c 0 0 (MQ below (gs_Q ad g tyc (some (.int r)) μ2) args s 0 0 (gs_A ad)) ad g tyc 8 45 [.ref 78, .int x1, .int x2, .int x3, .int x4, .int x5, gs_J, gs_J] [] μ := by
  intro n
  induction n with
  | zero => intro x1 x2 x3 x4 x5 μ  hD; cases hD
  | succ n ih => intro x1 x2 x3 x4 x5 μ  hD; exact To_X12_agree_45 hK  ih  hD
set_option maxRecDepth 20000 in
theorem C_X12_agree  {x1 : Int32} {x2 : Int32} {x3 : Int32} {μ : gs_M} {r : Int32} {μ2 : gs_M}  (hD : D_X12_agree x1 x2 x3 μ = some (r, μ2)) : CALL yX12_agree cX12_agree 8 (some .int) 7 [.ref 78, .int x1, .int x2, .int x3] μ (some (.int r)) μ2 := by
  unfold D_X12_agree at hD
  refine gs_enter mf_X12_agree (Nat.le_of_ble_eq_true rfl) (ls := [.ref 78, .int x1, .int x2, .int x3, gs_J, gs_J, gs_J, gs_J]) rfl (fun p l e R s m args below meth c ad g tyc hK => ?_)
  have hK : KC p R s m args meth c ad g tyc RX12 cX12_agree 8 (some .int) 7 := hK
  refine r_aload_n hK d_X12_agree_0 rfl rfl ?_
  refine r_iconst hK d_X12_agree_1 ci_0 ?_
  refine r_putI hK d_X12_agree_2 fl_RX12_98_11 rfl rfl kd_78 ?_
  refine r_ltm hD (fun u1 hD => ?_)
  refine r_aload_n hK d_X12_agree_5 rfl rfl ?_
  refine r_iload_n hK d_X12_agree_6 rfl rfl ?_
  obtain ⟨v4, u3, e2, hD⟩ := bd_e hD
  refine r_callV (As := [.int x1]) (st := []) (stk2 := [.int v4]) hK (C_X12_isShip  e2) d_X12_agree_7 mf_X12_isShip ml_RX12_283 im_X12_isShip rfl se_11_RX12_X12_isShip kd_78 rfl (Nat.le_of_ble_eq_true rfl) (by decide) ⟨Nat.zero_le _, Nat.zero_le _⟩ rfl rfl ?_
  refine r_if_eq (tgt := 33) hK d_X12_agree_10 (by decide) (fun h5 => ?_) (fun h5 => ?_)
  · have hD := if_t hD h5
    refine r_iconst hK d_X12_agree_33 ci_m1 ?_
    cases hD
    exact r_iret hK d_X12_agree_34
  · have hD := if_f hD h5
    refine r_iload_n hK d_X12_agree_13 rfl rfl ?_
    refine r_iconst hK d_X12_agree_14 ci_0 ?_
    refine r_bipush hK d_X12_agree_15 cb_40 ?_
    obtain ⟨v8, u7, e6, hD⟩ := bd_e hD
    refine r_callS (As := [.int x2, .int (0 : Int32), .int (40 : Int32)]) (st := []) (stk2 := [.int v8]) hK (C_X12_isIn  e6) d_X12_agree_17 mf_X12_isIn ml_RX12_217 ss_X12_isIn rfl (Nat.le_of_ble_eq_true rfl) (by decide) ⟨Nat.zero_le _, Nat.zero_le _⟩ rfl rfl ?_
    refine r_if_eq (tgt := 33) hK d_X12_agree_20 (by decide) (fun h9 => ?_) (fun h9 => ?_)
    · have hD := if_t hD h9
      refine r_iconst hK d_X12_agree_33 ci_m1 ?_
      cases hD
      exact r_iret hK d_X12_agree_34
    · have hD := if_f hD h9
      refine r_iload_n hK d_X12_agree_23 rfl rfl ?_
      refine r_iconst hK d_X12_agree_24 ci_0 ?_
      refine r_bipush hK d_X12_agree_25 cb_60 ?_
      obtain ⟨v12, u11, e10, hD⟩ := bd_e hD
      refine r_callS (As := [.int x3, .int (0 : Int32), .int (60 : Int32)]) (st := []) (stk2 := [.int v12]) hK (C_X12_isIn  e10) d_X12_agree_27 mf_X12_isIn ml_RX12_217 ss_X12_isIn rfl (Nat.le_of_ble_eq_true rfl) (by decide) ⟨Nat.zero_le _, Nat.zero_le _⟩ rfl rfl ?_
      refine r_if_ne (tgt := 35) hK d_X12_agree_30 (by decide) (fun h13 => ?_) (fun h13 => ?_)
      · have hD := if_f hD h13
        refine r_iconst hK d_X12_agree_35 ci_0 ?_
        refine r_istore hK d_X12_agree_36 (by decide) (ls2 := [.ref 78, .int x1, .int x2, .int x3, .int (0 : Int32), gs_J, gs_J, gs_J]) rfl ?_
        refine r_aload_n hK d_X12_agree_38 rfl rfl ?_
        obtain ⟨u15, e14, hD⟩ := bd0_e hD
        refine r_callV (As := []) (st := []) (stk2 := []) hK (C_X12_keeps  e14) d_X12_agree_39 mf_X12_keeps ml_RX12_402 im_X12_keeps rfl se_11_RX12_X12_keeps kd_78 rfl (Nat.le_of_ble_eq_true rfl) (by decide) ⟨Nat.zero_le _, Nat.zero_le _⟩ rfl rfl ?_
        refine r_iconst hK d_X12_agree_42 ci_0 ?_
        refine r_istore hK d_X12_agree_43 (by decide) (ls2 := [.ref 78, .int x1, .int x2, .int x3, .int (0 : Int32), .int (0 : Int32), gs_J, gs_J]) rfl ?_
        exact TL_X12_agree_45 hK  _ _ _ _ _ _ _  hD
      · have hD := if_t hD h13
        refine r_iconst hK d_X12_agree_33 ci_m1 ?_
        cases hD
        exact r_iret hK d_X12_agree_34
end S_X12_agree
theorem d_X12_heap_0 : gd cX12_heap 0 (.aload_n 0) 1 1 := ⟨by decide +kernel, rfl⟩
theorem d_X12_heap_1 : gd cX12_heap 1 (.iconst 0) 1 2 := ⟨by decide +kernel, rfl⟩
theorem d_X12_heap_2 : gd cX12_heap 2 (.putfield 98) 3 5 := ⟨by decide +kernel, rfl⟩
theorem d_X12_heap_5 : gd cX12_heap 5 (.aload_n 0) 1 6 := ⟨by decide +kernel, rfl⟩
theorem d_X12_heap_6 : gd cX12_heap 6 (.getfield 434) 3 9 := ⟨by decide +kernel, rfl⟩
theorem d_X12_heap_9 : gd cX12_heap 9 (.bipush 60) 2 11 := ⟨by decide +kernel, rfl⟩
theorem d_X12_heap_11 : gd cX12_heap 11 (.if_icmp .eq 13) 3 14 := ⟨by decide +kernel, rfl⟩
theorem d_X12_heap_14 : gd cX12_heap 14 (.iload_n 1) 1 15 := ⟨by decide +kernel, rfl⟩
theorem d_X12_heap_15 : gd cX12_heap 15 (.iconst 0) 1 16 := ⟨by decide +kernel, rfl⟩
theorem d_X12_heap_16 : gd cX12_heap 16 (.bipush 99) 2 18 := ⟨by decide +kernel, rfl⟩
theorem d_X12_heap_18 : gd cX12_heap 18 (.invokestatic 217) 3 21 := ⟨by decide +kernel, rfl⟩
theorem d_X12_heap_21 : gd cX12_heap 21 (.ifCond .ne 5) 3 24 := ⟨by decide +kernel, rfl⟩
theorem d_X12_heap_24 : gd cX12_heap 24 (.iconst (-1)) 1 25 := ⟨by decide +kernel, rfl⟩
theorem d_X12_heap_25 : gd cX12_heap 25 .ireturn 1 26 := ⟨by decide +kernel, rfl⟩
theorem d_X12_heap_26 : gd cX12_heap 26 (.aload_n 0) 1 27 := ⟨by decide +kernel, rfl⟩
theorem d_X12_heap_27 : gd cX12_heap 27 (.getfield 89) 3 30 := ⟨by decide +kernel, rfl⟩
theorem d_X12_heap_30 : gd cX12_heap 30 (.aload_n 0) 1 31 := ⟨by decide +kernel, rfl⟩
theorem d_X12_heap_31 : gd cX12_heap 31 (.getfield 434) 3 34 := ⟨by decide +kernel, rfl⟩
theorem d_X12_heap_34 : gd cX12_heap 34 (.iload_n 1) 1 35 := ⟨by decide +kernel, rfl⟩
theorem d_X12_heap_35 : gd cX12_heap 35 .iastore 1 36 := ⟨by decide +kernel, rfl⟩
theorem d_X12_heap_36 : gd cX12_heap 36 (.aload_n 0) 1 37 := ⟨by decide +kernel, rfl⟩
theorem d_X12_heap_37 : gd cX12_heap 37 .dup 1 38 := ⟨by decide +kernel, rfl⟩
theorem d_X12_heap_38 : gd cX12_heap 38 (.getfield 434) 3 41 := ⟨by decide +kernel, rfl⟩
theorem d_X12_heap_41 : gd cX12_heap 41 (.iconst 1) 1 42 := ⟨by decide +kernel, rfl⟩
theorem d_X12_heap_42 : gd cX12_heap 42 .iadd 1 43 := ⟨by decide +kernel, rfl⟩
theorem d_X12_heap_43 : gd cX12_heap 43 (.putfield 434) 3 46 := ⟨by decide +kernel, rfl⟩
theorem d_X12_heap_46 : gd cX12_heap 46 (.aload_n 0) 1 47 := ⟨by decide +kernel, rfl⟩
theorem d_X12_heap_47 : gd cX12_heap 47 (.getfield 434) 3 50 := ⟨by decide +kernel, rfl⟩
theorem d_X12_heap_50 : gd cX12_heap 50 .ireturn 1 51 := ⟨by decide +kernel, rfl⟩
def D_X12_heap (x1 : Int32) (μ : gs_M) : Option (Int32 × gs_M) :=
  lt1 (sI μ 78 0 (0 : Int32)) (fun u1 => if (gI u1 78 45) = (60 : Int32) then (some ((-1 : Int32), u1)) else (bd (D_X12_isIn x1 (0 : Int32) (99 : Int32) u1) (fun v5 u4 => if v5 = 0 then (some ((-1 : Int32), u4)) else (ck (inb (gI u4 78 45) 60) (lt1 (sI u4 95 (Int32.toNatClampNeg (gI u4 78 45)) x1) (fun u8 => lt1 (sI u8 78 45 ((gI u8 78 45) + (1 : Int32))) (fun u9 => some (gI u9 78 45, u9))))))))
section S_X12_heap
variable {p : Program} {l : Launch} {e : Env} {R : Room} {s : State} {m : MethodId} {args : Array Value} {below : List Frame} {meth : Method} {c : Code} {ad : Nat → Nat} {g : va_G} {tyc : Nat → ClassId}
set_option maxRecDepth 20000 in
theorem C_X12_heap  {x1 : Int32} {μ : gs_M} {r : Int32} {μ2 : gs_M}  (hD : D_X12_heap x1 μ = some (r, μ2)) : CALL yX12_heap cX12_heap 2 (some .int) 1 [.ref 78, .int x1] μ (some (.int r)) μ2 := by
  unfold D_X12_heap at hD
  refine gs_enter mf_X12_heap (Nat.le_of_ble_eq_true rfl) (ls := [.ref 78, .int x1]) rfl (fun p l e R s m args below meth c ad g tyc hK => ?_)
  have hK : KC p R s m args meth c ad g tyc RX12 cX12_heap 2 (some .int) 1 := hK
  refine r_aload_n hK d_X12_heap_0 rfl rfl ?_
  refine r_iconst hK d_X12_heap_1 ci_0 ?_
  refine r_putI hK d_X12_heap_2 fl_RX12_98_11 rfl rfl kd_78 ?_
  refine r_ltm hD (fun u1 hD => ?_)
  refine r_aload_n hK d_X12_heap_5 rfl rfl ?_
  refine r_getI hK d_X12_heap_6 fl_RX12_434_11 rfl kd_78 ?_
  refine r_bipush hK d_X12_heap_9 cb_60 ?_
  refine r_icmp_eq (tgt := 24) hK d_X12_heap_11 (by decide) (fun h2 => ?_) (fun h2 => ?_)
  · have hD := if_t hD h2
    refine r_iconst hK d_X12_heap_24 ci_m1 ?_
    cases hD
    exact r_iret hK d_X12_heap_25
  · have hD := if_f hD h2
    refine r_iload_n hK d_X12_heap_14 rfl rfl ?_
    refine r_iconst hK d_X12_heap_15 ci_0 ?_
    refine r_bipush hK d_X12_heap_16 cb_99 ?_
    obtain ⟨v5, u4, e3, hD⟩ := bd_e hD
    refine r_callS (As := [.int x1, .int (0 : Int32), .int (99 : Int32)]) (st := []) (stk2 := [.int v5]) hK (C_X12_isIn  e3) d_X12_heap_18 mf_X12_isIn ml_RX12_217 ss_X12_isIn rfl (Nat.le_of_ble_eq_true rfl) (by decide) ⟨Nat.zero_le _, Nat.zero_le _⟩ rfl rfl ?_
    refine r_if_ne (tgt := 26) hK d_X12_heap_21 (by decide) (fun h6 => ?_) (fun h6 => ?_)
    · have hD := if_f hD h6
      refine r_aload_n hK d_X12_heap_26 rfl rfl ?_
      refine r_getR hK d_X12_heap_27 fl_RX12_89_11 rfl kd_78 ?_
      refine r_ref (b := 95) R0_78_44 ?_
      refine r_aload_n hK d_X12_heap_30 rfl rfl ?_
      refine r_getI hK d_X12_heap_31 fl_RX12_434_11 rfl kd_78 ?_
      refine r_iload_n hK d_X12_heap_34 rfl rfl ?_
      obtain ⟨h7, hD⟩ := ck_e hD
      refine r_iast hK d_X12_heap_35 kd_95 ln_95 (inb_in h7) ?_
      refine r_ltm hD (fun u8 hD => ?_)
      refine r_aload_n hK d_X12_heap_36 rfl rfl ?_
      refine r_dup hK d_X12_heap_37 rfl ?_
      refine r_getI hK d_X12_heap_38 fl_RX12_434_11 rfl kd_78 ?_
      refine r_iconst hK d_X12_heap_41 ci_1 ?_
      refine r_iadd hK d_X12_heap_42 ?_
      refine r_putI hK d_X12_heap_43 fl_RX12_434_11 rfl rfl kd_78 ?_
      refine r_ltm hD (fun u9 hD => ?_)
      refine r_aload_n hK d_X12_heap_46 rfl rfl ?_
      refine r_getI hK d_X12_heap_47 fl_RX12_434_11 rfl kd_78 ?_
      cases hD
      exact r_iret hK d_X12_heap_50
    · have hD := if_t hD h6
      refine r_iconst hK d_X12_heap_24 ci_m1 ?_
      cases hD
      exact r_iret hK d_X12_heap_25
end S_X12_heap
theorem d_X12_choose_0 : gd cX12_choose 0 (.lconst 1) 1 1 := ⟨by decide +kernel, rfl⟩
theorem d_X12_choose_1 : gd cX12_choose 1 (.lstore_n 2) 1 2 := ⟨by decide +kernel, rfl⟩
theorem d_X12_choose_2 : gd cX12_choose 2 (.iconst 1) 1 3 := ⟨by decide +kernel, rfl⟩
theorem d_X12_choose_3 : gd cX12_choose 3 (.istore 4) 2 5 := ⟨by decide +kernel, rfl⟩
theorem d_X12_choose_5 : gd cX12_choose 5 (.iload 4) 2 7 := ⟨by decide +kernel, rfl⟩
theorem d_X12_choose_7 : gd cX12_choose 7 (.iload_n 1) 1 8 := ⟨by decide +kernel, rfl⟩
theorem d_X12_choose_8 : gd cX12_choose 8 (.if_icmp .gt 23) 3 11 := ⟨by decide +kernel, rfl⟩
theorem d_X12_choose_11 : gd cX12_choose 11 (.lload_n 2) 1 12 := ⟨by decide +kernel, rfl⟩
theorem d_X12_choose_12 : gd cX12_choose 12 (.iload_n 0) 1 13 := ⟨by decide +kernel, rfl⟩
theorem d_X12_choose_13 : gd cX12_choose 13 (.iload_n 1) 1 14 := ⟨by decide +kernel, rfl⟩
theorem d_X12_choose_14 : gd cX12_choose 14 .isub 1 15 := ⟨by decide +kernel, rfl⟩
theorem d_X12_choose_15 : gd cX12_choose 15 (.iload 4) 2 17 := ⟨by decide +kernel, rfl⟩
theorem d_X12_choose_17 : gd cX12_choose 17 .iadd 1 18 := ⟨by decide +kernel, rfl⟩
theorem d_X12_choose_18 : gd cX12_choose 18 .i2l 1 19 := ⟨by decide +kernel, rfl⟩
theorem d_X12_choose_19 : gd cX12_choose 19 .lmul 1 20 := ⟨by decide +kernel, rfl⟩
theorem d_X12_choose_20 : gd cX12_choose 20 (.iload 4) 2 22 := ⟨by decide +kernel, rfl⟩
theorem d_X12_choose_22 : gd cX12_choose 22 .i2l 1 23 := ⟨by decide +kernel, rfl⟩
theorem d_X12_choose_23 : gd cX12_choose 23 .ldiv 1 24 := ⟨by decide +kernel, rfl⟩
theorem d_X12_choose_24 : gd cX12_choose 24 (.lstore_n 2) 1 25 := ⟨by decide +kernel, rfl⟩
theorem d_X12_choose_25 : gd cX12_choose 25 (.iinc 4 1) 3 28 := ⟨by decide +kernel, rfl⟩
theorem d_X12_choose_28 : gd cX12_choose 28 (.goto (-23)) 3 31 := ⟨by decide +kernel, rfl⟩
theorem d_X12_choose_31 : gd cX12_choose 31 (.lload_n 2) 1 32 := ⟨by decide +kernel, rfl⟩
theorem d_X12_choose_32 : gd cX12_choose 32 .lreturn 1 33 := ⟨by decide +kernel, rfl⟩
def Bo_X12_choose_5 (q5 : Int32 → Int32 → Int64 → Int32 → gs_M → Option (Int64 × gs_M)) (x0 : Int32) (x1 : Int32) (z2 : Int64) (x4 : Int32) (μ : gs_M) : Option (Int64 × gs_M) :=
  if x1 < x4 then (some (z2, μ)) else (ck (nzl (Int32.toInt64 x4)) (lt1 ((z2 * (Int32.toInt64 ((x0 - x1) + x4))) / (Int32.toInt64 x4)) (fun v3 => q5 x0 x1 v3 (x4 + (1 : Int32)) μ)))
def L_X12_choose_5  : Nat → Int32 → Int32 → Int64 → Int32 → gs_M → Option (Int64 × gs_M)
  | 0 => fun _ _ _ _ _ => none
  | n + 1 => fun x0 x1 z2 x4 μ => Bo_X12_choose_5  (L_X12_choose_5  n) x0 x1 z2 x4 μ
def D_X12_choose (x0 : Int32) (x1 : Int32) (μ : gs_M) : Option (Int64 × gs_M) :=
  L_X12_choose_5 4096 x0 x1 (1 : Int64) (1 : Int32) μ
section S_X12_choose
variable {p : Program} {l : Launch} {e : Env} {R : Room} {s : State} {m : MethodId} {args : Array Value} {below : List Frame} {meth : Method} {c : Code} {ad : Nat → Nat} {g : va_G} {tyc : Nat → ClassId}
set_option maxRecDepth 20000 in
theorem To_X12_choose_5  (hK : KC p R s m args meth c ad g tyc RX12 cX12_choose 5 (some .long) 0) {r : Int64} {μ2 : gs_M} {q5 : Int32 → Int32 → Int64 → Int32 → gs_M → Option (Int64 × gs_M)} (hq5 : ∀ (x0 : Int32) (x1 : Int32) (z2 : Int64) (x4 : Int32) (μ : gs_M), q5 x0 x1 z2 x4 μ = some (r, μ2) → WJ p l e R s m args below meth c 0 0 (MQ below (gs_Q ad g tyc (some (.long r)) μ2) args s 0 0 (gs_A ad)) ad g tyc 5 5 [.int x0, .int x1, .long z2, gs_J, .int x4] [] μ) {x0 : Int32} {x1 : Int32} {z2 : Int64} {x4 : Int32} {μ : gs_M}  (hD : Bo_X12_choose_5 q5 x0 x1 z2 x4 μ = some (r, μ2)) : WJ p l e R s m args below meth c 0 0 (MQ below (gs_Q ad g tyc (some (.long r)) μ2) args s 0 0 (gs_A ad)) ad g tyc 5 5 [.int x0, .int x1, .long z2, gs_J, .int x4] [] μ := by
  unfold Bo_X12_choose_5 at hD
  refine r_iload hK d_X12_choose_5 rfl ?_
  refine r_iload_n hK d_X12_choose_7 rfl rfl ?_
  refine r_icmp_gt (tgt := 31) hK d_X12_choose_8 (by decide) (fun h1 => ?_) (fun h1 => ?_)
  · have hD := if_t hD h1
    refine r_lload_n hK d_X12_choose_31 rfl rfl ?_
    cases hD
    exact r_lret hK d_X12_choose_32
  · have hD := if_f hD h1
    refine r_lload_n hK d_X12_choose_11 rfl rfl ?_
    refine r_iload_n hK d_X12_choose_12 rfl rfl ?_
    refine r_iload_n hK d_X12_choose_13 rfl rfl ?_
    refine r_isub hK d_X12_choose_14 ?_
    refine r_iload hK d_X12_choose_15 rfl ?_
    refine r_iadd hK d_X12_choose_17 ?_
    refine r_i2l hK d_X12_choose_18 ?_
    refine r_lmul hK d_X12_choose_19 ?_
    refine r_iload hK d_X12_choose_20 rfl ?_
    refine r_i2l hK d_X12_choose_22 ?_
    obtain ⟨h2, hD⟩ := ck_e hD
    refine r_ldiv hK d_X12_choose_23 (nzl_e h2) ?_
    refine r_ltl hD (fun v3 hD => ?_)
    refine r_lstore_n hK d_X12_choose_24 rfl (by decide) (ls2 := [.int x0, .int x1, .long v3, gs_J, .int x4]) rfl ?_
    refine r_iinc hK d_X12_choose_25 rfl (v := x4 + (1 : Int32)) (by rw [ci_1]) (by decide) (ls2 := [.int x0, .int x1, .long v3, gs_J, .int (x4 + (1 : Int32))]) rfl ?_
    refine r_goto (tgt := 5) hK d_X12_choose_28 (by decide) ?_
    exact hq5 _ _ _ _ _  hD
set_option maxRecDepth 20000 in
theorem TL_X12_choose_5  (hK : KC p R s m args meth c ad g tyc RX12 cX12_choose 5 (some .long) 0) {r : Int64} {μ2 : gs_M}   : ∀ (n : Nat) (x0 : Int32) (x1 : Int32) (z2 : Int64) (x4 : Int32) (μ : gs_M), L_X12_choose_5  n x0 x1 z2 x4 μ = some (r, μ2) → WJ p l e R s m args below meth c 0 0 (MQ below (gs_Q ad g tyc (some (.long r)) μ2) args s 0 0 (gs_A ad)) ad g tyc 5 5 [.int x0, .int x1, .long z2, gs_J, .int x4] [] μ := by
  intro n
  induction n with
  | zero => intro x0 x1 z2 x4 μ  hD; cases hD
  | succ n ih => intro x0 x1 z2 x4 μ  hD; exact To_X12_choose_5 hK  ih  hD
set_option maxRecDepth 20000 in
theorem C_X12_choose  {x0 : Int32} {x1 : Int32} {μ : gs_M} {r : Int64} {μ2 : gs_M}  (hD : D_X12_choose x0 x1 μ = some (r, μ2)) : CALL yX12_choose cX12_choose 5 (some .long) 0 [.int x0, .int x1] μ (some (.long r)) μ2 := by
  unfold D_X12_choose at hD
  refine gs_enter mf_X12_choose (Nat.le_of_ble_eq_true rfl) (ls := [.int x0, .int x1, gs_J, gs_J, gs_J]) rfl (fun p l e R s m args below meth c ad g tyc hK => ?_)
  have hK : KC p R s m args meth c ad g tyc RX12 cX12_choose 5 (some .long) 0 := hK
  refine r_lconst hK d_X12_choose_0 cl_1 ?_
  refine r_lstore_n hK d_X12_choose_1 rfl (by decide) (ls2 := [.int x0, .int x1, .long (1 : Int64), gs_J, gs_J]) rfl ?_
  refine r_iconst hK d_X12_choose_2 ci_1 ?_
  refine r_istore hK d_X12_choose_3 (by decide) (ls2 := [.int x0, .int x1, .long (1 : Int64), gs_J, .int (1 : Int32)]) rfl ?_
  exact TL_X12_choose_5 hK  _ _ _ _ _ _  hD
end S_X12_choose
theorem d_X12_dry_0 : gd cX12_dry 0 (.iconst 0) 1 1 := ⟨by decide +kernel, rfl⟩
theorem d_X12_dry_1 : gd cX12_dry 1 (.istore_n 2) 1 2 := ⟨by decide +kernel, rfl⟩
theorem d_X12_dry_2 : gd cX12_dry 2 (.iconst 0) 1 3 := ⟨by decide +kernel, rfl⟩
theorem d_X12_dry_3 : gd cX12_dry 3 (.istore_n 3) 1 4 := ⟨by decide +kernel, rfl⟩
theorem d_X12_dry_4 : gd cX12_dry 4 (.iload_n 3) 1 5 := ⟨by decide +kernel, rfl⟩
theorem d_X12_dry_5 : gd cX12_dry 5 (.aload_n 0) 1 6 := ⟨by decide +kernel, rfl⟩
theorem d_X12_dry_6 : gd cX12_dry 6 (.getfield 434) 3 9 := ⟨by decide +kernel, rfl⟩
theorem d_X12_dry_9 : gd cX12_dry 9 (.if_icmp .ge 27) 3 12 := ⟨by decide +kernel, rfl⟩
theorem d_X12_dry_12 : gd cX12_dry 12 (.iload_n 2) 1 13 := ⟨by decide +kernel, rfl⟩
theorem d_X12_dry_13 : gd cX12_dry 13 (.aload_n 0) 1 14 := ⟨by decide +kernel, rfl⟩
theorem d_X12_dry_14 : gd cX12_dry 14 (.getfield 89) 3 17 := ⟨by decide +kernel, rfl⟩
theorem d_X12_dry_17 : gd cX12_dry 17 (.iload_n 3) 1 18 := ⟨by decide +kernel, rfl⟩
theorem d_X12_dry_18 : gd cX12_dry 18 .iaload 1 19 := ⟨by decide +kernel, rfl⟩
theorem d_X12_dry_19 : gd cX12_dry 19 (.iload_n 1) 1 20 := ⟨by decide +kernel, rfl⟩
theorem d_X12_dry_20 : gd cX12_dry 20 (.if_icmp .gt 7) 3 23 := ⟨by decide +kernel, rfl⟩
theorem d_X12_dry_23 : gd cX12_dry 23 (.iconst 1) 1 24 := ⟨by decide +kernel, rfl⟩
theorem d_X12_dry_24 : gd cX12_dry 24 (.goto 4) 3 27 := ⟨by decide +kernel, rfl⟩
theorem d_X12_dry_27 : gd cX12_dry 27 (.iconst 0) 1 28 := ⟨by decide +kernel, rfl⟩
theorem d_X12_dry_28 : gd cX12_dry 28 .iadd 1 29 := ⟨by decide +kernel, rfl⟩
theorem d_X12_dry_29 : gd cX12_dry 29 (.istore_n 2) 1 30 := ⟨by decide +kernel, rfl⟩
theorem d_X12_dry_30 : gd cX12_dry 30 (.iinc 3 1) 3 33 := ⟨by decide +kernel, rfl⟩
theorem d_X12_dry_33 : gd cX12_dry 33 (.goto (-29)) 3 36 := ⟨by decide +kernel, rfl⟩
theorem d_X12_dry_36 : gd cX12_dry 36 (.iload_n 2) 1 37 := ⟨by decide +kernel, rfl⟩
theorem d_X12_dry_37 : gd cX12_dry 37 .ireturn 1 38 := ⟨by decide +kernel, rfl⟩
def Bo_X12_dry_4 (q4 : Int32 → Int32 → Int32 → gs_M → Option (Int32 × gs_M)) (x1 : Int32) (x2 : Int32) (x3 : Int32) (μ : gs_M) : Option (Int32 × gs_M) :=
  if (gI μ 78 45) ≤ x3 then (some (x2, μ)) else (ck (inb x3 60) (if x1 < (gI μ 95 (Int32.toNatClampNeg x3)) then (lt1 (x2 + (0 : Int32)) (fun v4 => q4 x1 v4 (x3 + (1 : Int32)) μ)) else (lt1 (x2 + (1 : Int32)) (fun v5 => q4 x1 v5 (x3 + (1 : Int32)) μ))))
def L_X12_dry_4  : Nat → Int32 → Int32 → Int32 → gs_M → Option (Int32 × gs_M)
  | 0 => fun _ _ _ _ => none
  | n + 1 => fun x1 x2 x3 μ => Bo_X12_dry_4  (L_X12_dry_4  n) x1 x2 x3 μ
def D_X12_dry (x1 : Int32) (μ : gs_M) : Option (Int32 × gs_M) :=
  L_X12_dry_4 4096 x1 (0 : Int32) (0 : Int32) μ
section S_X12_dry
variable {p : Program} {l : Launch} {e : Env} {R : Room} {s : State} {m : MethodId} {args : Array Value} {below : List Frame} {meth : Method} {c : Code} {ad : Nat → Nat} {g : va_G} {tyc : Nat → ClassId}
set_option maxRecDepth 20000 in
theorem To_X12_dry_4  (hK : KC p R s m args meth c ad g tyc RX12 cX12_dry 4 (some .int) 0) {r : Int32} {μ2 : gs_M} {q4 : Int32 → Int32 → Int32 → gs_M → Option (Int32 × gs_M)} (hq4 : ∀ (x1 : Int32) (x2 : Int32) (x3 : Int32) (μ : gs_M), q4 x1 x2 x3 μ = some (r, μ2) → WJ p l e R s m args below meth c 0 0 (MQ below (gs_Q ad g tyc (some (.int r)) μ2) args s 0 0 (gs_A ad)) ad g tyc 4 4 [.ref 78, .int x1, .int x2, .int x3] [] μ) {x1 : Int32} {x2 : Int32} {x3 : Int32} {μ : gs_M}  (hD : Bo_X12_dry_4 q4 x1 x2 x3 μ = some (r, μ2)) : WJ p l e R s m args below meth c 0 0 (MQ below (gs_Q ad g tyc (some (.int r)) μ2) args s 0 0 (gs_A ad)) ad g tyc 4 4 [.ref 78, .int x1, .int x2, .int x3] [] μ := by
  unfold Bo_X12_dry_4 at hD
  refine r_iload_n hK d_X12_dry_4 rfl rfl ?_
  refine r_aload_n hK d_X12_dry_5 rfl rfl ?_
  refine r_getI hK d_X12_dry_6 fl_RX12_434_11 rfl kd_78 ?_
  refine r_icmp_ge (tgt := 36) hK d_X12_dry_9 (by decide) (fun h1 => ?_) (fun h1 => ?_)
  · have hD := if_t hD h1
    refine r_iload_n hK d_X12_dry_36 rfl rfl ?_
    cases hD
    exact r_iret hK d_X12_dry_37
  · have hD := if_f hD h1
    refine r_iload_n hK d_X12_dry_12 rfl rfl ?_
    refine r_aload_n hK d_X12_dry_13 rfl rfl ?_
    refine r_getR hK d_X12_dry_14 fl_RX12_89_11 rfl kd_78 ?_
    refine r_ref (b := 95) R0_78_44 ?_
    refine r_iload_n hK d_X12_dry_17 rfl rfl ?_
    obtain ⟨h2, hD⟩ := ck_e hD
    refine r_iald hK d_X12_dry_18 kd_95 ln_95 (inb_in h2) ?_
    refine r_iload_n hK d_X12_dry_19 rfl rfl ?_
    refine r_icmp_gt (tgt := 27) hK d_X12_dry_20 (by decide) (fun h3 => ?_) (fun h3 => ?_)
    · have hD := if_t hD h3
      refine r_iconst hK d_X12_dry_27 ci_0 ?_
      refine r_iadd hK d_X12_dry_28 ?_
      refine r_lti hD (fun v4 hD => ?_)
      refine r_istore_n hK d_X12_dry_29 rfl (by decide) (ls2 := [.ref 78, .int x1, .int v4, .int x3]) rfl ?_
      refine r_iinc hK d_X12_dry_30 rfl (v := x3 + (1 : Int32)) (by rw [ci_1]) (by decide) (ls2 := [.ref 78, .int x1, .int v4, .int (x3 + (1 : Int32))]) rfl ?_
      refine r_goto (tgt := 4) hK d_X12_dry_33 (by decide) ?_
      exact hq4 _ _ _ _  hD
    · have hD := if_f hD h3
      refine r_iconst hK d_X12_dry_23 ci_1 ?_
      refine r_goto (tgt := 28) hK d_X12_dry_24 (by decide) ?_
      refine r_iadd hK d_X12_dry_28 ?_
      refine r_lti hD (fun v5 hD => ?_)
      refine r_istore_n hK d_X12_dry_29 rfl (by decide) (ls2 := [.ref 78, .int x1, .int v5, .int x3]) rfl ?_
      refine r_iinc hK d_X12_dry_30 rfl (v := x3 + (1 : Int32)) (by rw [ci_1]) (by decide) (ls2 := [.ref 78, .int x1, .int v5, .int (x3 + (1 : Int32))]) rfl ?_
      refine r_goto (tgt := 4) hK d_X12_dry_33 (by decide) ?_
      exact hq4 _ _ _ _  hD
set_option maxRecDepth 20000 in
theorem TL_X12_dry_4  (hK : KC p R s m args meth c ad g tyc RX12 cX12_dry 4 (some .int) 0) {r : Int32} {μ2 : gs_M}   : ∀ (n : Nat) (x1 : Int32) (x2 : Int32) (x3 : Int32) (μ : gs_M), L_X12_dry_4  n x1 x2 x3 μ = some (r, μ2) → WJ p l e R s m args below meth c 0 0 (MQ below (gs_Q ad g tyc (some (.int r)) μ2) args s 0 0 (gs_A ad)) ad g tyc 4 4 [.ref 78, .int x1, .int x2, .int x3] [] μ := by
  intro n
  induction n with
  | zero => intro x1 x2 x3 μ  hD; cases hD
  | succ n ih => intro x1 x2 x3 μ  hD; exact To_X12_dry_4 hK  ih  hD
set_option maxRecDepth 20000 in
theorem C_X12_dry  {x1 : Int32} {μ : gs_M} {r : Int32} {μ2 : gs_M}  (hD : D_X12_dry x1 μ = some (r, μ2)) : CALL yX12_dry cX12_dry 4 (some .int) 0 [.ref 78, .int x1] μ (some (.int r)) μ2 := by
  unfold D_X12_dry at hD
  refine gs_enter mf_X12_dry (Nat.le_of_ble_eq_true rfl) (ls := [.ref 78, .int x1, gs_J, gs_J]) rfl (fun p l e R s m args below meth c ad g tyc hK => ?_)
  have hK : KC p R s m args meth c ad g tyc RX12 cX12_dry 4 (some .int) 0 := hK
  refine r_iconst hK d_X12_dry_0 ci_0 ?_
  refine r_istore_n hK d_X12_dry_1 rfl (by decide) (ls2 := [.ref 78, .int x1, .int (0 : Int32), gs_J]) rfl ?_
  refine r_iconst hK d_X12_dry_2 ci_0 ?_
  refine r_istore_n hK d_X12_dry_3 rfl (by decide) (ls2 := [.ref 78, .int x1, .int (0 : Int32), .int (0 : Int32)]) rfl ?_
  exact TL_X12_dry_4 hK  _ _ _ _ _  hD
end S_X12_dry
theorem d_X12_areCans_0 : gd cX12_areCans 0 (.iload_n 1) 1 1 := ⟨by decide +kernel, rfl⟩
theorem d_X12_areCans_1 : gd cX12_areCans 1 (.iconst 1) 1 2 := ⟨by decide +kernel, rfl⟩
theorem d_X12_areCans_2 : gd cX12_areCans 2 (.bipush 10) 2 4 := ⟨by decide +kernel, rfl⟩
theorem d_X12_areCans_4 : gd cX12_areCans 4 (.aload_n 0) 1 5 := ⟨by decide +kernel, rfl⟩
theorem d_X12_areCans_5 : gd cX12_areCans 5 (.getfield 434) 3 8 := ⟨by decide +kernel, rfl⟩
theorem d_X12_areCans_8 : gd cX12_areCans 8 (.invokestatic 314) 3 11 := ⟨by decide +kernel, rfl⟩
theorem d_X12_areCans_11 : gd cX12_areCans 11 (.invokestatic 217) 3 14 := ⟨by decide +kernel, rfl⟩
theorem d_X12_areCans_14 : gd cX12_areCans 14 (.ifCond .eq 17) 3 17 := ⟨by decide +kernel, rfl⟩
theorem d_X12_areCans_17 : gd cX12_areCans 17 (.iload_n 2) 1 18 := ⟨by decide +kernel, rfl⟩
theorem d_X12_areCans_18 : gd cX12_areCans 18 (.iconst 0) 1 19 := ⟨by decide +kernel, rfl⟩
theorem d_X12_areCans_19 : gd cX12_areCans 19 (.bipush 99) 2 21 := ⟨by decide +kernel, rfl⟩
theorem d_X12_areCans_21 : gd cX12_areCans 21 (.invokestatic 217) 3 24 := ⟨by decide +kernel, rfl⟩
theorem d_X12_areCans_24 : gd cX12_areCans 24 (.ifCond .eq 7) 3 27 := ⟨by decide +kernel, rfl⟩
theorem d_X12_areCans_27 : gd cX12_areCans 27 (.iconst 1) 1 28 := ⟨by decide +kernel, rfl⟩
theorem d_X12_areCans_28 : gd cX12_areCans 28 (.goto 4) 3 31 := ⟨by decide +kernel, rfl⟩
theorem d_X12_areCans_31 : gd cX12_areCans 31 (.iconst 0) 1 32 := ⟨by decide +kernel, rfl⟩
theorem d_X12_areCans_32 : gd cX12_areCans 32 .ireturn 1 33 := ⟨by decide +kernel, rfl⟩
def B_X12_areCans_31   (μ : gs_M) : Option (Int32 × gs_M) :=
  some ((0 : Int32), μ)
def D_X12_areCans (x1 : Int32) (x2 : Int32) (μ : gs_M) : Option (Int32 × gs_M) :=
  lt1 (if (gI μ 78 45) < (10 : Int32) then (gI μ 78 45) else (10 : Int32)) (fun v1 => bd (D_X12_isIn x1 (1 : Int32) v1 μ) (fun v4 u3 => if v4 = 0 then (B_X12_areCans_31 u3) else (bd (D_X12_isIn x2 (0 : Int32) (99 : Int32) u3) (fun v8 u7 => if v8 = 0 then (B_X12_areCans_31 u7) else (some ((1 : Int32), u7))))))
section S_X12_areCans
variable {p : Program} {l : Launch} {e : Env} {R : Room} {s : State} {m : MethodId} {args : Array Value} {below : List Frame} {meth : Method} {c : Code} {ad : Nat → Nat} {g : va_G} {tyc : Nat → ClassId}
set_option maxRecDepth 20000 in
theorem T_X12_areCans_31  (hK : KC p R s m args meth c ad g tyc RX12 cX12_areCans 3 (some .boolean) 1) {r : Int32} {μ2 : gs_M}    {μ : gs_M}  (hD : B_X12_areCans_31   μ = some (r, μ2)) : WJ p l e R s m args below meth c 0 0 (MQ below (gs_Q ad g tyc (some (.int r)) μ2) args s 0 0 (gs_A ad)) ad g tyc 3 31 [gs_J, gs_J, gs_J] [] μ := by
  unfold B_X12_areCans_31 at hD
  refine r_iconst hK d_X12_areCans_31 ci_0 ?_
  cases hD
  exact r_zret hK (Or.inl rfl) d_X12_areCans_32
set_option maxRecDepth 20000 in
theorem C_X12_areCans  {x1 : Int32} {x2 : Int32} {μ : gs_M} {r : Int32} {μ2 : gs_M}  (hD : D_X12_areCans x1 x2 μ = some (r, μ2)) : CALL yX12_areCans cX12_areCans 3 (some .boolean) 1 [.ref 78, .int x1, .int x2] μ (some (.int r)) μ2 := by
  unfold D_X12_areCans at hD
  refine gs_enter mf_X12_areCans (Nat.le_of_ble_eq_true rfl) (ls := [.ref 78, .int x1, .int x2]) rfl (fun p l e R s m args below meth c ad g tyc hK => ?_)
  have hK : KC p R s m args meth c ad g tyc RX12 cX12_areCans 3 (some .boolean) 1 := hK
  refine r_iload_n hK d_X12_areCans_0 rfl rfl ?_
  refine r_iconst hK d_X12_areCans_1 ci_1 ?_
  refine r_bipush hK d_X12_areCans_2 cb_10 ?_
  refine r_aload_n hK d_X12_areCans_4 rfl rfl ?_
  refine r_getI hK d_X12_areCans_5 fl_RX12_434_11 rfl kd_78 ?_
  refine r_mmin hK d_X12_areCans_8 mm_RX12_314 ms_min mi_0 mc_min (Nat.le_of_ble_eq_true rfl) (by decide) ⟨Nat.zero_le _, Nat.zero_le _⟩ ?_
  refine r_lti hD (fun v1 hD => ?_)
  obtain ⟨v4, u3, e2, hD⟩ := bd_e hD
  refine r_callS (As := [.int x1, .int (1 : Int32), .int v1]) (st := []) (stk2 := [.int v4]) hK (C_X12_isIn  e2) d_X12_areCans_11 mf_X12_isIn ml_RX12_217 ss_X12_isIn rfl (Nat.le_of_ble_eq_true rfl) (by decide) ⟨Nat.zero_le _, Nat.zero_le _⟩ rfl rfl ?_
  refine r_if_eq (tgt := 31) hK d_X12_areCans_14 (by decide) (fun h5 => ?_) (fun h5 => ?_)
  · have hD := if_t hD h5
    refine r_junk [false, false, false] (ls2 := [gs_J, gs_J, gs_J]) rfl ?_
    exact T_X12_areCans_31 hK   hD
  · have hD := if_f hD h5
    refine r_iload_n hK d_X12_areCans_17 rfl rfl ?_
    refine r_iconst hK d_X12_areCans_18 ci_0 ?_
    refine r_bipush hK d_X12_areCans_19 cb_99 ?_
    obtain ⟨v8, u7, e6, hD⟩ := bd_e hD
    refine r_callS (As := [.int x2, .int (0 : Int32), .int (99 : Int32)]) (st := []) (stk2 := [.int v8]) hK (C_X12_isIn  e6) d_X12_areCans_21 mf_X12_isIn ml_RX12_217 ss_X12_isIn rfl (Nat.le_of_ble_eq_true rfl) (by decide) ⟨Nat.zero_le _, Nat.zero_le _⟩ rfl rfl ?_
    refine r_if_eq (tgt := 31) hK d_X12_areCans_24 (by decide) (fun h9 => ?_) (fun h9 => ?_)
    · have hD := if_t hD h9
      refine r_junk [false, false, false] (ls2 := [gs_J, gs_J, gs_J]) rfl ?_
      exact T_X12_areCans_31 hK   hD
    · have hD := if_f hD h9
      refine r_iconst hK d_X12_areCans_27 ci_1 ?_
      refine r_goto (tgt := 32) hK d_X12_areCans_28 (by decide) ?_
      cases hD
      exact r_zret hK (Or.inr rfl) d_X12_areCans_32
end S_X12_areCans
theorem d_X12_missOf_0 : gd cX12_missOf 0 (.aload_n 0) 1 1 := ⟨by decide +kernel, rfl⟩
theorem d_X12_missOf_1 : gd cX12_missOf 1 (.iload_n 2) 1 2 := ⟨by decide +kernel, rfl⟩
theorem d_X12_missOf_2 : gd cX12_missOf 2 (.invokevirtual 437) 3 5 := ⟨by decide +kernel, rfl⟩
theorem d_X12_missOf_5 : gd cX12_missOf 5 (.iload_n 1) 1 6 := ⟨by decide +kernel, rfl⟩
theorem d_X12_missOf_6 : gd cX12_missOf 6 (.if_icmp .ge 7) 3 9 := ⟨by decide +kernel, rfl⟩
theorem d_X12_missOf_9 : gd cX12_missOf 9 (.iconst 0) 1 10 := ⟨by decide +kernel, rfl⟩
theorem d_X12_missOf_10 : gd cX12_missOf 10 (.goto 26) 3 13 := ⟨by decide +kernel, rfl⟩
theorem d_X12_missOf_13 : gd cX12_missOf 13 (.aload_n 0) 1 14 := ⟨by decide +kernel, rfl⟩
theorem d_X12_missOf_14 : gd cX12_missOf 14 (.iload_n 2) 1 15 := ⟨by decide +kernel, rfl⟩
theorem d_X12_missOf_15 : gd cX12_missOf 15 (.invokevirtual 437) 3 18 := ⟨by decide +kernel, rfl⟩
theorem d_X12_missOf_18 : gd cX12_missOf 18 (.iload_n 1) 1 19 := ⟨by decide +kernel, rfl⟩
theorem d_X12_missOf_19 : gd cX12_missOf 19 (.invokestatic 440) 3 22 := ⟨by decide +kernel, rfl⟩
theorem d_X12_missOf_22 : gd cX12_missOf 22 (.ldc2_w 143) 3 25 := ⟨by decide +kernel, rfl⟩
theorem d_X12_missOf_25 : gd cX12_missOf 25 .lmul 1 26 := ⟨by decide +kernel, rfl⟩
theorem d_X12_missOf_26 : gd cX12_missOf 26 (.aload_n 0) 1 27 := ⟨by decide +kernel, rfl⟩
theorem d_X12_missOf_27 : gd cX12_missOf 27 (.getfield 434) 3 30 := ⟨by decide +kernel, rfl⟩
theorem d_X12_missOf_30 : gd cX12_missOf 30 (.iload_n 1) 1 31 := ⟨by decide +kernel, rfl⟩
theorem d_X12_missOf_31 : gd cX12_missOf 31 (.invokestatic 440) 3 34 := ⟨by decide +kernel, rfl⟩
theorem d_X12_missOf_34 : gd cX12_missOf 34 .ldiv 1 35 := ⟨by decide +kernel, rfl⟩
theorem d_X12_missOf_35 : gd cX12_missOf 35 .l2i 1 36 := ⟨by decide +kernel, rfl⟩
theorem d_X12_missOf_36 : gd cX12_missOf 36 .ireturn 1 37 := ⟨by decide +kernel, rfl⟩
def D_X12_missOf (x1 : Int32) (x2 : Int32) (μ : gs_M) : Option (Int32 × gs_M) :=
  bd (D_X12_dry x2 μ) (fun v3 u2 => if x1 ≤ v3 then (bd (D_X12_dry x2 u2) (fun v7 u6 => bd (D_X12_choose v7 x1 u6) (fun v10 u9 => bd (D_X12_choose (gI u9 78 45) x1 u9) (fun v13 u12 => ck (nzl v13) (some (Int64.toInt32 ((v10 * (1000000 : Int64)) / v13), u12)))))) else (some ((0 : Int32), u2)))
section S_X12_missOf
variable {p : Program} {l : Launch} {e : Env} {R : Room} {s : State} {m : MethodId} {args : Array Value} {below : List Frame} {meth : Method} {c : Code} {ad : Nat → Nat} {g : va_G} {tyc : Nat → ClassId}
set_option maxRecDepth 20000 in
theorem C_X12_missOf  {x1 : Int32} {x2 : Int32} {μ : gs_M} {r : Int32} {μ2 : gs_M}  (hD : D_X12_missOf x1 x2 μ = some (r, μ2)) : CALL yX12_missOf cX12_missOf 3 (some .int) 1 [.ref 78, .int x1, .int x2] μ (some (.int r)) μ2 := by
  unfold D_X12_missOf at hD
  refine gs_enter mf_X12_missOf (Nat.le_of_ble_eq_true rfl) (ls := [.ref 78, .int x1, .int x2]) rfl (fun p l e R s m args below meth c ad g tyc hK => ?_)
  have hK : KC p R s m args meth c ad g tyc RX12 cX12_missOf 3 (some .int) 1 := hK
  refine r_aload_n hK d_X12_missOf_0 rfl rfl ?_
  refine r_iload_n hK d_X12_missOf_1 rfl rfl ?_
  obtain ⟨v3, u2, e1, hD⟩ := bd_e hD
  refine r_callV (As := [.int x2]) (st := []) (stk2 := [.int v3]) hK (C_X12_dry  e1) d_X12_missOf_2 mf_X12_dry ml_RX12_437 im_X12_dry rfl se_11_RX12_X12_dry kd_78 rfl (Nat.le_of_ble_eq_true rfl) (by decide) ⟨Nat.zero_le _, Nat.zero_le _⟩ rfl rfl ?_
  refine r_iload_n hK d_X12_missOf_5 rfl rfl ?_
  refine r_icmp_ge (tgt := 13) hK d_X12_missOf_6 (by decide) (fun h4 => ?_) (fun h4 => ?_)
  · have hD := if_t hD h4
    refine r_aload_n hK d_X12_missOf_13 rfl rfl ?_
    refine r_iload_n hK d_X12_missOf_14 rfl rfl ?_
    obtain ⟨v7, u6, e5, hD⟩ := bd_e hD
    refine r_callV (As := [.int x2]) (st := []) (stk2 := [.int v7]) hK (C_X12_dry  e5) d_X12_missOf_15 mf_X12_dry ml_RX12_437 im_X12_dry rfl se_11_RX12_X12_dry kd_78 rfl (Nat.le_of_ble_eq_true rfl) (by decide) ⟨Nat.zero_le _, Nat.zero_le _⟩ rfl rfl ?_
    refine r_iload_n hK d_X12_missOf_18 rfl rfl ?_
    obtain ⟨v10, u9, e8, hD⟩ := bd_e hD
    refine r_callS (As := [.int v7, .int x1]) (st := []) (stk2 := [.long v10]) hK (C_X12_choose  e8) d_X12_missOf_19 mf_X12_choose ml_RX12_440 ss_X12_choose rfl (Nat.le_of_ble_eq_true rfl) (by decide) ⟨Nat.zero_le _, Nat.zero_le _⟩ rfl rfl ?_
    refine r_ldc2 hK d_X12_missOf_22 kl_RX12_143 ?_
    refine r_lmul hK d_X12_missOf_25 ?_
    refine r_aload_n hK d_X12_missOf_26 rfl rfl ?_
    refine r_getI hK d_X12_missOf_27 fl_RX12_434_11 rfl kd_78 ?_
    refine r_iload_n hK d_X12_missOf_30 rfl rfl ?_
    obtain ⟨v13, u12, e11, hD⟩ := bd_e hD
    refine r_callS (As := [.int (gI u9 78 45), .int x1]) (st := [.long (v10 * (1000000 : Int64))]) (stk2 := [.long v13, .long (v10 * (1000000 : Int64))]) hK (C_X12_choose  e11) d_X12_missOf_31 mf_X12_choose ml_RX12_440 ss_X12_choose rfl (Nat.le_of_ble_eq_true rfl) (by decide) ⟨Nat.zero_le _, Nat.zero_le _⟩ rfl rfl ?_
    obtain ⟨h14, hD⟩ := ck_e hD
    refine r_ldiv hK d_X12_missOf_34 (nzl_e h14) ?_
    refine r_l2i hK d_X12_missOf_35 ?_
    cases hD
    exact r_iret hK d_X12_missOf_36
  · have hD := if_f hD h4
    refine r_iconst hK d_X12_missOf_9 ci_0 ?_
    refine r_goto (tgt := 36) hK d_X12_missOf_10 (by decide) ?_
    cases hD
    exact r_iret hK d_X12_missOf_36
end S_X12_missOf
theorem d_X12_miss_0 : gd cX12_miss 0 (.aload_n 0) 1 1 := ⟨by decide +kernel, rfl⟩
theorem d_X12_miss_1 : gd cX12_miss 1 (.iconst 0) 1 2 := ⟨by decide +kernel, rfl⟩
theorem d_X12_miss_2 : gd cX12_miss 2 (.putfield 98) 3 5 := ⟨by decide +kernel, rfl⟩
theorem d_X12_miss_5 : gd cX12_miss 5 (.aload_n 0) 1 6 := ⟨by decide +kernel, rfl⟩
theorem d_X12_miss_6 : gd cX12_miss 6 (.iload_n 1) 1 7 := ⟨by decide +kernel, rfl⟩
theorem d_X12_miss_7 : gd cX12_miss 7 (.iload_n 2) 1 8 := ⟨by decide +kernel, rfl⟩
theorem d_X12_miss_8 : gd cX12_miss 8 (.invokevirtual 444) 3 11 := ⟨by decide +kernel, rfl⟩
theorem d_X12_miss_11 : gd cX12_miss 11 (.ifCond .eq 12) 3 14 := ⟨by decide +kernel, rfl⟩
theorem d_X12_miss_14 : gd cX12_miss 14 (.aload_n 0) 1 15 := ⟨by decide +kernel, rfl⟩
theorem d_X12_miss_15 : gd cX12_miss 15 (.iload_n 1) 1 16 := ⟨by decide +kernel, rfl⟩
theorem d_X12_miss_16 : gd cX12_miss 16 (.iload_n 2) 1 17 := ⟨by decide +kernel, rfl⟩
theorem d_X12_miss_17 : gd cX12_miss 17 (.invokevirtual 447) 3 20 := ⟨by decide +kernel, rfl⟩
theorem d_X12_miss_20 : gd cX12_miss 20 (.goto 4) 3 23 := ⟨by decide +kernel, rfl⟩
theorem d_X12_miss_23 : gd cX12_miss 23 (.iconst (-1)) 1 24 := ⟨by decide +kernel, rfl⟩
theorem d_X12_miss_24 : gd cX12_miss 24 .ireturn 1 25 := ⟨by decide +kernel, rfl⟩
def D_X12_miss (x1 : Int32) (x2 : Int32) (μ : gs_M) : Option (Int32 × gs_M) :=
  lt1 (sI μ 78 0 (0 : Int32)) (fun u1 => bd (D_X12_areCans x1 x2 u1) (fun v4 u3 => if v4 = 0 then (some ((-1 : Int32), u3)) else (bd (D_X12_missOf x1 x2 u3) (fun v8 u7 => some (v8, u7)))))
section S_X12_miss
variable {p : Program} {l : Launch} {e : Env} {R : Room} {s : State} {m : MethodId} {args : Array Value} {below : List Frame} {meth : Method} {c : Code} {ad : Nat → Nat} {g : va_G} {tyc : Nat → ClassId}
set_option maxRecDepth 20000 in
theorem C_X12_miss  {x1 : Int32} {x2 : Int32} {μ : gs_M} {r : Int32} {μ2 : gs_M}  (hD : D_X12_miss x1 x2 μ = some (r, μ2)) : CALL yX12_miss cX12_miss 3 (some .int) 2 [.ref 78, .int x1, .int x2] μ (some (.int r)) μ2 := by
  unfold D_X12_miss at hD
  refine gs_enter mf_X12_miss (Nat.le_of_ble_eq_true rfl) (ls := [.ref 78, .int x1, .int x2]) rfl (fun p l e R s m args below meth c ad g tyc hK => ?_)
  have hK : KC p R s m args meth c ad g tyc RX12 cX12_miss 3 (some .int) 2 := hK
  refine r_aload_n hK d_X12_miss_0 rfl rfl ?_
  refine r_iconst hK d_X12_miss_1 ci_0 ?_
  refine r_putI hK d_X12_miss_2 fl_RX12_98_11 rfl rfl kd_78 ?_
  refine r_ltm hD (fun u1 hD => ?_)
  refine r_aload_n hK d_X12_miss_5 rfl rfl ?_
  refine r_iload_n hK d_X12_miss_6 rfl rfl ?_
  refine r_iload_n hK d_X12_miss_7 rfl rfl ?_
  obtain ⟨v4, u3, e2, hD⟩ := bd_e hD
  refine r_callV (As := [.int x1, .int x2]) (st := []) (stk2 := [.int v4]) hK (C_X12_areCans  e2) d_X12_miss_8 mf_X12_areCans ml_RX12_444 im_X12_areCans rfl se_11_RX12_X12_areCans kd_78 rfl (Nat.le_of_ble_eq_true rfl) (by decide) ⟨Nat.zero_le _, Nat.zero_le _⟩ rfl rfl ?_
  refine r_if_eq (tgt := 23) hK d_X12_miss_11 (by decide) (fun h5 => ?_) (fun h5 => ?_)
  · have hD := if_t hD h5
    refine r_iconst hK d_X12_miss_23 ci_m1 ?_
    cases hD
    exact r_iret hK d_X12_miss_24
  · have hD := if_f hD h5
    refine r_aload_n hK d_X12_miss_14 rfl rfl ?_
    refine r_iload_n hK d_X12_miss_15 rfl rfl ?_
    refine r_iload_n hK d_X12_miss_16 rfl rfl ?_
    obtain ⟨v8, u7, e6, hD⟩ := bd_e hD
    refine r_callV (As := [.int x1, .int x2]) (st := []) (stk2 := [.int v8]) hK (C_X12_missOf  e6) d_X12_miss_17 mf_X12_missOf ml_RX12_447 im_X12_missOf rfl se_11_RX12_X12_missOf kd_78 rfl (Nat.le_of_ble_eq_true rfl) (by decide) ⟨Nat.zero_le _, Nat.zero_le _⟩ rfl rfl ?_
    refine r_goto (tgt := 24) hK d_X12_miss_20 (by decide) ?_
    cases hD
    exact r_iret hK d_X12_miss_24
end S_X12_miss
theorem d_X12_enough_0 : gd cX12_enough 0 (.aload_n 0) 1 1 := ⟨by decide +kernel, rfl⟩
theorem d_X12_enough_1 : gd cX12_enough 1 (.iconst 0) 1 2 := ⟨by decide +kernel, rfl⟩
theorem d_X12_enough_2 : gd cX12_enough 2 (.putfield 98) 3 5 := ⟨by decide +kernel, rfl⟩
theorem d_X12_enough_5 : gd cX12_enough 5 (.iload_n 1) 1 6 := ⟨by decide +kernel, rfl⟩
theorem d_X12_enough_6 : gd cX12_enough 6 (.iconst 0) 1 7 := ⟨by decide +kernel, rfl⟩
theorem d_X12_enough_7 : gd cX12_enough 7 (.bipush 99) 2 9 := ⟨by decide +kernel, rfl⟩
theorem d_X12_enough_9 : gd cX12_enough 9 (.invokestatic 217) 3 12 := ⟨by decide +kernel, rfl⟩
theorem d_X12_enough_12 : gd cX12_enough 12 (.ifCond .eq 14) 3 15 := ⟨by decide +kernel, rfl⟩
theorem d_X12_enough_15 : gd cX12_enough 15 (.iload_n 2) 1 16 := ⟨by decide +kernel, rfl⟩
theorem d_X12_enough_16 : gd cX12_enough 16 (.iconst 0) 1 17 := ⟨by decide +kernel, rfl⟩
theorem d_X12_enough_17 : gd cX12_enough 17 (.ldc_w 450) 3 20 := ⟨by decide +kernel, rfl⟩
theorem d_X12_enough_20 : gd cX12_enough 20 (.invokestatic 217) 3 23 := ⟨by decide +kernel, rfl⟩
theorem d_X12_enough_23 : gd cX12_enough 23 (.ifCond .ne 5) 3 26 := ⟨by decide +kernel, rfl⟩
theorem d_X12_enough_26 : gd cX12_enough 26 (.iconst (-1)) 1 27 := ⟨by decide +kernel, rfl⟩
theorem d_X12_enough_27 : gd cX12_enough 27 .ireturn 1 28 := ⟨by decide +kernel, rfl⟩
theorem d_X12_enough_28 : gd cX12_enough 28 (.iconst 1) 1 29 := ⟨by decide +kernel, rfl⟩
theorem d_X12_enough_29 : gd cX12_enough 29 (.istore_n 3) 1 30 := ⟨by decide +kernel, rfl⟩
theorem d_X12_enough_30 : gd cX12_enough 30 (.aload_n 0) 1 31 := ⟨by decide +kernel, rfl⟩
theorem d_X12_enough_31 : gd cX12_enough 31 (.iload_n 3) 1 32 := ⟨by decide +kernel, rfl⟩
theorem d_X12_enough_32 : gd cX12_enough 32 (.iload_n 1) 1 33 := ⟨by decide +kernel, rfl⟩
theorem d_X12_enough_33 : gd cX12_enough 33 (.invokevirtual 444) 3 36 := ⟨by decide +kernel, rfl⟩
theorem d_X12_enough_36 : gd cX12_enough 36 (.ifCond .eq 21) 3 39 := ⟨by decide +kernel, rfl⟩
theorem d_X12_enough_39 : gd cX12_enough 39 (.aload_n 0) 1 40 := ⟨by decide +kernel, rfl⟩
theorem d_X12_enough_40 : gd cX12_enough 40 (.iload_n 3) 1 41 := ⟨by decide +kernel, rfl⟩
theorem d_X12_enough_41 : gd cX12_enough 41 (.iload_n 1) 1 42 := ⟨by decide +kernel, rfl⟩
theorem d_X12_enough_42 : gd cX12_enough 42 (.invokevirtual 447) 3 45 := ⟨by decide +kernel, rfl⟩
theorem d_X12_enough_45 : gd cX12_enough 45 (.iload_n 2) 1 46 := ⟨by decide +kernel, rfl⟩
theorem d_X12_enough_46 : gd cX12_enough 46 (.if_icmp .gt 5) 3 49 := ⟨by decide +kernel, rfl⟩
theorem d_X12_enough_49 : gd cX12_enough 49 (.iload_n 3) 1 50 := ⟨by decide +kernel, rfl⟩
theorem d_X12_enough_50 : gd cX12_enough 50 .ireturn 1 51 := ⟨by decide +kernel, rfl⟩
theorem d_X12_enough_51 : gd cX12_enough 51 (.iinc 3 1) 3 54 := ⟨by decide +kernel, rfl⟩
theorem d_X12_enough_54 : gd cX12_enough 54 (.goto (-24)) 3 57 := ⟨by decide +kernel, rfl⟩
theorem d_X12_enough_57 : gd cX12_enough 57 (.iconst (-1)) 1 58 := ⟨by decide +kernel, rfl⟩
theorem d_X12_enough_58 : gd cX12_enough 58 .ireturn 1 59 := ⟨by decide +kernel, rfl⟩
def Bo_X12_enough_30 (q30 : Int32 → Int32 → Int32 → gs_M → Option (Int32 × gs_M)) (x1 : Int32) (x2 : Int32) (x3 : Int32) (μ : gs_M) : Option (Int32 × gs_M) :=
  bd (D_X12_areCans x3 x1 μ) (fun v3 u2 => if v3 = 0 then (some ((-1 : Int32), u2)) else (bd (D_X12_missOf x3 x1 u2) (fun v7 u6 => if x2 < v7 then (q30 x1 x2 (x3 + (1 : Int32)) u6) else (some (x3, u6)))))
def L_X12_enough_30  : Nat → Int32 → Int32 → Int32 → gs_M → Option (Int32 × gs_M)
  | 0 => fun _ _ _ _ => none
  | n + 1 => fun x1 x2 x3 μ => Bo_X12_enough_30  (L_X12_enough_30  n) x1 x2 x3 μ
def D_X12_enough (x1 : Int32) (x2 : Int32) (μ : gs_M) : Option (Int32 × gs_M) :=
  lt1 (sI μ 78 0 (0 : Int32)) (fun u1 => bd (D_X12_isIn x1 (0 : Int32) (99 : Int32) u1) (fun v4 u3 => if v4 = 0 then (some ((-1 : Int32), u3)) else (bd (D_X12_isIn x2 (0 : Int32) (1000000 : Int32) u3) (fun v8 u7 => if v8 = 0 then (some ((-1 : Int32), u7)) else (L_X12_enough_30 4096 x1 x2 (1 : Int32) u7)))))
section S_X12_enough
variable {p : Program} {l : Launch} {e : Env} {R : Room} {s : State} {m : MethodId} {args : Array Value} {below : List Frame} {meth : Method} {c : Code} {ad : Nat → Nat} {g : va_G} {tyc : Nat → ClassId}
set_option maxRecDepth 20000 in
theorem To_X12_enough_30  (hK : KC p R s m args meth c ad g tyc RX12 cX12_enough 4 (some .int) 2) {r : Int32} {μ2 : gs_M} {q30 : Int32 → Int32 → Int32 → gs_M → Option (Int32 × gs_M)} (hq30 : ∀ (x1 : Int32) (x2 : Int32) (x3 : Int32) (μ : gs_M), q30 x1 x2 x3 μ = some (r, μ2) → WJ p l e R s m args below meth c 0 0 (MQ below (gs_Q ad g tyc (some (.int r)) μ2) args s 0 0 (gs_A ad)) ad g tyc 4 30 [.ref 78, .int x1, .int x2, .int x3] [] μ) {x1 : Int32} {x2 : Int32} {x3 : Int32} {μ : gs_M}  (hD : Bo_X12_enough_30 q30 x1 x2 x3 μ = some (r, μ2)) : WJ p l e R s m args below meth c 0 0 (MQ below (gs_Q ad g tyc (some (.int r)) μ2) args s 0 0 (gs_A ad)) ad g tyc 4 30 [.ref 78, .int x1, .int x2, .int x3] [] μ := by
  unfold Bo_X12_enough_30 at hD
  refine r_aload_n hK d_X12_enough_30 rfl rfl ?_
  refine r_iload_n hK d_X12_enough_31 rfl rfl ?_
  refine r_iload_n hK d_X12_enough_32 rfl rfl ?_
  obtain ⟨v3, u2, e1, hD⟩ := bd_e hD
  refine r_callV (As := [.int x3, .int x1]) (st := []) (stk2 := [.int v3]) hK (C_X12_areCans  e1) d_X12_enough_33 mf_X12_areCans ml_RX12_444 im_X12_areCans rfl se_11_RX12_X12_areCans kd_78 rfl (Nat.le_of_ble_eq_true rfl) (by decide) ⟨Nat.zero_le _, Nat.zero_le _⟩ rfl rfl ?_
  refine r_if_eq (tgt := 57) hK d_X12_enough_36 (by decide) (fun h4 => ?_) (fun h4 => ?_)
  · have hD := if_t hD h4
    refine r_iconst hK d_X12_enough_57 ci_m1 ?_
    cases hD
    exact r_iret hK d_X12_enough_58
  · have hD := if_f hD h4
    refine r_aload_n hK d_X12_enough_39 rfl rfl ?_
    refine r_iload_n hK d_X12_enough_40 rfl rfl ?_
    refine r_iload_n hK d_X12_enough_41 rfl rfl ?_
    obtain ⟨v7, u6, e5, hD⟩ := bd_e hD
    refine r_callV (As := [.int x3, .int x1]) (st := []) (stk2 := [.int v7]) hK (C_X12_missOf  e5) d_X12_enough_42 mf_X12_missOf ml_RX12_447 im_X12_missOf rfl se_11_RX12_X12_missOf kd_78 rfl (Nat.le_of_ble_eq_true rfl) (by decide) ⟨Nat.zero_le _, Nat.zero_le _⟩ rfl rfl ?_
    refine r_iload_n hK d_X12_enough_45 rfl rfl ?_
    refine r_icmp_gt (tgt := 51) hK d_X12_enough_46 (by decide) (fun h8 => ?_) (fun h8 => ?_)
    · have hD := if_t hD h8
      refine r_iinc hK d_X12_enough_51 rfl (v := x3 + (1 : Int32)) (by rw [ci_1]) (by decide) (ls2 := [.ref 78, .int x1, .int x2, .int (x3 + (1 : Int32))]) rfl ?_
      refine r_goto (tgt := 30) hK d_X12_enough_54 (by decide) ?_
      exact hq30 _ _ _ _  hD
    · have hD := if_f hD h8
      refine r_iload_n hK d_X12_enough_49 rfl rfl ?_
      cases hD
      exact r_iret hK d_X12_enough_50
set_option maxRecDepth 20000 in
theorem TL_X12_enough_30  (hK : KC p R s m args meth c ad g tyc RX12 cX12_enough 4 (some .int) 2) {r : Int32} {μ2 : gs_M}   : ∀ (n : Nat) (x1 : Int32) (x2 : Int32) (x3 : Int32) (μ : gs_M), L_X12_enough_30  n x1 x2 x3 μ = some (r, μ2) → WJ p l e R s m args below meth c 0 0 (MQ below (gs_Q ad g tyc (some (.int r)) μ2) args s 0 0 (gs_A ad)) ad g tyc 4 30 [.ref 78, .int x1, .int x2, .int x3] [] μ := by
  intro n
  induction n with
  | zero => intro x1 x2 x3 μ  hD; cases hD
  | succ n ih => intro x1 x2 x3 μ  hD; exact To_X12_enough_30 hK  ih  hD
set_option maxRecDepth 20000 in
theorem C_X12_enough  {x1 : Int32} {x2 : Int32} {μ : gs_M} {r : Int32} {μ2 : gs_M}  (hD : D_X12_enough x1 x2 μ = some (r, μ2)) : CALL yX12_enough cX12_enough 4 (some .int) 2 [.ref 78, .int x1, .int x2] μ (some (.int r)) μ2 := by
  unfold D_X12_enough at hD
  refine gs_enter mf_X12_enough (Nat.le_of_ble_eq_true rfl) (ls := [.ref 78, .int x1, .int x2, gs_J]) rfl (fun p l e R s m args below meth c ad g tyc hK => ?_)
  have hK : KC p R s m args meth c ad g tyc RX12 cX12_enough 4 (some .int) 2 := hK
  refine r_aload_n hK d_X12_enough_0 rfl rfl ?_
  refine r_iconst hK d_X12_enough_1 ci_0 ?_
  refine r_putI hK d_X12_enough_2 fl_RX12_98_11 rfl rfl kd_78 ?_
  refine r_ltm hD (fun u1 hD => ?_)
  refine r_iload_n hK d_X12_enough_5 rfl rfl ?_
  refine r_iconst hK d_X12_enough_6 ci_0 ?_
  refine r_bipush hK d_X12_enough_7 cb_99 ?_
  obtain ⟨v4, u3, e2, hD⟩ := bd_e hD
  refine r_callS (As := [.int x1, .int (0 : Int32), .int (99 : Int32)]) (st := []) (stk2 := [.int v4]) hK (C_X12_isIn  e2) d_X12_enough_9 mf_X12_isIn ml_RX12_217 ss_X12_isIn rfl (Nat.le_of_ble_eq_true rfl) (by decide) ⟨Nat.zero_le _, Nat.zero_le _⟩ rfl rfl ?_
  refine r_if_eq (tgt := 26) hK d_X12_enough_12 (by decide) (fun h5 => ?_) (fun h5 => ?_)
  · have hD := if_t hD h5
    refine r_iconst hK d_X12_enough_26 ci_m1 ?_
    cases hD
    exact r_iret hK d_X12_enough_27
  · have hD := if_f hD h5
    refine r_iload_n hK d_X12_enough_15 rfl rfl ?_
    refine r_iconst hK d_X12_enough_16 ci_0 ?_
    refine r_ldcw hK d_X12_enough_17 kc_RX12_450 ?_
    obtain ⟨v8, u7, e6, hD⟩ := bd_e hD
    refine r_callS (As := [.int x2, .int (0 : Int32), .int (1000000 : Int32)]) (st := []) (stk2 := [.int v8]) hK (C_X12_isIn  e6) d_X12_enough_20 mf_X12_isIn ml_RX12_217 ss_X12_isIn rfl (Nat.le_of_ble_eq_true rfl) (by decide) ⟨Nat.zero_le _, Nat.zero_le _⟩ rfl rfl ?_
    refine r_if_ne (tgt := 28) hK d_X12_enough_23 (by decide) (fun h9 => ?_) (fun h9 => ?_)
    · have hD := if_f hD h9
      refine r_iconst hK d_X12_enough_28 ci_1 ?_
      refine r_istore_n hK d_X12_enough_29 rfl (by decide) (ls2 := [.ref 78, .int x1, .int x2, .int (1 : Int32)]) rfl ?_
      exact TL_X12_enough_30 hK  _ _ _ _ _  hD
    · have hD := if_t hD h9
      refine r_iconst hK d_X12_enough_26 ci_m1 ?_
      cases hD
      exact r_iret hK d_X12_enough_27
end S_X12_enough
theorem d_X12_refuse_0 : gd cX12_refuse 0 (.aload_n 0) 1 1 := ⟨by decide +kernel, rfl⟩
theorem d_X12_refuse_1 : gd cX12_refuse 1 (.iconst 0) 1 2 := ⟨by decide +kernel, rfl⟩
theorem d_X12_refuse_2 : gd cX12_refuse 2 (.putfield 98) 3 5 := ⟨by decide +kernel, rfl⟩
theorem d_X12_refuse_5 : gd cX12_refuse 5 (.aload_n 0) 1 6 := ⟨by decide +kernel, rfl⟩
theorem d_X12_refuse_6 : gd cX12_refuse 6 (.iload_n 1) 1 7 := ⟨by decide +kernel, rfl⟩
theorem d_X12_refuse_7 : gd cX12_refuse 7 (.iload_n 2) 1 8 := ⟨by decide +kernel, rfl⟩
theorem d_X12_refuse_8 : gd cX12_refuse 8 (.invokevirtual 444) 3 11 := ⟨by decide +kernel, rfl⟩
theorem d_X12_refuse_11 : gd cX12_refuse 11 (.ifCond .eq 26) 3 14 := ⟨by decide +kernel, rfl⟩
theorem d_X12_refuse_14 : gd cX12_refuse 14 (.iload_n 3) 1 15 := ⟨by decide +kernel, rfl⟩
theorem d_X12_refuse_15 : gd cX12_refuse 15 (.iconst 0) 1 16 := ⟨by decide +kernel, rfl⟩
theorem d_X12_refuse_16 : gd cX12_refuse 16 (.ldc_w 451) 3 19 := ⟨by decide +kernel, rfl⟩
theorem d_X12_refuse_19 : gd cX12_refuse 19 (.invokestatic 217) 3 22 := ⟨by decide +kernel, rfl⟩
theorem d_X12_refuse_22 : gd cX12_refuse 22 (.ifCond .eq 15) 3 25 := ⟨by decide +kernel, rfl⟩
theorem d_X12_refuse_25 : gd cX12_refuse 25 (.iload 4) 2 27 := ⟨by decide +kernel, rfl⟩
theorem d_X12_refuse_27 : gd cX12_refuse 27 (.iconst 0) 1 28 := ⟨by decide +kernel, rfl⟩
theorem d_X12_refuse_28 : gd cX12_refuse 28 (.ldc_w 451) 3 31 := ⟨by decide +kernel, rfl⟩
theorem d_X12_refuse_31 : gd cX12_refuse 31 (.invokestatic 217) 3 34 := ⟨by decide +kernel, rfl⟩
theorem d_X12_refuse_34 : gd cX12_refuse 34 (.ifCond .ne 5) 3 37 := ⟨by decide +kernel, rfl⟩
theorem d_X12_refuse_37 : gd cX12_refuse 37 (.iconst (-1)) 1 38 := ⟨by decide +kernel, rfl⟩
theorem d_X12_refuse_38 : gd cX12_refuse 38 .ireturn 1 39 := ⟨by decide +kernel, rfl⟩
theorem d_X12_refuse_39 : gd cX12_refuse 39 (.aload_n 0) 1 40 := ⟨by decide +kernel, rfl⟩
theorem d_X12_refuse_40 : gd cX12_refuse 40 (.iload_n 2) 1 41 := ⟨by decide +kernel, rfl⟩
theorem d_X12_refuse_41 : gd cX12_refuse 41 (.invokevirtual 437) 3 44 := ⟨by decide +kernel, rfl⟩
theorem d_X12_refuse_44 : gd cX12_refuse 44 (.aload_n 0) 1 45 := ⟨by decide +kernel, rfl⟩
theorem d_X12_refuse_45 : gd cX12_refuse 45 (.getfield 434) 3 48 := ⟨by decide +kernel, rfl⟩
theorem d_X12_refuse_48 : gd cX12_refuse 48 (.if_icmp .ge 28) 3 51 := ⟨by decide +kernel, rfl⟩
theorem d_X12_refuse_51 : gd cX12_refuse 51 (.aload_n 0) 1 52 := ⟨by decide +kernel, rfl⟩
theorem d_X12_refuse_52 : gd cX12_refuse 52 (.iload_n 1) 1 53 := ⟨by decide +kernel, rfl⟩
theorem d_X12_refuse_53 : gd cX12_refuse 53 (.iload_n 2) 1 54 := ⟨by decide +kernel, rfl⟩
theorem d_X12_refuse_54 : gd cX12_refuse 54 (.invokevirtual 447) 3 57 := ⟨by decide +kernel, rfl⟩
theorem d_X12_refuse_57 : gd cX12_refuse 57 .i2l 1 58 := ⟨by decide +kernel, rfl⟩
theorem d_X12_refuse_58 : gd cX12_refuse 58 (.iload_n 3) 1 59 := ⟨by decide +kernel, rfl⟩
theorem d_X12_refuse_59 : gd cX12_refuse 59 .i2l 1 60 := ⟨by decide +kernel, rfl⟩
theorem d_X12_refuse_60 : gd cX12_refuse 60 .lmul 1 61 := ⟨by decide +kernel, rfl⟩
theorem d_X12_refuse_61 : gd cX12_refuse 61 (.ldc2_w 143) 3 64 := ⟨by decide +kernel, rfl⟩
theorem d_X12_refuse_64 : gd cX12_refuse 64 (.iload 4) 2 66 := ⟨by decide +kernel, rfl⟩
theorem d_X12_refuse_66 : gd cX12_refuse 66 .i2l 1 67 := ⟨by decide +kernel, rfl⟩
theorem d_X12_refuse_67 : gd cX12_refuse 67 .lmul 1 68 := ⟨by decide +kernel, rfl⟩
theorem d_X12_refuse_68 : gd cX12_refuse 68 .lcmp 1 69 := ⟨by decide +kernel, rfl⟩
theorem d_X12_refuse_69 : gd cX12_refuse 69 (.ifCond .le 7) 3 72 := ⟨by decide +kernel, rfl⟩
theorem d_X12_refuse_72 : gd cX12_refuse 72 (.iconst 1) 1 73 := ⟨by decide +kernel, rfl⟩
theorem d_X12_refuse_73 : gd cX12_refuse 73 (.goto 4) 3 76 := ⟨by decide +kernel, rfl⟩
theorem d_X12_refuse_76 : gd cX12_refuse 76 (.iconst 0) 1 77 := ⟨by decide +kernel, rfl⟩
theorem d_X12_refuse_77 : gd cX12_refuse 77 .ireturn 1 78 := ⟨by decide +kernel, rfl⟩
def B_X12_refuse_76   (μ : gs_M) : Option (Int32 × gs_M) :=
  some ((0 : Int32), μ)
def D_X12_refuse (x1 : Int32) (x2 : Int32) (x3 : Int32) (x4 : Int32) (μ : gs_M) : Option (Int32 × gs_M) :=
  lt1 (sI μ 78 0 (0 : Int32)) (fun u1 => bd (D_X12_areCans x1 x2 u1) (fun v4 u3 => if v4 = 0 then (some ((-1 : Int32), u3)) else (bd (D_X12_isIn x3 (0 : Int32) (99999 : Int32) u3) (fun v8 u7 => if v8 = 0 then (some ((-1 : Int32), u7)) else (bd (D_X12_isIn x4 (0 : Int32) (99999 : Int32) u7) (fun v12 u11 => if v12 = 0 then (some ((-1 : Int32), u11)) else (bd (D_X12_dry x2 u11) (fun v16 u15 => if (gI u15 78 45) ≤ v16 then (B_X12_refuse_76 u15) else (bd (D_X12_missOf x1 x2 u15) (fun v20 u19 => if (lg_cmp ((Int32.toInt64 v20) * (Int32.toInt64 x3)) ((1000000 : Int64) * (Int32.toInt64 x4))) ≤ 0 then (B_X12_refuse_76 u19) else (some ((1 : Int32), u19))))))))))))
section S_X12_refuse
variable {p : Program} {l : Launch} {e : Env} {R : Room} {s : State} {m : MethodId} {args : Array Value} {below : List Frame} {meth : Method} {c : Code} {ad : Nat → Nat} {g : va_G} {tyc : Nat → ClassId}
set_option maxRecDepth 20000 in
theorem T_X12_refuse_76  (hK : KC p R s m args meth c ad g tyc RX12 cX12_refuse 5 (some .int) 2) {r : Int32} {μ2 : gs_M}    {μ : gs_M}  (hD : B_X12_refuse_76   μ = some (r, μ2)) : WJ p l e R s m args below meth c 0 0 (MQ below (gs_Q ad g tyc (some (.int r)) μ2) args s 0 0 (gs_A ad)) ad g tyc 5 76 [gs_J, gs_J, gs_J, gs_J, gs_J] [] μ := by
  unfold B_X12_refuse_76 at hD
  refine r_iconst hK d_X12_refuse_76 ci_0 ?_
  cases hD
  exact r_iret hK d_X12_refuse_77
set_option maxRecDepth 20000 in
theorem C_X12_refuse  {x1 : Int32} {x2 : Int32} {x3 : Int32} {x4 : Int32} {μ : gs_M} {r : Int32} {μ2 : gs_M}  (hD : D_X12_refuse x1 x2 x3 x4 μ = some (r, μ2)) : CALL yX12_refuse cX12_refuse 5 (some .int) 2 [.ref 78, .int x1, .int x2, .int x3, .int x4] μ (some (.int r)) μ2 := by
  unfold D_X12_refuse at hD
  refine gs_enter mf_X12_refuse (Nat.le_of_ble_eq_true rfl) (ls := [.ref 78, .int x1, .int x2, .int x3, .int x4]) rfl (fun p l e R s m args below meth c ad g tyc hK => ?_)
  have hK : KC p R s m args meth c ad g tyc RX12 cX12_refuse 5 (some .int) 2 := hK
  refine r_aload_n hK d_X12_refuse_0 rfl rfl ?_
  refine r_iconst hK d_X12_refuse_1 ci_0 ?_
  refine r_putI hK d_X12_refuse_2 fl_RX12_98_11 rfl rfl kd_78 ?_
  refine r_ltm hD (fun u1 hD => ?_)
  refine r_aload_n hK d_X12_refuse_5 rfl rfl ?_
  refine r_iload_n hK d_X12_refuse_6 rfl rfl ?_
  refine r_iload_n hK d_X12_refuse_7 rfl rfl ?_
  obtain ⟨v4, u3, e2, hD⟩ := bd_e hD
  refine r_callV (As := [.int x1, .int x2]) (st := []) (stk2 := [.int v4]) hK (C_X12_areCans  e2) d_X12_refuse_8 mf_X12_areCans ml_RX12_444 im_X12_areCans rfl se_11_RX12_X12_areCans kd_78 rfl (Nat.le_of_ble_eq_true rfl) (by decide) ⟨Nat.zero_le _, Nat.zero_le _⟩ rfl rfl ?_
  refine r_if_eq (tgt := 37) hK d_X12_refuse_11 (by decide) (fun h5 => ?_) (fun h5 => ?_)
  · have hD := if_t hD h5
    refine r_iconst hK d_X12_refuse_37 ci_m1 ?_
    cases hD
    exact r_iret hK d_X12_refuse_38
  · have hD := if_f hD h5
    refine r_iload_n hK d_X12_refuse_14 rfl rfl ?_
    refine r_iconst hK d_X12_refuse_15 ci_0 ?_
    refine r_ldcw hK d_X12_refuse_16 kc_RX12_451 ?_
    obtain ⟨v8, u7, e6, hD⟩ := bd_e hD
    refine r_callS (As := [.int x3, .int (0 : Int32), .int (99999 : Int32)]) (st := []) (stk2 := [.int v8]) hK (C_X12_isIn  e6) d_X12_refuse_19 mf_X12_isIn ml_RX12_217 ss_X12_isIn rfl (Nat.le_of_ble_eq_true rfl) (by decide) ⟨Nat.zero_le _, Nat.zero_le _⟩ rfl rfl ?_
    refine r_if_eq (tgt := 37) hK d_X12_refuse_22 (by decide) (fun h9 => ?_) (fun h9 => ?_)
    · have hD := if_t hD h9
      refine r_iconst hK d_X12_refuse_37 ci_m1 ?_
      cases hD
      exact r_iret hK d_X12_refuse_38
    · have hD := if_f hD h9
      refine r_iload hK d_X12_refuse_25 rfl ?_
      refine r_iconst hK d_X12_refuse_27 ci_0 ?_
      refine r_ldcw hK d_X12_refuse_28 kc_RX12_451 ?_
      obtain ⟨v12, u11, e10, hD⟩ := bd_e hD
      refine r_callS (As := [.int x4, .int (0 : Int32), .int (99999 : Int32)]) (st := []) (stk2 := [.int v12]) hK (C_X12_isIn  e10) d_X12_refuse_31 mf_X12_isIn ml_RX12_217 ss_X12_isIn rfl (Nat.le_of_ble_eq_true rfl) (by decide) ⟨Nat.zero_le _, Nat.zero_le _⟩ rfl rfl ?_
      refine r_if_ne (tgt := 39) hK d_X12_refuse_34 (by decide) (fun h13 => ?_) (fun h13 => ?_)
      · have hD := if_f hD h13
        refine r_aload_n hK d_X12_refuse_39 rfl rfl ?_
        refine r_iload_n hK d_X12_refuse_40 rfl rfl ?_
        obtain ⟨v16, u15, e14, hD⟩ := bd_e hD
        refine r_callV (As := [.int x2]) (st := []) (stk2 := [.int v16]) hK (C_X12_dry  e14) d_X12_refuse_41 mf_X12_dry ml_RX12_437 im_X12_dry rfl se_11_RX12_X12_dry kd_78 rfl (Nat.le_of_ble_eq_true rfl) (by decide) ⟨Nat.zero_le _, Nat.zero_le _⟩ rfl rfl ?_
        refine r_aload_n hK d_X12_refuse_44 rfl rfl ?_
        refine r_getI hK d_X12_refuse_45 fl_RX12_434_11 rfl kd_78 ?_
        refine r_icmp_ge (tgt := 76) hK d_X12_refuse_48 (by decide) (fun h17 => ?_) (fun h17 => ?_)
        · have hD := if_t hD h17
          refine r_junk [false, false, false, false, false] (ls2 := [gs_J, gs_J, gs_J, gs_J, gs_J]) rfl ?_
          exact T_X12_refuse_76 hK   hD
        · have hD := if_f hD h17
          refine r_aload_n hK d_X12_refuse_51 rfl rfl ?_
          refine r_iload_n hK d_X12_refuse_52 rfl rfl ?_
          refine r_iload_n hK d_X12_refuse_53 rfl rfl ?_
          obtain ⟨v20, u19, e18, hD⟩ := bd_e hD
          refine r_callV (As := [.int x1, .int x2]) (st := []) (stk2 := [.int v20]) hK (C_X12_missOf  e18) d_X12_refuse_54 mf_X12_missOf ml_RX12_447 im_X12_missOf rfl se_11_RX12_X12_missOf kd_78 rfl (Nat.le_of_ble_eq_true rfl) (by decide) ⟨Nat.zero_le _, Nat.zero_le _⟩ rfl rfl ?_
          refine r_i2l hK d_X12_refuse_57 ?_
          refine r_iload_n hK d_X12_refuse_58 rfl rfl ?_
          refine r_i2l hK d_X12_refuse_59 ?_
          refine r_lmul hK d_X12_refuse_60 ?_
          refine r_ldc2 hK d_X12_refuse_61 kl_RX12_143 ?_
          refine r_iload hK d_X12_refuse_64 rfl ?_
          refine r_i2l hK d_X12_refuse_66 ?_
          refine r_lmul hK d_X12_refuse_67 ?_
          refine r_lcmp hK d_X12_refuse_68 ?_
          refine r_if_le (tgt := 76) hK d_X12_refuse_69 (by decide) (fun h21 => ?_) (fun h21 => ?_)
          · have hD := if_t hD h21
            refine r_junk [false, false, false, false, false] (ls2 := [gs_J, gs_J, gs_J, gs_J, gs_J]) rfl ?_
            exact T_X12_refuse_76 hK   hD
          · have hD := if_f hD h21
            refine r_iconst hK d_X12_refuse_72 ci_1 ?_
            refine r_goto (tgt := 77) hK d_X12_refuse_73 (by decide) ?_
            cases hD
            exact r_iret hK d_X12_refuse_77
      · have hD := if_t hD h13
        refine r_iconst hK d_X12_refuse_37 ci_m1 ?_
        cases hD
        exact r_iret hK d_X12_refuse_38
end S_X12_refuse
theorem d_X12_isOpen_0 : gd cX12_isOpen 0 (.aload_n 0) 1 1 := ⟨by decide +kernel, rfl⟩
theorem d_X12_isOpen_1 : gd cX12_isOpen 1 (.invokevirtual 373) 3 4 := ⟨by decide +kernel, rfl⟩
theorem d_X12_isOpen_4 : gd cX12_isOpen 4 (.ifCond .eq 15) 3 7 := ⟨by decide +kernel, rfl⟩
theorem d_X12_isOpen_7 : gd cX12_isOpen 7 (.aload_n 0) 1 8 := ⟨by decide +kernel, rfl⟩
theorem d_X12_isOpen_8 : gd cX12_isOpen 8 (.iload_n 1) 1 9 := ⟨by decide +kernel, rfl⟩
theorem d_X12_isOpen_9 : gd cX12_isOpen 9 (.invokevirtual 391) 3 12 := ⟨by decide +kernel, rfl⟩
theorem d_X12_isOpen_12 : gd cX12_isOpen 12 (.ifCond .eq 7) 3 15 := ⟨by decide +kernel, rfl⟩
theorem d_X12_isOpen_15 : gd cX12_isOpen 15 (.iconst 1) 1 16 := ⟨by decide +kernel, rfl⟩
theorem d_X12_isOpen_16 : gd cX12_isOpen 16 (.goto 4) 3 19 := ⟨by decide +kernel, rfl⟩
theorem d_X12_isOpen_19 : gd cX12_isOpen 19 (.iconst 0) 1 20 := ⟨by decide +kernel, rfl⟩
theorem d_X12_isOpen_20 : gd cX12_isOpen 20 .ireturn 1 21 := ⟨by decide +kernel, rfl⟩
def B_X12_isOpen_19   (μ : gs_M) : Option (Int32 × gs_M) :=
  some ((0 : Int32), μ)
def D_X12_isOpen (x1 : Int32) (μ : gs_M) : Option (Int32 × gs_M) :=
  bd (D_X12_isAfloat μ) (fun v3 u2 => if v3 = 0 then (B_X12_isOpen_19 u2) else (bd (D_X12_isHold x1 u2) (fun v7 u6 => if v7 = 0 then (B_X12_isOpen_19 u6) else (some ((1 : Int32), u6)))))
section S_X12_isOpen
variable {p : Program} {l : Launch} {e : Env} {R : Room} {s : State} {m : MethodId} {args : Array Value} {below : List Frame} {meth : Method} {c : Code} {ad : Nat → Nat} {g : va_G} {tyc : Nat → ClassId}
set_option maxRecDepth 20000 in
theorem T_X12_isOpen_19  (hK : KC p R s m args meth c ad g tyc RX12 cX12_isOpen 2 (some .boolean) 2) {r : Int32} {μ2 : gs_M}    {μ : gs_M}  (hD : B_X12_isOpen_19   μ = some (r, μ2)) : WJ p l e R s m args below meth c 0 0 (MQ below (gs_Q ad g tyc (some (.int r)) μ2) args s 0 0 (gs_A ad)) ad g tyc 2 19 [gs_J, gs_J] [] μ := by
  unfold B_X12_isOpen_19 at hD
  refine r_iconst hK d_X12_isOpen_19 ci_0 ?_
  cases hD
  exact r_zret hK (Or.inl rfl) d_X12_isOpen_20
set_option maxRecDepth 20000 in
theorem C_X12_isOpen  {x1 : Int32} {μ : gs_M} {r : Int32} {μ2 : gs_M}  (hD : D_X12_isOpen x1 μ = some (r, μ2)) : CALL yX12_isOpen cX12_isOpen 2 (some .boolean) 2 [.ref 78, .int x1] μ (some (.int r)) μ2 := by
  unfold D_X12_isOpen at hD
  refine gs_enter mf_X12_isOpen (Nat.le_of_ble_eq_true rfl) (ls := [.ref 78, .int x1]) rfl (fun p l e R s m args below meth c ad g tyc hK => ?_)
  have hK : KC p R s m args meth c ad g tyc RX12 cX12_isOpen 2 (some .boolean) 2 := hK
  refine r_aload_n hK d_X12_isOpen_0 rfl rfl ?_
  obtain ⟨v3, u2, e1, hD⟩ := bd_e hD
  refine r_callV (As := []) (st := []) (stk2 := [.int v3]) hK (C_X12_isAfloat  e1) d_X12_isOpen_1 mf_X12_isAfloat ml_RX12_373 im_X12_isAfloat rfl se_11_RX12_X12_isAfloat kd_78 rfl (Nat.le_of_ble_eq_true rfl) (by decide) ⟨Nat.zero_le _, Nat.zero_le _⟩ rfl rfl ?_
  refine r_if_eq (tgt := 19) hK d_X12_isOpen_4 (by decide) (fun h4 => ?_) (fun h4 => ?_)
  · have hD := if_t hD h4
    refine r_junk [false, false] (ls2 := [gs_J, gs_J]) rfl ?_
    exact T_X12_isOpen_19 hK   hD
  · have hD := if_f hD h4
    refine r_aload_n hK d_X12_isOpen_7 rfl rfl ?_
    refine r_iload_n hK d_X12_isOpen_8 rfl rfl ?_
    obtain ⟨v7, u6, e5, hD⟩ := bd_e hD
    refine r_callV (As := [.int x1]) (st := []) (stk2 := [.int v7]) hK (C_X12_isHold  e5) d_X12_isOpen_9 mf_X12_isHold ml_RX12_391 im_X12_isHold rfl se_11_RX12_X12_isHold kd_78 rfl (Nat.le_of_ble_eq_true rfl) (by decide) ⟨Nat.zero_le _, Nat.zero_le _⟩ rfl rfl ?_
    refine r_if_eq (tgt := 19) hK d_X12_isOpen_12 (by decide) (fun h8 => ?_) (fun h8 => ?_)
    · have hD := if_t hD h8
      refine r_junk [false, false] (ls2 := [gs_J, gs_J]) rfl ?_
      exact T_X12_isOpen_19 hK   hD
    · have hD := if_f hD h8
      refine r_iconst hK d_X12_isOpen_15 ci_1 ?_
      refine r_goto (tgt := 20) hK d_X12_isOpen_16 (by decide) ?_
      cases hD
      exact r_zret hK (Or.inr rfl) d_X12_isOpen_20
end S_X12_isOpen
theorem d_X12_isColumn_0 : gd cX12_isColumn 0 (.aload_n 0) 1 1 := ⟨by decide +kernel, rfl⟩
theorem d_X12_isColumn_1 : gd cX12_isColumn 1 (.iload_n 1) 1 2 := ⟨by decide +kernel, rfl⟩
theorem d_X12_isColumn_2 : gd cX12_isColumn 2 (.invokevirtual 452) 3 5 := ⟨by decide +kernel, rfl⟩
theorem d_X12_isColumn_5 : gd cX12_isColumn 5 (.ifCond .eq 23) 3 8 := ⟨by decide +kernel, rfl⟩
theorem d_X12_isColumn_8 : gd cX12_isColumn 8 (.iload_n 2) 1 9 := ⟨by decide +kernel, rfl⟩
theorem d_X12_isColumn_9 : gd cX12_isColumn 9 (.iconst 0) 1 10 := ⟨by decide +kernel, rfl⟩
theorem d_X12_isColumn_10 : gd cX12_isColumn 10 (.aload_n 0) 1 11 := ⟨by decide +kernel, rfl⟩
theorem d_X12_isColumn_11 : gd cX12_isColumn 11 (.iload_n 1) 1 12 := ⟨by decide +kernel, rfl⟩
theorem d_X12_isColumn_12 : gd cX12_isColumn 12 (.iconst 0) 1 13 := ⟨by decide +kernel, rfl⟩
theorem d_X12_isColumn_13 : gd cX12_isColumn 13 (.invokevirtual 302) 3 16 := ⟨by decide +kernel, rfl⟩
theorem d_X12_isColumn_16 : gd cX12_isColumn 16 (.iconst 1) 1 17 := ⟨by decide +kernel, rfl⟩
theorem d_X12_isColumn_17 : gd cX12_isColumn 17 .isub 1 18 := ⟨by decide +kernel, rfl⟩
theorem d_X12_isColumn_18 : gd cX12_isColumn 18 (.invokestatic 217) 3 21 := ⟨by decide +kernel, rfl⟩
theorem d_X12_isColumn_21 : gd cX12_isColumn 21 (.ifCond .eq 7) 3 24 := ⟨by decide +kernel, rfl⟩
theorem d_X12_isColumn_24 : gd cX12_isColumn 24 (.iconst 1) 1 25 := ⟨by decide +kernel, rfl⟩
theorem d_X12_isColumn_25 : gd cX12_isColumn 25 (.goto 4) 3 28 := ⟨by decide +kernel, rfl⟩
theorem d_X12_isColumn_28 : gd cX12_isColumn 28 (.iconst 0) 1 29 := ⟨by decide +kernel, rfl⟩
theorem d_X12_isColumn_29 : gd cX12_isColumn 29 .ireturn 1 30 := ⟨by decide +kernel, rfl⟩
def B_X12_isColumn_28   (μ : gs_M) : Option (Int32 × gs_M) :=
  some ((0 : Int32), μ)
def D_X12_isColumn (x1 : Int32) (x2 : Int32) (μ : gs_M) : Option (Int32 × gs_M) :=
  bd (D_X12_isOpen x1 μ) (fun v3 u2 => if v3 = 0 then (B_X12_isColumn_28 u2) else (bd (D_X12_of x1 (0 : Int32) u2) (fun v7 u6 => bd (D_X12_isIn x2 (0 : Int32) (v7 - (1 : Int32)) u6) (fun v10 u9 => if v10 = 0 then (B_X12_isColumn_28 u9) else (some ((1 : Int32), u9))))))
section S_X12_isColumn
variable {p : Program} {l : Launch} {e : Env} {R : Room} {s : State} {m : MethodId} {args : Array Value} {below : List Frame} {meth : Method} {c : Code} {ad : Nat → Nat} {g : va_G} {tyc : Nat → ClassId}
set_option maxRecDepth 20000 in
theorem T_X12_isColumn_28  (hK : KC p R s m args meth c ad g tyc RX12 cX12_isColumn 3 (some .boolean) 3) {r : Int32} {μ2 : gs_M}    {μ : gs_M}  (hD : B_X12_isColumn_28   μ = some (r, μ2)) : WJ p l e R s m args below meth c 0 0 (MQ below (gs_Q ad g tyc (some (.int r)) μ2) args s 0 0 (gs_A ad)) ad g tyc 3 28 [gs_J, gs_J, gs_J] [] μ := by
  unfold B_X12_isColumn_28 at hD
  refine r_iconst hK d_X12_isColumn_28 ci_0 ?_
  cases hD
  exact r_zret hK (Or.inl rfl) d_X12_isColumn_29
set_option maxRecDepth 20000 in
theorem C_X12_isColumn  {x1 : Int32} {x2 : Int32} {μ : gs_M} {r : Int32} {μ2 : gs_M}  (hD : D_X12_isColumn x1 x2 μ = some (r, μ2)) : CALL yX12_isColumn cX12_isColumn 3 (some .boolean) 3 [.ref 78, .int x1, .int x2] μ (some (.int r)) μ2 := by
  unfold D_X12_isColumn at hD
  refine gs_enter mf_X12_isColumn (Nat.le_of_ble_eq_true rfl) (ls := [.ref 78, .int x1, .int x2]) rfl (fun p l e R s m args below meth c ad g tyc hK => ?_)
  have hK : KC p R s m args meth c ad g tyc RX12 cX12_isColumn 3 (some .boolean) 3 := hK
  refine r_aload_n hK d_X12_isColumn_0 rfl rfl ?_
  refine r_iload_n hK d_X12_isColumn_1 rfl rfl ?_
  obtain ⟨v3, u2, e1, hD⟩ := bd_e hD
  refine r_callV (As := [.int x1]) (st := []) (stk2 := [.int v3]) hK (C_X12_isOpen  e1) d_X12_isColumn_2 mf_X12_isOpen ml_RX12_452 im_X12_isOpen rfl se_11_RX12_X12_isOpen kd_78 rfl (Nat.le_of_ble_eq_true rfl) (by decide) ⟨Nat.zero_le _, Nat.zero_le _⟩ rfl rfl ?_
  refine r_if_eq (tgt := 28) hK d_X12_isColumn_5 (by decide) (fun h4 => ?_) (fun h4 => ?_)
  · have hD := if_t hD h4
    refine r_junk [false, false, false] (ls2 := [gs_J, gs_J, gs_J]) rfl ?_
    exact T_X12_isColumn_28 hK   hD
  · have hD := if_f hD h4
    refine r_iload_n hK d_X12_isColumn_8 rfl rfl ?_
    refine r_iconst hK d_X12_isColumn_9 ci_0 ?_
    refine r_aload_n hK d_X12_isColumn_10 rfl rfl ?_
    refine r_iload_n hK d_X12_isColumn_11 rfl rfl ?_
    refine r_iconst hK d_X12_isColumn_12 ci_0 ?_
    obtain ⟨v7, u6, e5, hD⟩ := bd_e hD
    refine r_callV (As := [.int x1, .int (0 : Int32)]) (st := [.int (0 : Int32), .int x2]) (stk2 := [.int v7, .int (0 : Int32), .int x2]) hK (C_X12_of  e5) d_X12_isColumn_13 mf_X12_of ml_RX12_302 im_X12_of rfl se_11_RX12_X12_of kd_78 rfl (Nat.le_of_ble_eq_true rfl) (by decide) ⟨Nat.zero_le _, Nat.zero_le _⟩ rfl rfl ?_
    refine r_iconst hK d_X12_isColumn_16 ci_1 ?_
    refine r_isub hK d_X12_isColumn_17 ?_
    obtain ⟨v10, u9, e8, hD⟩ := bd_e hD
    refine r_callS (As := [.int x2, .int (0 : Int32), .int (v7 - (1 : Int32))]) (st := []) (stk2 := [.int v10]) hK (C_X12_isIn  e8) d_X12_isColumn_18 mf_X12_isIn ml_RX12_217 ss_X12_isIn rfl (Nat.le_of_ble_eq_true rfl) (by decide) ⟨Nat.zero_le _, Nat.zero_le _⟩ rfl rfl ?_
    refine r_if_eq (tgt := 28) hK d_X12_isColumn_21 (by decide) (fun h11 => ?_) (fun h11 => ?_)
    · have hD := if_t hD h11
      refine r_junk [false, false, false] (ls2 := [gs_J, gs_J, gs_J]) rfl ?_
      exact T_X12_isColumn_28 hK   hD
    · have hD := if_f hD h11
      refine r_iconst hK d_X12_isColumn_24 ci_1 ?_
      refine r_goto (tgt := 29) hK d_X12_isColumn_25 (by decide) ?_
      cases hD
      exact r_zret hK (Or.inr rfl) d_X12_isColumn_29
end S_X12_isColumn
theorem d_X12_trim_0 : gd cX12_trim 0 (.aload_n 0) 1 1 := ⟨by decide +kernel, rfl⟩
theorem d_X12_trim_1 : gd cX12_trim 1 (.iconst 0) 1 2 := ⟨by decide +kernel, rfl⟩
theorem d_X12_trim_2 : gd cX12_trim 2 (.putfield 98) 3 5 := ⟨by decide +kernel, rfl⟩
theorem d_X12_trim_5 : gd cX12_trim 5 (.aload_n 0) 1 6 := ⟨by decide +kernel, rfl⟩
theorem d_X12_trim_6 : gd cX12_trim 6 (.iload_n 1) 1 7 := ⟨by decide +kernel, rfl⟩
theorem d_X12_trim_7 : gd cX12_trim 7 (.invokevirtual 452) 3 10 := ⟨by decide +kernel, rfl⟩
theorem d_X12_trim_10 : gd cX12_trim 10 (.ifCond .eq 13) 3 13 := ⟨by decide +kernel, rfl⟩
theorem d_X12_trim_13 : gd cX12_trim 13 (.iload_n 2) 1 14 := ⟨by decide +kernel, rfl⟩
theorem d_X12_trim_14 : gd cX12_trim 14 (.iconst 1) 1 15 := ⟨by decide +kernel, rfl⟩
theorem d_X12_trim_15 : gd cX12_trim 15 (.bipush 99) 2 17 := ⟨by decide +kernel, rfl⟩
theorem d_X12_trim_17 : gd cX12_trim 17 (.invokestatic 217) 3 20 := ⟨by decide +kernel, rfl⟩
theorem d_X12_trim_20 : gd cX12_trim 20 (.ifCond .ne 5) 3 23 := ⟨by decide +kernel, rfl⟩
theorem d_X12_trim_23 : gd cX12_trim 23 (.iconst (-1)) 1 24 := ⟨by decide +kernel, rfl⟩
theorem d_X12_trim_24 : gd cX12_trim 24 .ireturn 1 25 := ⟨by decide +kernel, rfl⟩
theorem d_X12_trim_25 : gd cX12_trim 25 (.iconst 0) 1 26 := ⟨by decide +kernel, rfl⟩
theorem d_X12_trim_26 : gd cX12_trim 26 (.istore_n 3) 1 27 := ⟨by decide +kernel, rfl⟩
theorem d_X12_trim_27 : gd cX12_trim 27 (.iload_n 3) 1 28 := ⟨by decide +kernel, rfl⟩
theorem d_X12_trim_28 : gd cX12_trim 28 (.iload_n 2) 1 29 := ⟨by decide +kernel, rfl⟩
theorem d_X12_trim_29 : gd cX12_trim 29 (.if_icmp .ge 130) 3 32 := ⟨by decide +kernel, rfl⟩
theorem d_X12_trim_32 : gd cX12_trim 32 (.iconst 0) 1 33 := ⟨by decide +kernel, rfl⟩
theorem d_X12_trim_33 : gd cX12_trim 33 (.istore 4) 2 35 := ⟨by decide +kernel, rfl⟩
theorem d_X12_trim_35 : gd cX12_trim 35 (.iconst 0) 1 36 := ⟨by decide +kernel, rfl⟩
theorem d_X12_trim_36 : gd cX12_trim 36 (.istore 5) 2 38 := ⟨by decide +kernel, rfl⟩
theorem d_X12_trim_38 : gd cX12_trim 38 (.iconst 1) 1 39 := ⟨by decide +kernel, rfl⟩
theorem d_X12_trim_39 : gd cX12_trim 39 (.istore 6) 2 41 := ⟨by decide +kernel, rfl⟩
theorem d_X12_trim_41 : gd cX12_trim 41 (.iload 6) 2 43 := ⟨by decide +kernel, rfl⟩
theorem d_X12_trim_43 : gd cX12_trim 43 (.aload_n 0) 1 44 := ⟨by decide +kernel, rfl⟩
theorem d_X12_trim_44 : gd cX12_trim 44 (.iload_n 1) 1 45 := ⟨by decide +kernel, rfl⟩
theorem d_X12_trim_45 : gd cX12_trim 45 (.iconst 0) 1 46 := ⟨by decide +kernel, rfl⟩
theorem d_X12_trim_46 : gd cX12_trim 46 (.invokevirtual 302) 3 49 := ⟨by decide +kernel, rfl⟩
theorem d_X12_trim_49 : gd cX12_trim 49 (.if_icmp .ge 51) 3 52 := ⟨by decide +kernel, rfl⟩
theorem d_X12_trim_52 : gd cX12_trim 52 (.aload_n 0) 1 53 := ⟨by decide +kernel, rfl⟩
theorem d_X12_trim_53 : gd cX12_trim 53 (.iload_n 1) 1 54 := ⟨by decide +kernel, rfl⟩
theorem d_X12_trim_54 : gd cX12_trim 54 (.iload 6) 2 56 := ⟨by decide +kernel, rfl⟩
theorem d_X12_trim_56 : gd cX12_trim 56 (.invokevirtual 305) 3 59 := ⟨by decide +kernel, rfl⟩
theorem d_X12_trim_59 : gd cX12_trim 59 (.aload_n 0) 1 60 := ⟨by decide +kernel, rfl⟩
theorem d_X12_trim_60 : gd cX12_trim 60 (.iload_n 1) 1 61 := ⟨by decide +kernel, rfl⟩
theorem d_X12_trim_61 : gd cX12_trim 61 (.iload 4) 2 63 := ⟨by decide +kernel, rfl⟩
theorem d_X12_trim_63 : gd cX12_trim 63 (.invokevirtual 305) 3 66 := ⟨by decide +kernel, rfl⟩
theorem d_X12_trim_66 : gd cX12_trim 66 (.if_icmp .le 7) 3 69 := ⟨by decide +kernel, rfl⟩
theorem d_X12_trim_69 : gd cX12_trim 69 (.iload 6) 2 71 := ⟨by decide +kernel, rfl⟩
theorem d_X12_trim_71 : gd cX12_trim 71 (.istore 4) 2 73 := ⟨by decide +kernel, rfl⟩
theorem d_X12_trim_73 : gd cX12_trim 73 (.aload_n 0) 1 74 := ⟨by decide +kernel, rfl⟩
theorem d_X12_trim_74 : gd cX12_trim 74 (.iload_n 1) 1 75 := ⟨by decide +kernel, rfl⟩
theorem d_X12_trim_75 : gd cX12_trim 75 (.iload 6) 2 77 := ⟨by decide +kernel, rfl⟩
theorem d_X12_trim_77 : gd cX12_trim 77 (.invokevirtual 305) 3 80 := ⟨by decide +kernel, rfl⟩
theorem d_X12_trim_80 : gd cX12_trim 80 (.aload_n 0) 1 81 := ⟨by decide +kernel, rfl⟩
theorem d_X12_trim_81 : gd cX12_trim 81 (.iload_n 1) 1 82 := ⟨by decide +kernel, rfl⟩
theorem d_X12_trim_82 : gd cX12_trim 82 (.iload 5) 2 84 := ⟨by decide +kernel, rfl⟩
theorem d_X12_trim_84 : gd cX12_trim 84 (.invokevirtual 305) 3 87 := ⟨by decide +kernel, rfl⟩
theorem d_X12_trim_87 : gd cX12_trim 87 (.if_icmp .ge 7) 3 90 := ⟨by decide +kernel, rfl⟩
theorem d_X12_trim_90 : gd cX12_trim 90 (.iload 6) 2 92 := ⟨by decide +kernel, rfl⟩
theorem d_X12_trim_92 : gd cX12_trim 92 (.istore 5) 2 94 := ⟨by decide +kernel, rfl⟩
theorem d_X12_trim_94 : gd cX12_trim 94 (.iinc 6 1) 3 97 := ⟨by decide +kernel, rfl⟩
theorem d_X12_trim_97 : gd cX12_trim 97 (.goto (-56)) 3 100 := ⟨by decide +kernel, rfl⟩
theorem d_X12_trim_100 : gd cX12_trim 100 (.aload_n 0) 1 101 := ⟨by decide +kernel, rfl⟩
theorem d_X12_trim_101 : gd cX12_trim 101 (.iload_n 1) 1 102 := ⟨by decide +kernel, rfl⟩
theorem d_X12_trim_102 : gd cX12_trim 102 (.iload 4) 2 104 := ⟨by decide +kernel, rfl⟩
theorem d_X12_trim_104 : gd cX12_trim 104 (.invokevirtual 305) 3 107 := ⟨by decide +kernel, rfl⟩
theorem d_X12_trim_107 : gd cX12_trim 107 (.aload_n 0) 1 108 := ⟨by decide +kernel, rfl⟩
theorem d_X12_trim_108 : gd cX12_trim 108 (.iload_n 1) 1 109 := ⟨by decide +kernel, rfl⟩
theorem d_X12_trim_109 : gd cX12_trim 109 (.iload 5) 2 111 := ⟨by decide +kernel, rfl⟩
theorem d_X12_trim_111 : gd cX12_trim 111 (.invokevirtual 305) 3 114 := ⟨by decide +kernel, rfl⟩
theorem d_X12_trim_114 : gd cX12_trim 114 .isub 1 115 := ⟨by decide +kernel, rfl⟩
theorem d_X12_trim_115 : gd cX12_trim 115 (.iconst 2) 1 116 := ⟨by decide +kernel, rfl⟩
theorem d_X12_trim_116 : gd cX12_trim 116 (.if_icmp .ge 5) 3 119 := ⟨by decide +kernel, rfl⟩
theorem d_X12_trim_119 : gd cX12_trim 119 (.iload_n 3) 1 120 := ⟨by decide +kernel, rfl⟩
theorem d_X12_trim_120 : gd cX12_trim 120 .ireturn 1 121 := ⟨by decide +kernel, rfl⟩
theorem d_X12_trim_121 : gd cX12_trim 121 (.aload_n 0) 1 122 := ⟨by decide +kernel, rfl⟩
theorem d_X12_trim_122 : gd cX12_trim 122 (.getfield 71) 3 125 := ⟨by decide +kernel, rfl⟩
theorem d_X12_trim_125 : gd cX12_trim 125 (.aload_n 0) 1 126 := ⟨by decide +kernel, rfl⟩
theorem d_X12_trim_126 : gd cX12_trim 126 (.iload_n 1) 1 127 := ⟨by decide +kernel, rfl⟩
theorem d_X12_trim_127 : gd cX12_trim 127 (.iload 4) 2 129 := ⟨by decide +kernel, rfl⟩
theorem d_X12_trim_129 : gd cX12_trim 129 (.invokevirtual 299) 3 132 := ⟨by decide +kernel, rfl⟩
theorem d_X12_trim_132 : gd cX12_trim 132 .dup2 1 133 := ⟨by decide +kernel, rfl⟩
theorem d_X12_trim_133 : gd cX12_trim 133 .iaload 1 134 := ⟨by decide +kernel, rfl⟩
theorem d_X12_trim_134 : gd cX12_trim 134 (.iconst 1) 1 135 := ⟨by decide +kernel, rfl⟩
theorem d_X12_trim_135 : gd cX12_trim 135 .isub 1 136 := ⟨by decide +kernel, rfl⟩
theorem d_X12_trim_136 : gd cX12_trim 136 .iastore 1 137 := ⟨by decide +kernel, rfl⟩
theorem d_X12_trim_137 : gd cX12_trim 137 (.aload_n 0) 1 138 := ⟨by decide +kernel, rfl⟩
theorem d_X12_trim_138 : gd cX12_trim 138 (.getfield 71) 3 141 := ⟨by decide +kernel, rfl⟩
theorem d_X12_trim_141 : gd cX12_trim 141 (.aload_n 0) 1 142 := ⟨by decide +kernel, rfl⟩
theorem d_X12_trim_142 : gd cX12_trim 142 (.iload_n 1) 1 143 := ⟨by decide +kernel, rfl⟩
theorem d_X12_trim_143 : gd cX12_trim 143 (.iload 5) 2 145 := ⟨by decide +kernel, rfl⟩
theorem d_X12_trim_145 : gd cX12_trim 145 (.invokevirtual 299) 3 148 := ⟨by decide +kernel, rfl⟩
theorem d_X12_trim_148 : gd cX12_trim 148 .dup2 1 149 := ⟨by decide +kernel, rfl⟩
theorem d_X12_trim_149 : gd cX12_trim 149 .iaload 1 150 := ⟨by decide +kernel, rfl⟩
theorem d_X12_trim_150 : gd cX12_trim 150 (.iconst 1) 1 151 := ⟨by decide +kernel, rfl⟩
theorem d_X12_trim_151 : gd cX12_trim 151 .iadd 1 152 := ⟨by decide +kernel, rfl⟩
theorem d_X12_trim_152 : gd cX12_trim 152 .iastore 1 153 := ⟨by decide +kernel, rfl⟩
theorem d_X12_trim_153 : gd cX12_trim 153 (.iinc 3 1) 3 156 := ⟨by decide +kernel, rfl⟩
theorem d_X12_trim_156 : gd cX12_trim 156 (.goto (-129)) 3 159 := ⟨by decide +kernel, rfl⟩
theorem d_X12_trim_159 : gd cX12_trim 159 (.iload_n 2) 1 160 := ⟨by decide +kernel, rfl⟩
theorem d_X12_trim_160 : gd cX12_trim 160 .ireturn 1 161 := ⟨by decide +kernel, rfl⟩
def B_X12_trim_73 (q27 : Int32 → Int32 → Int32 → gs_M → Option (Int32 × gs_M)) (q41 : Int32 → Int32 → Int32 → Int32 → Int32 → Int32 → gs_M → Option (Int32 × gs_M)) (x1 : Int32) (x2 : Int32) (x3 : Int32) (x4 : Int32) (x5 : Int32) (x6 : Int32) (μ : gs_M) : Option (Int32 × gs_M) :=
  bd (D_X12_units x1 x6 μ) (fun v3 u2 => bd (D_X12_units x1 x5 u2) (fun v6 u5 => if v6 ≤ v3 then (q41 x1 x2 x3 x4 x5 (x6 + (1 : Int32)) u5) else (q41 x1 x2 x3 x4 x6 (x6 + (1 : Int32)) u5)))
def Bo_X12_trim_41 (q27 : Int32 → Int32 → Int32 → gs_M → Option (Int32 × gs_M)) (q41 : Int32 → Int32 → Int32 → Int32 → Int32 → Int32 → gs_M → Option (Int32 × gs_M)) (x1 : Int32) (x2 : Int32) (x3 : Int32) (x4 : Int32) (x5 : Int32) (x6 : Int32) (μ : gs_M) : Option (Int32 × gs_M) :=
  bd (D_X12_of x1 (0 : Int32) μ) (fun v3 u2 => if v3 ≤ x6 then (bd (D_X12_units x1 x4 u2) (fun v7 u6 => bd (D_X12_units x1 x5 u6) (fun v10 u9 => if (2 : Int32) ≤ (v7 - v10) then (bd (D_X12_placeIn x1 x4 u9) (fun v14 u13 => ck (inb v14 81) (ck (inb v14 81) (lt1 (sI u13 89 (Int32.toNatClampNeg v14) ((gI u13 89 (Int32.toNatClampNeg v14)) - (1 : Int32))) (fun u17 => bd (D_X12_placeIn x1 x5 u17) (fun v20 u19 => ck (inb v20 81) (ck (inb v20 81) (lt1 (sI u19 89 (Int32.toNatClampNeg v20) ((gI u19 89 (Int32.toNatClampNeg v20)) + (1 : Int32))) (fun u23 => q27 x1 x2 (x3 + (1 : Int32)) u23))))))))) else (some (x3, u9))))) else (bd (D_X12_units x1 x6 u2) (fun v26 u25 => bd (D_X12_units x1 x4 u25) (fun v29 u28 => if v26 ≤ v29 then (B_X12_trim_73 q27 q41 x1 x2 x3 x4 x5 x6 u28) else (B_X12_trim_73 q27 q41 x1 x2 x3 x6 x5 x6 u28)))))
def L_X12_trim_41 (q27 : Int32 → Int32 → Int32 → gs_M → Option (Int32 × gs_M)) : Nat → Int32 → Int32 → Int32 → Int32 → Int32 → Int32 → gs_M → Option (Int32 × gs_M)
  | 0 => fun _ _ _ _ _ _ _ => none
  | n + 1 => fun x1 x2 x3 x4 x5 x6 μ => Bo_X12_trim_41 q27 (L_X12_trim_41 q27 n) x1 x2 x3 x4 x5 x6 μ
def Bo_X12_trim_27 (q27 : Int32 → Int32 → Int32 → gs_M → Option (Int32 × gs_M)) (x1 : Int32) (x2 : Int32) (x3 : Int32) (μ : gs_M) : Option (Int32 × gs_M) :=
  if x2 ≤ x3 then (some (x2, μ)) else (L_X12_trim_41 q27 4096 x1 x2 x3 (0 : Int32) (0 : Int32) (1 : Int32) μ)
def L_X12_trim_27  : Nat → Int32 → Int32 → Int32 → gs_M → Option (Int32 × gs_M)
  | 0 => fun _ _ _ _ => none
  | n + 1 => fun x1 x2 x3 μ => Bo_X12_trim_27  (L_X12_trim_27  n) x1 x2 x3 μ
def D_X12_trim (x1 : Int32) (x2 : Int32) (μ : gs_M) : Option (Int32 × gs_M) :=
  lt1 (sI μ 78 0 (0 : Int32)) (fun u1 => bd (D_X12_isOpen x1 u1) (fun v4 u3 => if v4 = 0 then (some ((-1 : Int32), u3)) else (bd (D_X12_isIn x2 (1 : Int32) (99 : Int32) u3) (fun v8 u7 => if v8 = 0 then (some ((-1 : Int32), u7)) else (L_X12_trim_27 4096 x1 x2 (0 : Int32) u7)))))
section S_X12_trim
variable {p : Program} {l : Launch} {e : Env} {R : Room} {s : State} {m : MethodId} {args : Array Value} {below : List Frame} {meth : Method} {c : Code} {ad : Nat → Nat} {g : va_G} {tyc : Nat → ClassId}
set_option maxRecDepth 20000 in
theorem T_X12_trim_73  (hK : KC p R s m args meth c ad g tyc RX12 cX12_trim 7 (some .int) 3) {r : Int32} {μ2 : gs_M} {q27 : Int32 → Int32 → Int32 → gs_M → Option (Int32 × gs_M)} {q41 : Int32 → Int32 → Int32 → Int32 → Int32 → Int32 → gs_M → Option (Int32 × gs_M)} (hq27 : ∀ (x1 : Int32) (x2 : Int32) (x3 : Int32) (μ : gs_M), q27 x1 x2 x3 μ = some (r, μ2) → WJ p l e R s m args below meth c 0 0 (MQ below (gs_Q ad g tyc (some (.int r)) μ2) args s 0 0 (gs_A ad)) ad g tyc 7 27 [.ref 78, .int x1, .int x2, .int x3, gs_J, gs_J, gs_J] [] μ) (hq41 : ∀ (x1 : Int32) (x2 : Int32) (x3 : Int32) (x4 : Int32) (x5 : Int32) (x6 : Int32) (μ : gs_M), q41 x1 x2 x3 x4 x5 x6 μ = some (r, μ2) → WJ p l e R s m args below meth c 0 0 (MQ below (gs_Q ad g tyc (some (.int r)) μ2) args s 0 0 (gs_A ad)) ad g tyc 7 41 [.ref 78, .int x1, .int x2, .int x3, .int x4, .int x5, .int x6] [] μ) {x1 : Int32} {x2 : Int32} {x3 : Int32} {x4 : Int32} {x5 : Int32} {x6 : Int32} {μ : gs_M}  (hD : B_X12_trim_73 q27 q41 x1 x2 x3 x4 x5 x6 μ = some (r, μ2)) : WJ p l e R s m args below meth c 0 0 (MQ below (gs_Q ad g tyc (some (.int r)) μ2) args s 0 0 (gs_A ad)) ad g tyc 7 73 [.ref 78, .int x1, .int x2, .int x3, .int x4, .int x5, .int x6] [] μ := by
  unfold B_X12_trim_73 at hD
  refine r_aload_n hK d_X12_trim_73 rfl rfl ?_
  refine r_iload_n hK d_X12_trim_74 rfl rfl ?_
  refine r_iload hK d_X12_trim_75 rfl ?_
  obtain ⟨v3, u2, e1, hD⟩ := bd_e hD
  refine r_callV (As := [.int x1, .int x6]) (st := []) (stk2 := [.int v3]) hK (C_X12_units  e1) d_X12_trim_77 mf_X12_units ml_RX12_305 im_X12_units rfl se_11_RX12_X12_units kd_78 rfl (Nat.le_of_ble_eq_true rfl) (by decide) ⟨Nat.zero_le _, Nat.zero_le _⟩ rfl rfl ?_
  refine r_aload_n hK d_X12_trim_80 rfl rfl ?_
  refine r_iload_n hK d_X12_trim_81 rfl rfl ?_
  refine r_iload hK d_X12_trim_82 rfl ?_
  obtain ⟨v6, u5, e4, hD⟩ := bd_e hD
  refine r_callV (As := [.int x1, .int x5]) (st := [.int v3]) (stk2 := [.int v6, .int v3]) hK (C_X12_units  e4) d_X12_trim_84 mf_X12_units ml_RX12_305 im_X12_units rfl se_11_RX12_X12_units kd_78 rfl (Nat.le_of_ble_eq_true rfl) (by decide) ⟨Nat.zero_le _, Nat.zero_le _⟩ rfl rfl ?_
  refine r_icmp_ge (tgt := 94) hK d_X12_trim_87 (by decide) (fun h7 => ?_) (fun h7 => ?_)
  · have hD := if_t hD h7
    refine r_iinc hK d_X12_trim_94 rfl (v := x6 + (1 : Int32)) (by rw [ci_1]) (by decide) (ls2 := [.ref 78, .int x1, .int x2, .int x3, .int x4, .int x5, .int (x6 + (1 : Int32))]) rfl ?_
    refine r_goto (tgt := 41) hK d_X12_trim_97 (by decide) ?_
    exact hq41 _ _ _ _ _ _ _  hD
  · have hD := if_f hD h7
    refine r_iload hK d_X12_trim_90 rfl ?_
    refine r_istore hK d_X12_trim_92 (by decide) (ls2 := [.ref 78, .int x1, .int x2, .int x3, .int x4, .int x6, .int x6]) rfl ?_
    refine r_iinc hK d_X12_trim_94 rfl (v := x6 + (1 : Int32)) (by rw [ci_1]) (by decide) (ls2 := [.ref 78, .int x1, .int x2, .int x3, .int x4, .int x6, .int (x6 + (1 : Int32))]) rfl ?_
    refine r_goto (tgt := 41) hK d_X12_trim_97 (by decide) ?_
    exact hq41 _ _ _ _ _ _ _  hD
set_option maxRecDepth 20000 in
theorem To_X12_trim_41  (hK : KC p R s m args meth c ad g tyc RX12 cX12_trim 7 (some .int) 3) {r : Int32} {μ2 : gs_M} {q27 : Int32 → Int32 → Int32 → gs_M → Option (Int32 × gs_M)} {q41 : Int32 → Int32 → Int32 → Int32 → Int32 → Int32 → gs_M → Option (Int32 × gs_M)} (hq27 : ∀ (x1 : Int32) (x2 : Int32) (x3 : Int32) (μ : gs_M), q27 x1 x2 x3 μ = some (r, μ2) → WJ p l e R s m args below meth c 0 0 (MQ below (gs_Q ad g tyc (some (.int r)) μ2) args s 0 0 (gs_A ad)) ad g tyc 7 27 [.ref 78, .int x1, .int x2, .int x3, gs_J, gs_J, gs_J] [] μ) (hq41 : ∀ (x1 : Int32) (x2 : Int32) (x3 : Int32) (x4 : Int32) (x5 : Int32) (x6 : Int32) (μ : gs_M), q41 x1 x2 x3 x4 x5 x6 μ = some (r, μ2) → WJ p l e R s m args below meth c 0 0 (MQ below (gs_Q ad g tyc (some (.int r)) μ2) args s 0 0 (gs_A ad)) ad g tyc 7 41 [.ref 78, .int x1, .int x2, .int x3, .int x4, .int x5, .int x6] [] μ) {x1 : Int32} {x2 : Int32} {x3 : Int32} {x4 : Int32} {x5 : Int32} {x6 : Int32} {μ : gs_M}  (hD : Bo_X12_trim_41 q27 q41 x1 x2 x3 x4 x5 x6 μ = some (r, μ2)) : WJ p l e R s m args below meth c 0 0 (MQ below (gs_Q ad g tyc (some (.int r)) μ2) args s 0 0 (gs_A ad)) ad g tyc 7 41 [.ref 78, .int x1, .int x2, .int x3, .int x4, .int x5, .int x6] [] μ := by
  unfold Bo_X12_trim_41 at hD
  refine r_iload hK d_X12_trim_41 rfl ?_
  refine r_aload_n hK d_X12_trim_43 rfl rfl ?_
  refine r_iload_n hK d_X12_trim_44 rfl rfl ?_
  refine r_iconst hK d_X12_trim_45 ci_0 ?_
  obtain ⟨v3, u2, e1, hD⟩ := bd_e hD
  refine r_callV (As := [.int x1, .int (0 : Int32)]) (st := [.int x6]) (stk2 := [.int v3, .int x6]) hK (C_X12_of  e1) d_X12_trim_46 mf_X12_of ml_RX12_302 im_X12_of rfl se_11_RX12_X12_of kd_78 rfl (Nat.le_of_ble_eq_true rfl) (by decide) ⟨Nat.zero_le _, Nat.zero_le _⟩ rfl rfl ?_
  refine r_icmp_ge (tgt := 100) hK d_X12_trim_49 (by decide) (fun h4 => ?_) (fun h4 => ?_)
  · have hD := if_t hD h4
    refine r_aload_n hK d_X12_trim_100 rfl rfl ?_
    refine r_iload_n hK d_X12_trim_101 rfl rfl ?_
    refine r_iload hK d_X12_trim_102 rfl ?_
    obtain ⟨v7, u6, e5, hD⟩ := bd_e hD
    refine r_callV (As := [.int x1, .int x4]) (st := []) (stk2 := [.int v7]) hK (C_X12_units  e5) d_X12_trim_104 mf_X12_units ml_RX12_305 im_X12_units rfl se_11_RX12_X12_units kd_78 rfl (Nat.le_of_ble_eq_true rfl) (by decide) ⟨Nat.zero_le _, Nat.zero_le _⟩ rfl rfl ?_
    refine r_aload_n hK d_X12_trim_107 rfl rfl ?_
    refine r_iload_n hK d_X12_trim_108 rfl rfl ?_
    refine r_iload hK d_X12_trim_109 rfl ?_
    obtain ⟨v10, u9, e8, hD⟩ := bd_e hD
    refine r_callV (As := [.int x1, .int x5]) (st := [.int v7]) (stk2 := [.int v10, .int v7]) hK (C_X12_units  e8) d_X12_trim_111 mf_X12_units ml_RX12_305 im_X12_units rfl se_11_RX12_X12_units kd_78 rfl (Nat.le_of_ble_eq_true rfl) (by decide) ⟨Nat.zero_le _, Nat.zero_le _⟩ rfl rfl ?_
    refine r_isub hK d_X12_trim_114 ?_
    refine r_iconst hK d_X12_trim_115 ci_2 ?_
    refine r_icmp_ge (tgt := 121) hK d_X12_trim_116 (by decide) (fun h11 => ?_) (fun h11 => ?_)
    · have hD := if_t hD h11
      refine r_aload_n hK d_X12_trim_121 rfl rfl ?_
      refine r_getR hK d_X12_trim_122 fl_RX12_71_11 rfl kd_78 ?_
      refine r_ref (b := 89) R0_78_30 ?_
      refine r_aload_n hK d_X12_trim_125 rfl rfl ?_
      refine r_iload_n hK d_X12_trim_126 rfl rfl ?_
      refine r_iload hK d_X12_trim_127 rfl ?_
      obtain ⟨v14, u13, e12, hD⟩ := bd_e hD
      refine r_callV (As := [.int x1, .int x4]) (st := [.ref 89]) (stk2 := [.int v14, .ref 89]) hK (C_X12_placeIn  e12) d_X12_trim_129 mf_X12_placeIn ml_RX12_299 im_X12_placeIn rfl se_11_RX12_X12_placeIn kd_78 rfl (Nat.le_of_ble_eq_true rfl) (by decide) ⟨Nat.zero_le _, Nat.zero_le _⟩ rfl rfl ?_
      refine r_dup2 hK d_X12_trim_132 rfl rfl ?_
      obtain ⟨h15, hD⟩ := ck_e hD
      refine r_iald hK d_X12_trim_133 kd_89 ln_89 (inb_in h15) ?_
      refine r_iconst hK d_X12_trim_134 ci_1 ?_
      refine r_isub hK d_X12_trim_135 ?_
      obtain ⟨h16, hD⟩ := ck_e hD
      refine r_iast hK d_X12_trim_136 kd_89 ln_89 (inb_in h16) ?_
      refine r_ltm hD (fun u17 hD => ?_)
      refine r_aload_n hK d_X12_trim_137 rfl rfl ?_
      refine r_getR hK d_X12_trim_138 fl_RX12_71_11 rfl kd_78 ?_
      refine r_ref (b := 89) R0_78_30 ?_
      refine r_aload_n hK d_X12_trim_141 rfl rfl ?_
      refine r_iload_n hK d_X12_trim_142 rfl rfl ?_
      refine r_iload hK d_X12_trim_143 rfl ?_
      obtain ⟨v20, u19, e18, hD⟩ := bd_e hD
      refine r_callV (As := [.int x1, .int x5]) (st := [.ref 89]) (stk2 := [.int v20, .ref 89]) hK (C_X12_placeIn  e18) d_X12_trim_145 mf_X12_placeIn ml_RX12_299 im_X12_placeIn rfl se_11_RX12_X12_placeIn kd_78 rfl (Nat.le_of_ble_eq_true rfl) (by decide) ⟨Nat.zero_le _, Nat.zero_le _⟩ rfl rfl ?_
      refine r_dup2 hK d_X12_trim_148 rfl rfl ?_
      obtain ⟨h21, hD⟩ := ck_e hD
      refine r_iald hK d_X12_trim_149 kd_89 ln_89 (inb_in h21) ?_
      refine r_iconst hK d_X12_trim_150 ci_1 ?_
      refine r_iadd hK d_X12_trim_151 ?_
      obtain ⟨h22, hD⟩ := ck_e hD
      refine r_iast hK d_X12_trim_152 kd_89 ln_89 (inb_in h22) ?_
      refine r_ltm hD (fun u23 hD => ?_)
      refine r_iinc hK d_X12_trim_153 rfl (v := x3 + (1 : Int32)) (by rw [ci_1]) (by decide) (ls2 := [.ref 78, .int x1, .int x2, .int (x3 + (1 : Int32)), .int x4, .int x5, .int x6]) rfl ?_
      refine r_goto (tgt := 27) hK d_X12_trim_156 (by decide) ?_
      refine r_junk [true, true, true, true, false, false, false] (ls2 := [.ref 78, .int x1, .int x2, .int (x3 + (1 : Int32)), gs_J, gs_J, gs_J]) rfl ?_
      exact hq27 _ _ _ _  hD
    · have hD := if_f hD h11
      refine r_iload_n hK d_X12_trim_119 rfl rfl ?_
      cases hD
      exact r_iret hK d_X12_trim_120
  · have hD := if_f hD h4
    refine r_aload_n hK d_X12_trim_52 rfl rfl ?_
    refine r_iload_n hK d_X12_trim_53 rfl rfl ?_
    refine r_iload hK d_X12_trim_54 rfl ?_
    obtain ⟨v26, u25, e24, hD⟩ := bd_e hD
    refine r_callV (As := [.int x1, .int x6]) (st := []) (stk2 := [.int v26]) hK (C_X12_units  e24) d_X12_trim_56 mf_X12_units ml_RX12_305 im_X12_units rfl se_11_RX12_X12_units kd_78 rfl (Nat.le_of_ble_eq_true rfl) (by decide) ⟨Nat.zero_le _, Nat.zero_le _⟩ rfl rfl ?_
    refine r_aload_n hK d_X12_trim_59 rfl rfl ?_
    refine r_iload_n hK d_X12_trim_60 rfl rfl ?_
    refine r_iload hK d_X12_trim_61 rfl ?_
    obtain ⟨v29, u28, e27, hD⟩ := bd_e hD
    refine r_callV (As := [.int x1, .int x4]) (st := [.int v26]) (stk2 := [.int v29, .int v26]) hK (C_X12_units  e27) d_X12_trim_63 mf_X12_units ml_RX12_305 im_X12_units rfl se_11_RX12_X12_units kd_78 rfl (Nat.le_of_ble_eq_true rfl) (by decide) ⟨Nat.zero_le _, Nat.zero_le _⟩ rfl rfl ?_
    refine r_icmp_le (tgt := 73) hK d_X12_trim_66 (by decide) (fun h30 => ?_) (fun h30 => ?_)
    · have hD := if_t hD h30
      exact T_X12_trim_73 hK hq27 hq41  hD
    · have hD := if_f hD h30
      refine r_iload hK d_X12_trim_69 rfl ?_
      refine r_istore hK d_X12_trim_71 (by decide) (ls2 := [.ref 78, .int x1, .int x2, .int x3, .int x6, .int x5, .int x6]) rfl ?_
      exact T_X12_trim_73 hK hq27 hq41  hD
set_option maxRecDepth 20000 in
theorem TL_X12_trim_41  (hK : KC p R s m args meth c ad g tyc RX12 cX12_trim 7 (some .int) 3) {r : Int32} {μ2 : gs_M} {q27 : Int32 → Int32 → Int32 → gs_M → Option (Int32 × gs_M)} (hq27 : ∀ (x1 : Int32) (x2 : Int32) (x3 : Int32) (μ : gs_M), q27 x1 x2 x3 μ = some (r, μ2) → WJ p l e R s m args below meth c 0 0 (MQ below (gs_Q ad g tyc (some (.int r)) μ2) args s 0 0 (gs_A ad)) ad g tyc 7 27 [.ref 78, .int x1, .int x2, .int x3, gs_J, gs_J, gs_J] [] μ) : ∀ (n : Nat) (x1 : Int32) (x2 : Int32) (x3 : Int32) (x4 : Int32) (x5 : Int32) (x6 : Int32) (μ : gs_M), L_X12_trim_41 q27 n x1 x2 x3 x4 x5 x6 μ = some (r, μ2) → WJ p l e R s m args below meth c 0 0 (MQ below (gs_Q ad g tyc (some (.int r)) μ2) args s 0 0 (gs_A ad)) ad g tyc 7 41 [.ref 78, .int x1, .int x2, .int x3, .int x4, .int x5, .int x6] [] μ := by
  intro n
  induction n with
  | zero => intro x1 x2 x3 x4 x5 x6 μ  hD; cases hD
  | succ n ih => intro x1 x2 x3 x4 x5 x6 μ  hD; exact To_X12_trim_41 hK hq27 ih  hD
set_option maxRecDepth 20000 in
theorem To_X12_trim_27  (hK : KC p R s m args meth c ad g tyc RX12 cX12_trim 7 (some .int) 3) {r : Int32} {μ2 : gs_M} {q27 : Int32 → Int32 → Int32 → gs_M → Option (Int32 × gs_M)} (hq27 : ∀ (x1 : Int32) (x2 : Int32) (x3 : Int32) (μ : gs_M), q27 x1 x2 x3 μ = some (r, μ2) → WJ p l e R s m args below meth c 0 0 (MQ below (gs_Q ad g tyc (some (.int r)) μ2) args s 0 0 (gs_A ad)) ad g tyc 7 27 [.ref 78, .int x1, .int x2, .int x3, gs_J, gs_J, gs_J] [] μ) {x1 : Int32} {x2 : Int32} {x3 : Int32} {μ : gs_M}  (hD : Bo_X12_trim_27 q27 x1 x2 x3 μ = some (r, μ2)) : WJ p l e R s m args below meth c 0 0 (MQ below (gs_Q ad g tyc (some (.int r)) μ2) args s 0 0 (gs_A ad)) ad g tyc 7 27 [.ref 78, .int x1, .int x2, .int x3, gs_J, gs_J, gs_J] [] μ := by
  unfold Bo_X12_trim_27 at hD
  refine r_iload_n hK d_X12_trim_27 rfl rfl ?_
  refine r_iload_n hK d_X12_trim_28 rfl rfl ?_
  refine r_icmp_ge (tgt := 159) hK d_X12_trim_29 (by decide) (fun h1 => ?_) (fun h1 => ?_)
  · have hD := if_t hD h1
    refine r_iload_n hK d_X12_trim_159 rfl rfl ?_
    cases hD
    exact r_iret hK d_X12_trim_160
  · have hD := if_f hD h1
    refine r_iconst hK d_X12_trim_32 ci_0 ?_
    refine r_istore hK d_X12_trim_33 (by decide) (ls2 := [.ref 78, .int x1, .int x2, .int x3, .int (0 : Int32), gs_J, gs_J]) rfl ?_
    refine r_iconst hK d_X12_trim_35 ci_0 ?_
    refine r_istore hK d_X12_trim_36 (by decide) (ls2 := [.ref 78, .int x1, .int x2, .int x3, .int (0 : Int32), .int (0 : Int32), gs_J]) rfl ?_
    refine r_iconst hK d_X12_trim_38 ci_1 ?_
    refine r_istore hK d_X12_trim_39 (by decide) (ls2 := [.ref 78, .int x1, .int x2, .int x3, .int (0 : Int32), .int (0 : Int32), .int (1 : Int32)]) rfl ?_
    exact TL_X12_trim_41 hK hq27 _ _ _ _ _ _ _ _  hD
set_option maxRecDepth 20000 in
theorem TL_X12_trim_27  (hK : KC p R s m args meth c ad g tyc RX12 cX12_trim 7 (some .int) 3) {r : Int32} {μ2 : gs_M}   : ∀ (n : Nat) (x1 : Int32) (x2 : Int32) (x3 : Int32) (μ : gs_M), L_X12_trim_27  n x1 x2 x3 μ = some (r, μ2) → WJ p l e R s m args below meth c 0 0 (MQ below (gs_Q ad g tyc (some (.int r)) μ2) args s 0 0 (gs_A ad)) ad g tyc 7 27 [.ref 78, .int x1, .int x2, .int x3, gs_J, gs_J, gs_J] [] μ := by
  intro n
  induction n with
  | zero => intro x1 x2 x3 μ  hD; cases hD
  | succ n ih => intro x1 x2 x3 μ  hD; exact To_X12_trim_27 hK  ih  hD
set_option maxRecDepth 20000 in
theorem C_X12_trim  {x1 : Int32} {x2 : Int32} {μ : gs_M} {r : Int32} {μ2 : gs_M}  (hD : D_X12_trim x1 x2 μ = some (r, μ2)) : CALL yX12_trim cX12_trim 7 (some .int) 3 [.ref 78, .int x1, .int x2] μ (some (.int r)) μ2 := by
  unfold D_X12_trim at hD
  refine gs_enter mf_X12_trim (Nat.le_of_ble_eq_true rfl) (ls := [.ref 78, .int x1, .int x2, gs_J, gs_J, gs_J, gs_J]) rfl (fun p l e R s m args below meth c ad g tyc hK => ?_)
  have hK : KC p R s m args meth c ad g tyc RX12 cX12_trim 7 (some .int) 3 := hK
  refine r_aload_n hK d_X12_trim_0 rfl rfl ?_
  refine r_iconst hK d_X12_trim_1 ci_0 ?_
  refine r_putI hK d_X12_trim_2 fl_RX12_98_11 rfl rfl kd_78 ?_
  refine r_ltm hD (fun u1 hD => ?_)
  refine r_aload_n hK d_X12_trim_5 rfl rfl ?_
  refine r_iload_n hK d_X12_trim_6 rfl rfl ?_
  obtain ⟨v4, u3, e2, hD⟩ := bd_e hD
  refine r_callV (As := [.int x1]) (st := []) (stk2 := [.int v4]) hK (C_X12_isOpen  e2) d_X12_trim_7 mf_X12_isOpen ml_RX12_452 im_X12_isOpen rfl se_11_RX12_X12_isOpen kd_78 rfl (Nat.le_of_ble_eq_true rfl) (by decide) ⟨Nat.zero_le _, Nat.zero_le _⟩ rfl rfl ?_
  refine r_if_eq (tgt := 23) hK d_X12_trim_10 (by decide) (fun h5 => ?_) (fun h5 => ?_)
  · have hD := if_t hD h5
    refine r_iconst hK d_X12_trim_23 ci_m1 ?_
    cases hD
    exact r_iret hK d_X12_trim_24
  · have hD := if_f hD h5
    refine r_iload_n hK d_X12_trim_13 rfl rfl ?_
    refine r_iconst hK d_X12_trim_14 ci_1 ?_
    refine r_bipush hK d_X12_trim_15 cb_99 ?_
    obtain ⟨v8, u7, e6, hD⟩ := bd_e hD
    refine r_callS (As := [.int x2, .int (1 : Int32), .int (99 : Int32)]) (st := []) (stk2 := [.int v8]) hK (C_X12_isIn  e6) d_X12_trim_17 mf_X12_isIn ml_RX12_217 ss_X12_isIn rfl (Nat.le_of_ble_eq_true rfl) (by decide) ⟨Nat.zero_le _, Nat.zero_le _⟩ rfl rfl ?_
    refine r_if_ne (tgt := 25) hK d_X12_trim_20 (by decide) (fun h9 => ?_) (fun h9 => ?_)
    · have hD := if_f hD h9
      refine r_iconst hK d_X12_trim_25 ci_0 ?_
      refine r_istore_n hK d_X12_trim_26 rfl (by decide) (ls2 := [.ref 78, .int x1, .int x2, .int (0 : Int32), gs_J, gs_J, gs_J]) rfl ?_
      exact TL_X12_trim_27 hK  _ _ _ _ _  hD
    · have hD := if_t hD h9
      refine r_iconst hK d_X12_trim_23 ci_m1 ?_
      cases hD
      exact r_iret hK d_X12_trim_24
end S_X12_trim
theorem d_X12_pour_0 : gd cX12_pour 0 (.aload_n 0) 1 1 := ⟨by decide +kernel, rfl⟩
theorem d_X12_pour_1 : gd cX12_pour 1 (.iconst 0) 1 2 := ⟨by decide +kernel, rfl⟩
theorem d_X12_pour_2 : gd cX12_pour 2 (.putfield 98) 3 5 := ⟨by decide +kernel, rfl⟩
theorem d_X12_pour_5 : gd cX12_pour 5 (.aload_n 0) 1 6 := ⟨by decide +kernel, rfl⟩
theorem d_X12_pour_6 : gd cX12_pour 6 (.iload_n 1) 1 7 := ⟨by decide +kernel, rfl⟩
theorem d_X12_pour_7 : gd cX12_pour 7 (.iload_n 2) 1 8 := ⟨by decide +kernel, rfl⟩
theorem d_X12_pour_8 : gd cX12_pour 8 (.invokevirtual 455) 3 11 := ⟨by decide +kernel, rfl⟩
theorem d_X12_pour_11 : gd cX12_pour 11 (.ifCond .eq 13) 3 14 := ⟨by decide +kernel, rfl⟩
theorem d_X12_pour_14 : gd cX12_pour 14 (.iload_n 3) 1 15 := ⟨by decide +kernel, rfl⟩
theorem d_X12_pour_15 : gd cX12_pour 15 (.iconst 1) 1 16 := ⟨by decide +kernel, rfl⟩
theorem d_X12_pour_16 : gd cX12_pour 16 (.bipush 99) 2 18 := ⟨by decide +kernel, rfl⟩
theorem d_X12_pour_18 : gd cX12_pour 18 (.invokestatic 217) 3 21 := ⟨by decide +kernel, rfl⟩
theorem d_X12_pour_21 : gd cX12_pour 21 (.ifCond .ne 5) 3 24 := ⟨by decide +kernel, rfl⟩
theorem d_X12_pour_24 : gd cX12_pour 24 (.iconst (-1)) 1 25 := ⟨by decide +kernel, rfl⟩
theorem d_X12_pour_25 : gd cX12_pour 25 .ireturn 1 26 := ⟨by decide +kernel, rfl⟩
theorem d_X12_pour_26 : gd cX12_pour 26 (.iconst 0) 1 27 := ⟨by decide +kernel, rfl⟩
theorem d_X12_pour_27 : gd cX12_pour 27 (.istore 4) 2 29 := ⟨by decide +kernel, rfl⟩
theorem d_X12_pour_29 : gd cX12_pour 29 (.iload 4) 2 31 := ⟨by decide +kernel, rfl⟩
theorem d_X12_pour_31 : gd cX12_pour 31 (.iload_n 3) 1 32 := ⟨by decide +kernel, rfl⟩
theorem d_X12_pour_32 : gd cX12_pour 32 (.if_icmp .ge 61) 3 35 := ⟨by decide +kernel, rfl⟩
theorem d_X12_pour_35 : gd cX12_pour 35 (.aload_n 0) 1 36 := ⟨by decide +kernel, rfl⟩
theorem d_X12_pour_36 : gd cX12_pour 36 (.iload_n 1) 1 37 := ⟨by decide +kernel, rfl⟩
theorem d_X12_pour_37 : gd cX12_pour 37 (.aload_n 0) 1 38 := ⟨by decide +kernel, rfl⟩
theorem d_X12_pour_38 : gd cX12_pour 38 (.iload_n 1) 1 39 := ⟨by decide +kernel, rfl⟩
theorem d_X12_pour_39 : gd cX12_pour 39 (.iload_n 2) 1 40 := ⟨by decide +kernel, rfl⟩
theorem d_X12_pour_40 : gd cX12_pour 40 (.invokevirtual 305) 3 43 := ⟨by decide +kernel, rfl⟩
theorem d_X12_pour_43 : gd cX12_pour 43 (.iconst 1) 1 44 := ⟨by decide +kernel, rfl⟩
theorem d_X12_pour_44 : gd cX12_pour 44 .iadd 1 45 := ⟨by decide +kernel, rfl⟩
theorem d_X12_pour_45 : gd cX12_pour 45 (.invokevirtual 308) 3 48 := ⟨by decide +kernel, rfl⟩
theorem d_X12_pour_48 : gd cX12_pour 48 (.bipush 10) 2 50 := ⟨by decide +kernel, rfl⟩
theorem d_X12_pour_50 : gd cX12_pour 50 (.aload_n 0) 1 51 := ⟨by decide +kernel, rfl⟩
theorem d_X12_pour_51 : gd cX12_pour 51 (.iload_n 1) 1 52 := ⟨by decide +kernel, rfl⟩
theorem d_X12_pour_52 : gd cX12_pour 52 (.iconst 1) 1 53 := ⟨by decide +kernel, rfl⟩
theorem d_X12_pour_53 : gd cX12_pour 53 (.invokevirtual 302) 3 56 := ⟨by decide +kernel, rfl⟩
theorem d_X12_pour_56 : gd cX12_pour 56 .imul 1 57 := ⟨by decide +kernel, rfl⟩
theorem d_X12_pour_57 : gd cX12_pour 57 (.if_icmp .le 6) 3 60 := ⟨by decide +kernel, rfl⟩
theorem d_X12_pour_60 : gd cX12_pour 60 (.iload 4) 2 62 := ⟨by decide +kernel, rfl⟩
theorem d_X12_pour_62 : gd cX12_pour 62 .ireturn 1 63 := ⟨by decide +kernel, rfl⟩
theorem d_X12_pour_63 : gd cX12_pour 63 (.aload_n 0) 1 64 := ⟨by decide +kernel, rfl⟩
theorem d_X12_pour_64 : gd cX12_pour 64 (.getfield 71) 3 67 := ⟨by decide +kernel, rfl⟩
theorem d_X12_pour_67 : gd cX12_pour 67 (.aload_n 0) 1 68 := ⟨by decide +kernel, rfl⟩
theorem d_X12_pour_68 : gd cX12_pour 68 (.iload_n 1) 1 69 := ⟨by decide +kernel, rfl⟩
theorem d_X12_pour_69 : gd cX12_pour 69 (.iload_n 2) 1 70 := ⟨by decide +kernel, rfl⟩
theorem d_X12_pour_70 : gd cX12_pour 70 (.invokevirtual 299) 3 73 := ⟨by decide +kernel, rfl⟩
theorem d_X12_pour_73 : gd cX12_pour 73 .dup2 1 74 := ⟨by decide +kernel, rfl⟩
theorem d_X12_pour_74 : gd cX12_pour 74 .iaload 1 75 := ⟨by decide +kernel, rfl⟩
theorem d_X12_pour_75 : gd cX12_pour 75 (.iconst 1) 1 76 := ⟨by decide +kernel, rfl⟩
theorem d_X12_pour_76 : gd cX12_pour 76 .iadd 1 77 := ⟨by decide +kernel, rfl⟩
theorem d_X12_pour_77 : gd cX12_pour 77 .iastore 1 78 := ⟨by decide +kernel, rfl⟩
theorem d_X12_pour_78 : gd cX12_pour 78 (.aload_n 0) 1 79 := ⟨by decide +kernel, rfl⟩
theorem d_X12_pour_79 : gd cX12_pour 79 (.iload_n 1) 1 80 := ⟨by decide +kernel, rfl⟩
theorem d_X12_pour_80 : gd cX12_pour 80 (.aload_n 0) 1 81 := ⟨by decide +kernel, rfl⟩
theorem d_X12_pour_81 : gd cX12_pour 81 (.invokevirtual 367) 3 84 := ⟨by decide +kernel, rfl⟩
theorem d_X12_pour_84 : gd cX12_pour 84 (.invokevirtual 349) 3 87 := ⟨by decide +kernel, rfl⟩
theorem d_X12_pour_87 : gd cX12_pour 87 (.iinc 4 1) 3 90 := ⟨by decide +kernel, rfl⟩
theorem d_X12_pour_90 : gd cX12_pour 90 (.goto (-61)) 3 93 := ⟨by decide +kernel, rfl⟩
theorem d_X12_pour_93 : gd cX12_pour 93 (.iload_n 3) 1 94 := ⟨by decide +kernel, rfl⟩
theorem d_X12_pour_94 : gd cX12_pour 94 .ireturn 1 95 := ⟨by decide +kernel, rfl⟩
def Bo_X12_pour_29 (q29 : Int32 → Int32 → Int32 → Int32 → gs_M → Option (Int32 × gs_M)) (x1 : Int32) (x2 : Int32) (x3 : Int32) (x4 : Int32) (μ : gs_M) : Option (Int32 × gs_M) :=
  if x3 ≤ x4 then (some (x3, μ)) else (bd (D_X12_units x1 x2 μ) (fun v4 u3 => bd (D_X12_tallBy x1 (v4 + (1 : Int32)) u3) (fun v7 u6 => bd (D_X12_of x1 (1 : Int32) u6) (fun v10 u9 => if v7 ≤ ((10 : Int32) * v10) then (bd (D_X12_placeIn x1 x2 u9) (fun v14 u13 => ck (inb v14 81) (ck (inb v14 81) (lt1 (sI u13 89 (Int32.toNatClampNeg v14) ((gI u13 89 (Int32.toNatClampNeg v14)) + (1 : Int32))) (fun u17 => bd (D_X12_lean u17) (fun v20 u19 => bd0 (D_X12_rests x1 v20 u19) (fun u22 => q29 x1 x2 x3 (x4 + (1 : Int32)) u22))))))) else (some (x4, u9))))))
def L_X12_pour_29  : Nat → Int32 → Int32 → Int32 → Int32 → gs_M → Option (Int32 × gs_M)
  | 0 => fun _ _ _ _ _ => none
  | n + 1 => fun x1 x2 x3 x4 μ => Bo_X12_pour_29  (L_X12_pour_29  n) x1 x2 x3 x4 μ
def D_X12_pour (x1 : Int32) (x2 : Int32) (x3 : Int32) (μ : gs_M) : Option (Int32 × gs_M) :=
  lt1 (sI μ 78 0 (0 : Int32)) (fun u1 => bd (D_X12_isColumn x1 x2 u1) (fun v4 u3 => if v4 = 0 then (some ((-1 : Int32), u3)) else (bd (D_X12_isIn x3 (1 : Int32) (99 : Int32) u3) (fun v8 u7 => if v8 = 0 then (some ((-1 : Int32), u7)) else (L_X12_pour_29 4096 x1 x2 x3 (0 : Int32) u7)))))
section S_X12_pour
variable {p : Program} {l : Launch} {e : Env} {R : Room} {s : State} {m : MethodId} {args : Array Value} {below : List Frame} {meth : Method} {c : Code} {ad : Nat → Nat} {g : va_G} {tyc : Nat → ClassId}
set_option maxRecDepth 20000 in
theorem To_X12_pour_29  (hK : KC p R s m args meth c ad g tyc RX12 cX12_pour 5 (some .int) 5) {r : Int32} {μ2 : gs_M} {q29 : Int32 → Int32 → Int32 → Int32 → gs_M → Option (Int32 × gs_M)} (hq29 : ∀ (x1 : Int32) (x2 : Int32) (x3 : Int32) (x4 : Int32) (μ : gs_M), q29 x1 x2 x3 x4 μ = some (r, μ2) → WJ p l e R s m args below meth c 0 0 (MQ below (gs_Q ad g tyc (some (.int r)) μ2) args s 0 0 (gs_A ad)) ad g tyc 5 29 [.ref 78, .int x1, .int x2, .int x3, .int x4] [] μ) {x1 : Int32} {x2 : Int32} {x3 : Int32} {x4 : Int32} {μ : gs_M}  (hD : Bo_X12_pour_29 q29 x1 x2 x3 x4 μ = some (r, μ2)) : WJ p l e R s m args below meth c 0 0 (MQ below (gs_Q ad g tyc (some (.int r)) μ2) args s 0 0 (gs_A ad)) ad g tyc 5 29 [.ref 78, .int x1, .int x2, .int x3, .int x4] [] μ := by
  unfold Bo_X12_pour_29 at hD
  refine r_iload hK d_X12_pour_29 rfl ?_
  refine r_iload_n hK d_X12_pour_31 rfl rfl ?_
  refine r_icmp_ge (tgt := 93) hK d_X12_pour_32 (by decide) (fun h1 => ?_) (fun h1 => ?_)
  · have hD := if_t hD h1
    refine r_iload_n hK d_X12_pour_93 rfl rfl ?_
    cases hD
    exact r_iret hK d_X12_pour_94
  · have hD := if_f hD h1
    refine r_aload_n hK d_X12_pour_35 rfl rfl ?_
    refine r_iload_n hK d_X12_pour_36 rfl rfl ?_
    refine r_aload_n hK d_X12_pour_37 rfl rfl ?_
    refine r_iload_n hK d_X12_pour_38 rfl rfl ?_
    refine r_iload_n hK d_X12_pour_39 rfl rfl ?_
    obtain ⟨v4, u3, e2, hD⟩ := bd_e hD
    refine r_callV (As := [.int x1, .int x2]) (st := [.int x1, .ref 78]) (stk2 := [.int v4, .int x1, .ref 78]) hK (C_X12_units  e2) d_X12_pour_40 mf_X12_units ml_RX12_305 im_X12_units rfl se_11_RX12_X12_units kd_78 rfl (Nat.le_of_ble_eq_true rfl) (by decide) ⟨Nat.zero_le _, Nat.zero_le _⟩ rfl rfl ?_
    refine r_iconst hK d_X12_pour_43 ci_1 ?_
    refine r_iadd hK d_X12_pour_44 ?_
    obtain ⟨v7, u6, e5, hD⟩ := bd_e hD
    refine r_callV (As := [.int x1, .int (v4 + (1 : Int32))]) (st := []) (stk2 := [.int v7]) hK (C_X12_tallBy  e5) d_X12_pour_45 mf_X12_tallBy ml_RX12_308 im_X12_tallBy rfl se_11_RX12_X12_tallBy kd_78 rfl (Nat.le_of_ble_eq_true rfl) (by decide) ⟨Nat.zero_le _, Nat.zero_le _⟩ rfl rfl ?_
    refine r_bipush hK d_X12_pour_48 cb_10 ?_
    refine r_aload_n hK d_X12_pour_50 rfl rfl ?_
    refine r_iload_n hK d_X12_pour_51 rfl rfl ?_
    refine r_iconst hK d_X12_pour_52 ci_1 ?_
    obtain ⟨v10, u9, e8, hD⟩ := bd_e hD
    refine r_callV (As := [.int x1, .int (1 : Int32)]) (st := [.int (10 : Int32), .int v7]) (stk2 := [.int v10, .int (10 : Int32), .int v7]) hK (C_X12_of  e8) d_X12_pour_53 mf_X12_of ml_RX12_302 im_X12_of rfl se_11_RX12_X12_of kd_78 rfl (Nat.le_of_ble_eq_true rfl) (by decide) ⟨Nat.zero_le _, Nat.zero_le _⟩ rfl rfl ?_
    refine r_imul hK d_X12_pour_56 ?_
    refine r_icmp_le (tgt := 63) hK d_X12_pour_57 (by decide) (fun h11 => ?_) (fun h11 => ?_)
    · have hD := if_t hD h11
      refine r_aload_n hK d_X12_pour_63 rfl rfl ?_
      refine r_getR hK d_X12_pour_64 fl_RX12_71_11 rfl kd_78 ?_
      refine r_ref (b := 89) R0_78_30 ?_
      refine r_aload_n hK d_X12_pour_67 rfl rfl ?_
      refine r_iload_n hK d_X12_pour_68 rfl rfl ?_
      refine r_iload_n hK d_X12_pour_69 rfl rfl ?_
      obtain ⟨v14, u13, e12, hD⟩ := bd_e hD
      refine r_callV (As := [.int x1, .int x2]) (st := [.ref 89]) (stk2 := [.int v14, .ref 89]) hK (C_X12_placeIn  e12) d_X12_pour_70 mf_X12_placeIn ml_RX12_299 im_X12_placeIn rfl se_11_RX12_X12_placeIn kd_78 rfl (Nat.le_of_ble_eq_true rfl) (by decide) ⟨Nat.zero_le _, Nat.zero_le _⟩ rfl rfl ?_
      refine r_dup2 hK d_X12_pour_73 rfl rfl ?_
      obtain ⟨h15, hD⟩ := ck_e hD
      refine r_iald hK d_X12_pour_74 kd_89 ln_89 (inb_in h15) ?_
      refine r_iconst hK d_X12_pour_75 ci_1 ?_
      refine r_iadd hK d_X12_pour_76 ?_
      obtain ⟨h16, hD⟩ := ck_e hD
      refine r_iast hK d_X12_pour_77 kd_89 ln_89 (inb_in h16) ?_
      refine r_ltm hD (fun u17 hD => ?_)
      refine r_aload_n hK d_X12_pour_78 rfl rfl ?_
      refine r_iload_n hK d_X12_pour_79 rfl rfl ?_
      refine r_aload_n hK d_X12_pour_80 rfl rfl ?_
      obtain ⟨v20, u19, e18, hD⟩ := bd_e hD
      refine r_callV (As := []) (st := [.int x1, .ref 78]) (stk2 := [.int v20, .int x1, .ref 78]) hK (C_X12_lean  e18) d_X12_pour_81 mf_X12_lean ml_RX12_367 im_X12_lean rfl se_11_RX12_X12_lean kd_78 rfl (Nat.le_of_ble_eq_true rfl) (by decide) ⟨Nat.zero_le _, Nat.zero_le _⟩ rfl rfl ?_
      obtain ⟨u22, e21, hD⟩ := bd0_e hD
      refine r_callV (As := [.int x1, .int v20]) (st := []) (stk2 := []) hK (C_X12_rests  e21) d_X12_pour_84 mf_X12_rests ml_RX12_349 im_X12_rests rfl se_11_RX12_X12_rests kd_78 rfl (Nat.le_of_ble_eq_true rfl) (by decide) ⟨Nat.zero_le _, Nat.zero_le _⟩ rfl rfl ?_
      refine r_iinc hK d_X12_pour_87 rfl (v := x4 + (1 : Int32)) (by rw [ci_1]) (by decide) (ls2 := [.ref 78, .int x1, .int x2, .int x3, .int (x4 + (1 : Int32))]) rfl ?_
      refine r_goto (tgt := 29) hK d_X12_pour_90 (by decide) ?_
      exact hq29 _ _ _ _ _  hD
    · have hD := if_f hD h11
      refine r_iload hK d_X12_pour_60 rfl ?_
      cases hD
      exact r_iret hK d_X12_pour_62
set_option maxRecDepth 20000 in
theorem TL_X12_pour_29  (hK : KC p R s m args meth c ad g tyc RX12 cX12_pour 5 (some .int) 5) {r : Int32} {μ2 : gs_M}   : ∀ (n : Nat) (x1 : Int32) (x2 : Int32) (x3 : Int32) (x4 : Int32) (μ : gs_M), L_X12_pour_29  n x1 x2 x3 x4 μ = some (r, μ2) → WJ p l e R s m args below meth c 0 0 (MQ below (gs_Q ad g tyc (some (.int r)) μ2) args s 0 0 (gs_A ad)) ad g tyc 5 29 [.ref 78, .int x1, .int x2, .int x3, .int x4] [] μ := by
  intro n
  induction n with
  | zero => intro x1 x2 x3 x4 μ  hD; cases hD
  | succ n ih => intro x1 x2 x3 x4 μ  hD; exact To_X12_pour_29 hK  ih  hD
set_option maxRecDepth 20000 in
theorem C_X12_pour  {x1 : Int32} {x2 : Int32} {x3 : Int32} {μ : gs_M} {r : Int32} {μ2 : gs_M}  (hD : D_X12_pour x1 x2 x3 μ = some (r, μ2)) : CALL yX12_pour cX12_pour 5 (some .int) 5 [.ref 78, .int x1, .int x2, .int x3] μ (some (.int r)) μ2 := by
  unfold D_X12_pour at hD
  refine gs_enter mf_X12_pour (Nat.le_of_ble_eq_true rfl) (ls := [.ref 78, .int x1, .int x2, .int x3, gs_J]) rfl (fun p l e R s m args below meth c ad g tyc hK => ?_)
  have hK : KC p R s m args meth c ad g tyc RX12 cX12_pour 5 (some .int) 5 := hK
  refine r_aload_n hK d_X12_pour_0 rfl rfl ?_
  refine r_iconst hK d_X12_pour_1 ci_0 ?_
  refine r_putI hK d_X12_pour_2 fl_RX12_98_11 rfl rfl kd_78 ?_
  refine r_ltm hD (fun u1 hD => ?_)
  refine r_aload_n hK d_X12_pour_5 rfl rfl ?_
  refine r_iload_n hK d_X12_pour_6 rfl rfl ?_
  refine r_iload_n hK d_X12_pour_7 rfl rfl ?_
  obtain ⟨v4, u3, e2, hD⟩ := bd_e hD
  refine r_callV (As := [.int x1, .int x2]) (st := []) (stk2 := [.int v4]) hK (C_X12_isColumn  e2) d_X12_pour_8 mf_X12_isColumn ml_RX12_455 im_X12_isColumn rfl se_11_RX12_X12_isColumn kd_78 rfl (Nat.le_of_ble_eq_true rfl) (by decide) ⟨Nat.zero_le _, Nat.zero_le _⟩ rfl rfl ?_
  refine r_if_eq (tgt := 24) hK d_X12_pour_11 (by decide) (fun h5 => ?_) (fun h5 => ?_)
  · have hD := if_t hD h5
    refine r_iconst hK d_X12_pour_24 ci_m1 ?_
    cases hD
    exact r_iret hK d_X12_pour_25
  · have hD := if_f hD h5
    refine r_iload_n hK d_X12_pour_14 rfl rfl ?_
    refine r_iconst hK d_X12_pour_15 ci_1 ?_
    refine r_bipush hK d_X12_pour_16 cb_99 ?_
    obtain ⟨v8, u7, e6, hD⟩ := bd_e hD
    refine r_callS (As := [.int x3, .int (1 : Int32), .int (99 : Int32)]) (st := []) (stk2 := [.int v8]) hK (C_X12_isIn  e6) d_X12_pour_18 mf_X12_isIn ml_RX12_217 ss_X12_isIn rfl (Nat.le_of_ble_eq_true rfl) (by decide) ⟨Nat.zero_le _, Nat.zero_le _⟩ rfl rfl ?_
    refine r_if_ne (tgt := 26) hK d_X12_pour_21 (by decide) (fun h9 => ?_) (fun h9 => ?_)
    · have hD := if_f hD h9
      refine r_iconst hK d_X12_pour_26 ci_0 ?_
      refine r_istore hK d_X12_pour_27 (by decide) (ls2 := [.ref 78, .int x1, .int x2, .int x3, .int (0 : Int32)]) rfl ?_
      exact TL_X12_pour_29 hK  _ _ _ _ _ _  hD
    · have hD := if_t hD h9
      refine r_iconst hK d_X12_pour_24 ci_m1 ?_
      cases hD
      exact r_iret hK d_X12_pour_25
end S_X12_pour
theorem d_X12_take_0 : gd cX12_take 0 (.aload_n 0) 1 1 := ⟨by decide +kernel, rfl⟩
theorem d_X12_take_1 : gd cX12_take 1 (.iconst 0) 1 2 := ⟨by decide +kernel, rfl⟩
theorem d_X12_take_2 : gd cX12_take 2 (.putfield 98) 3 5 := ⟨by decide +kernel, rfl⟩
theorem d_X12_take_5 : gd cX12_take 5 (.aload_n 0) 1 6 := ⟨by decide +kernel, rfl⟩
theorem d_X12_take_6 : gd cX12_take 6 (.iload_n 1) 1 7 := ⟨by decide +kernel, rfl⟩
theorem d_X12_take_7 : gd cX12_take 7 (.iload_n 2) 1 8 := ⟨by decide +kernel, rfl⟩
theorem d_X12_take_8 : gd cX12_take 8 (.invokevirtual 455) 3 11 := ⟨by decide +kernel, rfl⟩
theorem d_X12_take_11 : gd cX12_take 11 (.ifCond .eq 13) 3 14 := ⟨by decide +kernel, rfl⟩
theorem d_X12_take_14 : gd cX12_take 14 (.iload_n 3) 1 15 := ⟨by decide +kernel, rfl⟩
theorem d_X12_take_15 : gd cX12_take 15 (.iconst 1) 1 16 := ⟨by decide +kernel, rfl⟩
theorem d_X12_take_16 : gd cX12_take 16 (.bipush 99) 2 18 := ⟨by decide +kernel, rfl⟩
theorem d_X12_take_18 : gd cX12_take 18 (.invokestatic 217) 3 21 := ⟨by decide +kernel, rfl⟩
theorem d_X12_take_21 : gd cX12_take 21 (.ifCond .ne 5) 3 24 := ⟨by decide +kernel, rfl⟩
theorem d_X12_take_24 : gd cX12_take 24 (.iconst (-1)) 1 25 := ⟨by decide +kernel, rfl⟩
theorem d_X12_take_25 : gd cX12_take 25 .ireturn 1 26 := ⟨by decide +kernel, rfl⟩
theorem d_X12_take_26 : gd cX12_take 26 (.iload_n 3) 1 27 := ⟨by decide +kernel, rfl⟩
theorem d_X12_take_27 : gd cX12_take 27 (.aload_n 0) 1 28 := ⟨by decide +kernel, rfl⟩
theorem d_X12_take_28 : gd cX12_take 28 (.iload_n 1) 1 29 := ⟨by decide +kernel, rfl⟩
theorem d_X12_take_29 : gd cX12_take 29 (.iload_n 2) 1 30 := ⟨by decide +kernel, rfl⟩
theorem d_X12_take_30 : gd cX12_take 30 (.invokevirtual 305) 3 33 := ⟨by decide +kernel, rfl⟩
theorem d_X12_take_33 : gd cX12_take 33 (.invokestatic 314) 3 36 := ⟨by decide +kernel, rfl⟩
theorem d_X12_take_36 : gd cX12_take 36 (.istore 4) 2 38 := ⟨by decide +kernel, rfl⟩
theorem d_X12_take_38 : gd cX12_take 38 (.aload_n 0) 1 39 := ⟨by decide +kernel, rfl⟩
theorem d_X12_take_39 : gd cX12_take 39 (.getfield 71) 3 42 := ⟨by decide +kernel, rfl⟩
theorem d_X12_take_42 : gd cX12_take 42 (.aload_n 0) 1 43 := ⟨by decide +kernel, rfl⟩
theorem d_X12_take_43 : gd cX12_take 43 (.iload_n 1) 1 44 := ⟨by decide +kernel, rfl⟩
theorem d_X12_take_44 : gd cX12_take 44 (.iload_n 2) 1 45 := ⟨by decide +kernel, rfl⟩
theorem d_X12_take_45 : gd cX12_take 45 (.invokevirtual 299) 3 48 := ⟨by decide +kernel, rfl⟩
theorem d_X12_take_48 : gd cX12_take 48 .dup2 1 49 := ⟨by decide +kernel, rfl⟩
theorem d_X12_take_49 : gd cX12_take 49 .iaload 1 50 := ⟨by decide +kernel, rfl⟩
theorem d_X12_take_50 : gd cX12_take 50 (.iload 4) 2 52 := ⟨by decide +kernel, rfl⟩
theorem d_X12_take_52 : gd cX12_take 52 .isub 1 53 := ⟨by decide +kernel, rfl⟩
theorem d_X12_take_53 : gd cX12_take 53 .iastore 1 54 := ⟨by decide +kernel, rfl⟩
theorem d_X12_take_54 : gd cX12_take 54 (.aload_n 0) 1 55 := ⟨by decide +kernel, rfl⟩
theorem d_X12_take_55 : gd cX12_take 55 (.iload_n 1) 1 56 := ⟨by decide +kernel, rfl⟩
theorem d_X12_take_56 : gd cX12_take 56 (.aload_n 0) 1 57 := ⟨by decide +kernel, rfl⟩
theorem d_X12_take_57 : gd cX12_take 57 (.invokevirtual 367) 3 60 := ⟨by decide +kernel, rfl⟩
theorem d_X12_take_60 : gd cX12_take 60 (.invokevirtual 349) 3 63 := ⟨by decide +kernel, rfl⟩
theorem d_X12_take_63 : gd cX12_take 63 (.iload 4) 2 65 := ⟨by decide +kernel, rfl⟩
theorem d_X12_take_65 : gd cX12_take 65 .ireturn 1 66 := ⟨by decide +kernel, rfl⟩
def D_X12_take (x1 : Int32) (x2 : Int32) (x3 : Int32) (μ : gs_M) : Option (Int32 × gs_M) :=
  lt1 (sI μ 78 0 (0 : Int32)) (fun u1 => bd (D_X12_isColumn x1 x2 u1) (fun v4 u3 => if v4 = 0 then (some ((-1 : Int32), u3)) else (bd (D_X12_isIn x3 (1 : Int32) (99 : Int32) u3) (fun v8 u7 => if v8 = 0 then (some ((-1 : Int32), u7)) else (bd (D_X12_units x1 x2 u7) (fun v12 u11 => lt1 (if v12 < x3 then v12 else x3) (fun v13 => bd (D_X12_placeIn x1 x2 u11) (fun v16 u15 => ck (inb v16 81) (ck (inb v16 81) (lt1 (sI u15 89 (Int32.toNatClampNeg v16) ((gI u15 89 (Int32.toNatClampNeg v16)) - v13)) (fun u19 => bd (D_X12_lean u19) (fun v22 u21 => bd0 (D_X12_rests x1 v22 u21) (fun u24 => some (v13, u24))))))))))))))
section S_X12_take
variable {p : Program} {l : Launch} {e : Env} {R : Room} {s : State} {m : MethodId} {args : Array Value} {below : List Frame} {meth : Method} {c : Code} {ad : Nat → Nat} {g : va_G} {tyc : Nat → ClassId}
set_option maxRecDepth 20000 in
theorem C_X12_take  {x1 : Int32} {x2 : Int32} {x3 : Int32} {μ : gs_M} {r : Int32} {μ2 : gs_M}  (hD : D_X12_take x1 x2 x3 μ = some (r, μ2)) : CALL yX12_take cX12_take 5 (some .int) 5 [.ref 78, .int x1, .int x2, .int x3] μ (some (.int r)) μ2 := by
  unfold D_X12_take at hD
  refine gs_enter mf_X12_take (Nat.le_of_ble_eq_true rfl) (ls := [.ref 78, .int x1, .int x2, .int x3, gs_J]) rfl (fun p l e R s m args below meth c ad g tyc hK => ?_)
  have hK : KC p R s m args meth c ad g tyc RX12 cX12_take 5 (some .int) 5 := hK
  refine r_aload_n hK d_X12_take_0 rfl rfl ?_
  refine r_iconst hK d_X12_take_1 ci_0 ?_
  refine r_putI hK d_X12_take_2 fl_RX12_98_11 rfl rfl kd_78 ?_
  refine r_ltm hD (fun u1 hD => ?_)
  refine r_aload_n hK d_X12_take_5 rfl rfl ?_
  refine r_iload_n hK d_X12_take_6 rfl rfl ?_
  refine r_iload_n hK d_X12_take_7 rfl rfl ?_
  obtain ⟨v4, u3, e2, hD⟩ := bd_e hD
  refine r_callV (As := [.int x1, .int x2]) (st := []) (stk2 := [.int v4]) hK (C_X12_isColumn  e2) d_X12_take_8 mf_X12_isColumn ml_RX12_455 im_X12_isColumn rfl se_11_RX12_X12_isColumn kd_78 rfl (Nat.le_of_ble_eq_true rfl) (by decide) ⟨Nat.zero_le _, Nat.zero_le _⟩ rfl rfl ?_
  refine r_if_eq (tgt := 24) hK d_X12_take_11 (by decide) (fun h5 => ?_) (fun h5 => ?_)
  · have hD := if_t hD h5
    refine r_iconst hK d_X12_take_24 ci_m1 ?_
    cases hD
    exact r_iret hK d_X12_take_25
  · have hD := if_f hD h5
    refine r_iload_n hK d_X12_take_14 rfl rfl ?_
    refine r_iconst hK d_X12_take_15 ci_1 ?_
    refine r_bipush hK d_X12_take_16 cb_99 ?_
    obtain ⟨v8, u7, e6, hD⟩ := bd_e hD
    refine r_callS (As := [.int x3, .int (1 : Int32), .int (99 : Int32)]) (st := []) (stk2 := [.int v8]) hK (C_X12_isIn  e6) d_X12_take_18 mf_X12_isIn ml_RX12_217 ss_X12_isIn rfl (Nat.le_of_ble_eq_true rfl) (by decide) ⟨Nat.zero_le _, Nat.zero_le _⟩ rfl rfl ?_
    refine r_if_ne (tgt := 26) hK d_X12_take_21 (by decide) (fun h9 => ?_) (fun h9 => ?_)
    · have hD := if_f hD h9
      refine r_iload_n hK d_X12_take_26 rfl rfl ?_
      refine r_aload_n hK d_X12_take_27 rfl rfl ?_
      refine r_iload_n hK d_X12_take_28 rfl rfl ?_
      refine r_iload_n hK d_X12_take_29 rfl rfl ?_
      obtain ⟨v12, u11, e10, hD⟩ := bd_e hD
      refine r_callV (As := [.int x1, .int x2]) (st := [.int x3]) (stk2 := [.int v12, .int x3]) hK (C_X12_units  e10) d_X12_take_30 mf_X12_units ml_RX12_305 im_X12_units rfl se_11_RX12_X12_units kd_78 rfl (Nat.le_of_ble_eq_true rfl) (by decide) ⟨Nat.zero_le _, Nat.zero_le _⟩ rfl rfl ?_
      refine r_mmin hK d_X12_take_33 mm_RX12_314 ms_min mi_0 mc_min (Nat.le_of_ble_eq_true rfl) (by decide) ⟨Nat.zero_le _, Nat.zero_le _⟩ ?_
      refine r_lti hD (fun v13 hD => ?_)
      refine r_istore hK d_X12_take_36 (by decide) (ls2 := [.ref 78, .int x1, .int x2, .int x3, .int v13]) rfl ?_
      refine r_aload_n hK d_X12_take_38 rfl rfl ?_
      refine r_getR hK d_X12_take_39 fl_RX12_71_11 rfl kd_78 ?_
      refine r_ref (b := 89) R0_78_30 ?_
      refine r_aload_n hK d_X12_take_42 rfl rfl ?_
      refine r_iload_n hK d_X12_take_43 rfl rfl ?_
      refine r_iload_n hK d_X12_take_44 rfl rfl ?_
      obtain ⟨v16, u15, e14, hD⟩ := bd_e hD
      refine r_callV (As := [.int x1, .int x2]) (st := [.ref 89]) (stk2 := [.int v16, .ref 89]) hK (C_X12_placeIn  e14) d_X12_take_45 mf_X12_placeIn ml_RX12_299 im_X12_placeIn rfl se_11_RX12_X12_placeIn kd_78 rfl (Nat.le_of_ble_eq_true rfl) (by decide) ⟨Nat.zero_le _, Nat.zero_le _⟩ rfl rfl ?_
      refine r_dup2 hK d_X12_take_48 rfl rfl ?_
      obtain ⟨h17, hD⟩ := ck_e hD
      refine r_iald hK d_X12_take_49 kd_89 ln_89 (inb_in h17) ?_
      refine r_iload hK d_X12_take_50 rfl ?_
      refine r_isub hK d_X12_take_52 ?_
      obtain ⟨h18, hD⟩ := ck_e hD
      refine r_iast hK d_X12_take_53 kd_89 ln_89 (inb_in h18) ?_
      refine r_ltm hD (fun u19 hD => ?_)
      refine r_aload_n hK d_X12_take_54 rfl rfl ?_
      refine r_iload_n hK d_X12_take_55 rfl rfl ?_
      refine r_aload_n hK d_X12_take_56 rfl rfl ?_
      obtain ⟨v22, u21, e20, hD⟩ := bd_e hD
      refine r_callV (As := []) (st := [.int x1, .ref 78]) (stk2 := [.int v22, .int x1, .ref 78]) hK (C_X12_lean  e20) d_X12_take_57 mf_X12_lean ml_RX12_367 im_X12_lean rfl se_11_RX12_X12_lean kd_78 rfl (Nat.le_of_ble_eq_true rfl) (by decide) ⟨Nat.zero_le _, Nat.zero_le _⟩ rfl rfl ?_
      obtain ⟨u24, e23, hD⟩ := bd0_e hD
      refine r_callV (As := [.int x1, .int v22]) (st := []) (stk2 := []) hK (C_X12_rests  e23) d_X12_take_60 mf_X12_rests ml_RX12_349 im_X12_rests rfl se_11_RX12_X12_rests kd_78 rfl (Nat.le_of_ble_eq_true rfl) (by decide) ⟨Nat.zero_le _, Nat.zero_le _⟩ rfl rfl ?_
      refine r_iload hK d_X12_take_63 rfl ?_
      cases hD
      exact r_iret hK d_X12_take_65
    · have hD := if_t hD h9
      refine r_iconst hK d_X12_take_24 ci_m1 ?_
      cases hD
      exact r_iret hK d_X12_take_25
end S_X12_take
theorem d_X12_heel_0 : gd cX12_heel 0 (.aload_n 0) 1 1 := ⟨by decide +kernel, rfl⟩
theorem d_X12_heel_1 : gd cX12_heel 1 (.iconst 0) 1 2 := ⟨by decide +kernel, rfl⟩
theorem d_X12_heel_2 : gd cX12_heel 2 (.putfield 98) 3 5 := ⟨by decide +kernel, rfl⟩
theorem d_X12_heel_5 : gd cX12_heel 5 (.aload_n 0) 1 6 := ⟨by decide +kernel, rfl⟩
theorem d_X12_heel_6 : gd cX12_heel 6 (.invokevirtual 373) 3 9 := ⟨by decide +kernel, rfl⟩
theorem d_X12_heel_9 : gd cX12_heel 9 (.ifCond .eq 14) 3 12 := ⟨by decide +kernel, rfl⟩
theorem d_X12_heel_12 : gd cX12_heel 12 (.iload_n 1) 1 13 := ⟨by decide +kernel, rfl⟩
theorem d_X12_heel_13 : gd cX12_heel 13 (.bipush (-40)) 2 15 := ⟨by decide +kernel, rfl⟩
theorem d_X12_heel_15 : gd cX12_heel 15 (.bipush 40) 2 17 := ⟨by decide +kernel, rfl⟩
theorem d_X12_heel_17 : gd cX12_heel 17 (.invokestatic 217) 3 20 := ⟨by decide +kernel, rfl⟩
theorem d_X12_heel_20 : gd cX12_heel 20 (.ifCond .ne 5) 3 23 := ⟨by decide +kernel, rfl⟩
theorem d_X12_heel_23 : gd cX12_heel 23 (.iconst (-1)) 1 24 := ⟨by decide +kernel, rfl⟩
theorem d_X12_heel_24 : gd cX12_heel 24 .ireturn 1 25 := ⟨by decide +kernel, rfl⟩
theorem d_X12_heel_25 : gd cX12_heel 25 (.aload_n 0) 1 26 := ⟨by decide +kernel, rfl⟩
theorem d_X12_heel_26 : gd cX12_heel 26 (.iconst 0) 1 27 := ⟨by decide +kernel, rfl⟩
theorem d_X12_heel_27 : gd cX12_heel 27 (.putfield 322) 3 30 := ⟨by decide +kernel, rfl⟩
theorem d_X12_heel_30 : gd cX12_heel 30 (.aload_n 0) 1 31 := ⟨by decide +kernel, rfl⟩
theorem d_X12_heel_31 : gd cX12_heel 31 (.iconst 0) 1 32 := ⟨by decide +kernel, rfl⟩
theorem d_X12_heel_32 : gd cX12_heel 32 (.putfield 325) 3 35 := ⟨by decide +kernel, rfl⟩
theorem d_X12_heel_35 : gd cX12_heel 35 (.aload_n 0) 1 36 := ⟨by decide +kernel, rfl⟩
theorem d_X12_heel_36 : gd cX12_heel 36 (.invokevirtual 367) 3 39 := ⟨by decide +kernel, rfl⟩
theorem d_X12_heel_39 : gd cX12_heel 39 (.iload_n 1) 1 40 := ⟨by decide +kernel, rfl⟩
theorem d_X12_heel_40 : gd cX12_heel 40 .iadd 1 41 := ⟨by decide +kernel, rfl⟩
theorem d_X12_heel_41 : gd cX12_heel 41 (.istore_n 2) 1 42 := ⟨by decide +kernel, rfl⟩
theorem d_X12_heel_42 : gd cX12_heel 42 (.iconst 0) 1 43 := ⟨by decide +kernel, rfl⟩
theorem d_X12_heel_43 : gd cX12_heel 43 (.istore_n 3) 1 44 := ⟨by decide +kernel, rfl⟩
theorem d_X12_heel_44 : gd cX12_heel 44 (.iload_n 3) 1 45 := ⟨by decide +kernel, rfl⟩
theorem d_X12_heel_45 : gd cX12_heel 45 (.aload_n 0) 1 46 := ⟨by decide +kernel, rfl⟩
theorem d_X12_heel_46 : gd cX12_heel 46 (.bipush 76) 2 48 := ⟨by decide +kernel, rfl⟩
theorem d_X12_heel_48 : gd cX12_heel 48 (.invokevirtual 337) 3 51 := ⟨by decide +kernel, rfl⟩
theorem d_X12_heel_51 : gd cX12_heel 51 (.if_icmp .ge 15) 3 54 := ⟨by decide +kernel, rfl⟩
theorem d_X12_heel_54 : gd cX12_heel 54 (.aload_n 0) 1 55 := ⟨by decide +kernel, rfl⟩
theorem d_X12_heel_55 : gd cX12_heel 55 (.iload_n 3) 1 56 := ⟨by decide +kernel, rfl⟩
theorem d_X12_heel_56 : gd cX12_heel 56 (.iload_n 2) 1 57 := ⟨by decide +kernel, rfl⟩
theorem d_X12_heel_57 : gd cX12_heel 57 (.invokevirtual 349) 3 60 := ⟨by decide +kernel, rfl⟩
theorem d_X12_heel_60 : gd cX12_heel 60 (.iinc 3 1) 3 63 := ⟨by decide +kernel, rfl⟩
theorem d_X12_heel_63 : gd cX12_heel 63 (.goto (-19)) 3 66 := ⟨by decide +kernel, rfl⟩
theorem d_X12_heel_66 : gd cX12_heel 66 (.aload_n 0) 1 67 := ⟨by decide +kernel, rfl⟩
theorem d_X12_heel_67 : gd cX12_heel 67 (.getfield 71) 3 70 := ⟨by decide +kernel, rfl⟩
theorem d_X12_heel_70 : gd cX12_heel 70 (.bipush 79) 2 72 := ⟨by decide +kernel, rfl⟩
theorem d_X12_heel_72 : gd cX12_heel 72 (.aload_n 0) 1 73 := ⟨by decide +kernel, rfl⟩
theorem d_X12_heel_73 : gd cX12_heel 73 (.invokevirtual 367) 3 76 := ⟨by decide +kernel, rfl⟩
theorem d_X12_heel_76 : gd cX12_heel 76 (.invokestatic 370) 3 79 := ⟨by decide +kernel, rfl⟩
theorem d_X12_heel_79 : gd cX12_heel 79 (.aload_n 0) 1 80 := ⟨by decide +kernel, rfl⟩
theorem d_X12_heel_80 : gd cX12_heel 80 (.getfield 68) 3 83 := ⟨by decide +kernel, rfl⟩
theorem d_X12_heel_83 : gd cX12_heel 83 (.if_icmp .lt 7) 3 86 := ⟨by decide +kernel, rfl⟩
theorem d_X12_heel_86 : gd cX12_heel 86 (.iconst 1) 1 87 := ⟨by decide +kernel, rfl⟩
theorem d_X12_heel_87 : gd cX12_heel 87 (.goto 4) 3 90 := ⟨by decide +kernel, rfl⟩
theorem d_X12_heel_90 : gd cX12_heel 90 (.iconst 0) 1 91 := ⟨by decide +kernel, rfl⟩
theorem d_X12_heel_91 : gd cX12_heel 91 .iastore 1 92 := ⟨by decide +kernel, rfl⟩
theorem d_X12_heel_92 : gd cX12_heel 92 (.aload_n 0) 1 93 := ⟨by decide +kernel, rfl⟩
theorem d_X12_heel_93 : gd cX12_heel 93 (.getfield 322) 3 96 := ⟨by decide +kernel, rfl⟩
theorem d_X12_heel_96 : gd cX12_heel 96 (.aload_n 0) 1 97 := ⟨by decide +kernel, rfl⟩
theorem d_X12_heel_97 : gd cX12_heel 97 (.getfield 325) 3 100 := ⟨by decide +kernel, rfl⟩
theorem d_X12_heel_100 : gd cX12_heel 100 .iadd 1 101 := ⟨by decide +kernel, rfl⟩
theorem d_X12_heel_101 : gd cX12_heel 101 .ireturn 1 102 := ⟨by decide +kernel, rfl⟩
def B_X12_heel_91  (xs1 : Int32) (xs2 : Int32) (μ : gs_M) : Option (Int32 × gs_M) :=
  ck (inb xs1 81) (lt1 (sI μ 89 (Int32.toNatClampNeg xs1) xs2) (fun u2 => some ((gI u2 78 37) + (gI u2 78 38), u2)))
def Bo_X12_heel_44 (q44 : Int32 → Int32 → gs_M → Option (Int32 × gs_M)) (x2 : Int32) (x3 : Int32) (μ : gs_M) : Option (Int32 × gs_M) :=
  bd (D_X12_now (76 : Int32) μ) (fun v3 u2 => if v3 ≤ x3 then (bd (D_X12_lean u2) (fun v7 u6 => lt1 (if 0 ≤ v7 then v7 else 0 - v7) (fun v8 => if v8 < (gI u6 78 29) then (B_X12_heel_91 (79 : Int32) (0 : Int32) u6) else (B_X12_heel_91 (79 : Int32) (1 : Int32) u6)))) else (bd0 (D_X12_rests x3 x2 u2) (fun u11 => q44 x2 (x3 + (1 : Int32)) u11)))
def L_X12_heel_44  : Nat → Int32 → Int32 → gs_M → Option (Int32 × gs_M)
  | 0 => fun _ _ _ => none
  | n + 1 => fun x2 x3 μ => Bo_X12_heel_44  (L_X12_heel_44  n) x2 x3 μ
def D_X12_heel (x1 : Int32) (μ : gs_M) : Option (Int32 × gs_M) :=
  lt1 (sI μ 78 0 (0 : Int32)) (fun u1 => bd (D_X12_isAfloat u1) (fun v4 u3 => if v4 = 0 then (some ((-1 : Int32), u3)) else (bd (D_X12_isIn x1 (-40 : Int32) (40 : Int32) u3) (fun v8 u7 => if v8 = 0 then (some ((-1 : Int32), u7)) else (lt1 (sI u7 78 37 (0 : Int32)) (fun u10 => lt1 (sI u10 78 38 (0 : Int32)) (fun u11 => bd (D_X12_lean u11) (fun v14 u13 => lt1 (v14 + x1) (fun v15 => L_X12_heel_44 4096 v15 (0 : Int32) u13)))))))))
section S_X12_heel
variable {p : Program} {l : Launch} {e : Env} {R : Room} {s : State} {m : MethodId} {args : Array Value} {below : List Frame} {meth : Method} {c : Code} {ad : Nat → Nat} {g : va_G} {tyc : Nat → ClassId}
set_option maxRecDepth 20000 in
theorem T_X12_heel_91  (hK : KC p R s m args meth c ad g tyc RX12 cX12_heel 4 (some .int) 5) {r : Int32} {μ2 : gs_M}   {xs1 : Int32} {xs2 : Int32} {μ : gs_M}  (hD : B_X12_heel_91  xs1 xs2 μ = some (r, μ2)) : WJ p l e R s m args below meth c 0 0 (MQ below (gs_Q ad g tyc (some (.int r)) μ2) args s 0 0 (gs_A ad)) ad g tyc 4 91 [.ref 78, gs_J, gs_J, gs_J] [.int xs2, .int xs1, .ref 89] μ := by
  unfold B_X12_heel_91 at hD
  obtain ⟨h1, hD⟩ := ck_e hD
  refine r_iast hK d_X12_heel_91 kd_89 ln_89 (inb_in h1) ?_
  refine r_ltm hD (fun u2 hD => ?_)
  refine r_aload_n hK d_X12_heel_92 rfl rfl ?_
  refine r_getI hK d_X12_heel_93 fl_RX12_322_11 rfl kd_78 ?_
  refine r_aload_n hK d_X12_heel_96 rfl rfl ?_
  refine r_getI hK d_X12_heel_97 fl_RX12_325_11 rfl kd_78 ?_
  refine r_iadd hK d_X12_heel_100 ?_
  cases hD
  exact r_iret hK d_X12_heel_101
set_option maxRecDepth 20000 in
theorem To_X12_heel_44  (hK : KC p R s m args meth c ad g tyc RX12 cX12_heel 4 (some .int) 5) {r : Int32} {μ2 : gs_M} {q44 : Int32 → Int32 → gs_M → Option (Int32 × gs_M)} (hq44 : ∀ (x2 : Int32) (x3 : Int32) (μ : gs_M), q44 x2 x3 μ = some (r, μ2) → WJ p l e R s m args below meth c 0 0 (MQ below (gs_Q ad g tyc (some (.int r)) μ2) args s 0 0 (gs_A ad)) ad g tyc 4 44 [.ref 78, gs_J, .int x2, .int x3] [] μ) {x2 : Int32} {x3 : Int32} {μ : gs_M}  (hD : Bo_X12_heel_44 q44 x2 x3 μ = some (r, μ2)) : WJ p l e R s m args below meth c 0 0 (MQ below (gs_Q ad g tyc (some (.int r)) μ2) args s 0 0 (gs_A ad)) ad g tyc 4 44 [.ref 78, gs_J, .int x2, .int x3] [] μ := by
  unfold Bo_X12_heel_44 at hD
  refine r_iload_n hK d_X12_heel_44 rfl rfl ?_
  refine r_aload_n hK d_X12_heel_45 rfl rfl ?_
  refine r_bipush hK d_X12_heel_46 cb_76 ?_
  obtain ⟨v3, u2, e1, hD⟩ := bd_e hD
  refine r_callV (As := [.int (76 : Int32)]) (st := [.int x3]) (stk2 := [.int v3, .int x3]) hK (C_X12_now  e1) d_X12_heel_48 mf_X12_now ml_RX12_337 im_X12_now rfl se_11_RX12_X12_now kd_78 rfl (Nat.le_of_ble_eq_true rfl) (by decide) ⟨Nat.zero_le _, Nat.zero_le _⟩ rfl rfl ?_
  refine r_icmp_ge (tgt := 66) hK d_X12_heel_51 (by decide) (fun h4 => ?_) (fun h4 => ?_)
  · have hD := if_t hD h4
    refine r_aload_n hK d_X12_heel_66 rfl rfl ?_
    refine r_getR hK d_X12_heel_67 fl_RX12_71_11 rfl kd_78 ?_
    refine r_ref (b := 89) R0_78_30 ?_
    refine r_bipush hK d_X12_heel_70 cb_79 ?_
    refine r_aload_n hK d_X12_heel_72 rfl rfl ?_
    obtain ⟨v7, u6, e5, hD⟩ := bd_e hD
    refine r_callV (As := []) (st := [.int (79 : Int32), .ref 89]) (stk2 := [.int v7, .int (79 : Int32), .ref 89]) hK (C_X12_lean  e5) d_X12_heel_73 mf_X12_lean ml_RX12_367 im_X12_lean rfl se_11_RX12_X12_lean kd_78 rfl (Nat.le_of_ble_eq_true rfl) (by decide) ⟨Nat.zero_le _, Nat.zero_le _⟩ rfl rfl ?_
    refine r_mabs hK d_X12_heel_76 mm_RX12_370 ms_abs mi_0 mc_abs (Nat.le_of_ble_eq_true rfl) (by decide) ⟨Nat.zero_le _, Nat.zero_le _⟩ ?_
    refine r_lti hD (fun v8 hD => ?_)
    refine r_aload_n hK d_X12_heel_79 rfl rfl ?_
    refine r_getI hK d_X12_heel_80 fl_RX12_68_11 rfl kd_78 ?_
    refine r_icmp_lt (tgt := 90) hK d_X12_heel_83 (by decide) (fun h9 => ?_) (fun h9 => ?_)
    · have hD := if_t hD h9
      refine r_iconst hK d_X12_heel_90 ci_0 ?_
      refine r_junk [true, false, false, false] (ls2 := [.ref 78, gs_J, gs_J, gs_J]) rfl ?_
      exact T_X12_heel_91 hK   hD
    · have hD := if_f hD h9
      refine r_iconst hK d_X12_heel_86 ci_1 ?_
      refine r_goto (tgt := 91) hK d_X12_heel_87 (by decide) ?_
      refine r_junk [true, false, false, false] (ls2 := [.ref 78, gs_J, gs_J, gs_J]) rfl ?_
      exact T_X12_heel_91 hK   hD
  · have hD := if_f hD h4
    refine r_aload_n hK d_X12_heel_54 rfl rfl ?_
    refine r_iload_n hK d_X12_heel_55 rfl rfl ?_
    refine r_iload_n hK d_X12_heel_56 rfl rfl ?_
    obtain ⟨u11, e10, hD⟩ := bd0_e hD
    refine r_callV (As := [.int x3, .int x2]) (st := []) (stk2 := []) hK (C_X12_rests  e10) d_X12_heel_57 mf_X12_rests ml_RX12_349 im_X12_rests rfl se_11_RX12_X12_rests kd_78 rfl (Nat.le_of_ble_eq_true rfl) (by decide) ⟨Nat.zero_le _, Nat.zero_le _⟩ rfl rfl ?_
    refine r_iinc hK d_X12_heel_60 rfl (v := x3 + (1 : Int32)) (by rw [ci_1]) (by decide) (ls2 := [.ref 78, gs_J, .int x2, .int (x3 + (1 : Int32))]) rfl ?_
    refine r_goto (tgt := 44) hK d_X12_heel_63 (by decide) ?_
    exact hq44 _ _ _  hD
set_option maxRecDepth 20000 in
theorem TL_X12_heel_44  (hK : KC p R s m args meth c ad g tyc RX12 cX12_heel 4 (some .int) 5) {r : Int32} {μ2 : gs_M}   : ∀ (n : Nat) (x2 : Int32) (x3 : Int32) (μ : gs_M), L_X12_heel_44  n x2 x3 μ = some (r, μ2) → WJ p l e R s m args below meth c 0 0 (MQ below (gs_Q ad g tyc (some (.int r)) μ2) args s 0 0 (gs_A ad)) ad g tyc 4 44 [.ref 78, gs_J, .int x2, .int x3] [] μ := by
  intro n
  induction n with
  | zero => intro x2 x3 μ  hD; cases hD
  | succ n ih => intro x2 x3 μ  hD; exact To_X12_heel_44 hK  ih  hD
set_option maxRecDepth 20000 in
theorem C_X12_heel  {x1 : Int32} {μ : gs_M} {r : Int32} {μ2 : gs_M}  (hD : D_X12_heel x1 μ = some (r, μ2)) : CALL yX12_heel cX12_heel 4 (some .int) 5 [.ref 78, .int x1] μ (some (.int r)) μ2 := by
  unfold D_X12_heel at hD
  refine gs_enter mf_X12_heel (Nat.le_of_ble_eq_true rfl) (ls := [.ref 78, .int x1, gs_J, gs_J]) rfl (fun p l e R s m args below meth c ad g tyc hK => ?_)
  have hK : KC p R s m args meth c ad g tyc RX12 cX12_heel 4 (some .int) 5 := hK
  refine r_aload_n hK d_X12_heel_0 rfl rfl ?_
  refine r_iconst hK d_X12_heel_1 ci_0 ?_
  refine r_putI hK d_X12_heel_2 fl_RX12_98_11 rfl rfl kd_78 ?_
  refine r_ltm hD (fun u1 hD => ?_)
  refine r_aload_n hK d_X12_heel_5 rfl rfl ?_
  obtain ⟨v4, u3, e2, hD⟩ := bd_e hD
  refine r_callV (As := []) (st := []) (stk2 := [.int v4]) hK (C_X12_isAfloat  e2) d_X12_heel_6 mf_X12_isAfloat ml_RX12_373 im_X12_isAfloat rfl se_11_RX12_X12_isAfloat kd_78 rfl (Nat.le_of_ble_eq_true rfl) (by decide) ⟨Nat.zero_le _, Nat.zero_le _⟩ rfl rfl ?_
  refine r_if_eq (tgt := 23) hK d_X12_heel_9 (by decide) (fun h5 => ?_) (fun h5 => ?_)
  · have hD := if_t hD h5
    refine r_iconst hK d_X12_heel_23 ci_m1 ?_
    cases hD
    exact r_iret hK d_X12_heel_24
  · have hD := if_f hD h5
    refine r_iload_n hK d_X12_heel_12 rfl rfl ?_
    refine r_bipush hK d_X12_heel_13 cb_m40 ?_
    refine r_bipush hK d_X12_heel_15 cb_40 ?_
    obtain ⟨v8, u7, e6, hD⟩ := bd_e hD
    refine r_callS (As := [.int x1, .int (-40 : Int32), .int (40 : Int32)]) (st := []) (stk2 := [.int v8]) hK (C_X12_isIn  e6) d_X12_heel_17 mf_X12_isIn ml_RX12_217 ss_X12_isIn rfl (Nat.le_of_ble_eq_true rfl) (by decide) ⟨Nat.zero_le _, Nat.zero_le _⟩ rfl rfl ?_
    refine r_if_ne (tgt := 25) hK d_X12_heel_20 (by decide) (fun h9 => ?_) (fun h9 => ?_)
    · have hD := if_f hD h9
      refine r_aload_n hK d_X12_heel_25 rfl rfl ?_
      refine r_iconst hK d_X12_heel_26 ci_0 ?_
      refine r_putI hK d_X12_heel_27 fl_RX12_322_11 rfl rfl kd_78 ?_
      refine r_ltm hD (fun u10 hD => ?_)
      refine r_aload_n hK d_X12_heel_30 rfl rfl ?_
      refine r_iconst hK d_X12_heel_31 ci_0 ?_
      refine r_putI hK d_X12_heel_32 fl_RX12_325_11 rfl rfl kd_78 ?_
      refine r_ltm hD (fun u11 hD => ?_)
      refine r_aload_n hK d_X12_heel_35 rfl rfl ?_
      obtain ⟨v14, u13, e12, hD⟩ := bd_e hD
      refine r_callV (As := []) (st := []) (stk2 := [.int v14]) hK (C_X12_lean  e12) d_X12_heel_36 mf_X12_lean ml_RX12_367 im_X12_lean rfl se_11_RX12_X12_lean kd_78 rfl (Nat.le_of_ble_eq_true rfl) (by decide) ⟨Nat.zero_le _, Nat.zero_le _⟩ rfl rfl ?_
      refine r_iload_n hK d_X12_heel_39 rfl rfl ?_
      refine r_iadd hK d_X12_heel_40 ?_
      refine r_lti hD (fun v15 hD => ?_)
      refine r_istore_n hK d_X12_heel_41 rfl (by decide) (ls2 := [.ref 78, .int x1, .int v15, gs_J]) rfl ?_
      refine r_iconst hK d_X12_heel_42 ci_0 ?_
      refine r_istore_n hK d_X12_heel_43 rfl (by decide) (ls2 := [.ref 78, .int x1, .int v15, .int (0 : Int32)]) rfl ?_
      refine r_junk [true, false, true, true] (ls2 := [.ref 78, gs_J, .int v15, .int (0 : Int32)]) rfl ?_
      exact TL_X12_heel_44 hK  _ _ _ _  hD
    · have hD := if_t hD h9
      refine r_iconst hK d_X12_heel_23 ci_m1 ?_
      cases hD
      exact r_iret hK d_X12_heel_24
end S_X12_heel
theorem d_X12_tilt_0 : gd cX12_tilt 0 (.aload_n 0) 1 1 := ⟨by decide +kernel, rfl⟩
theorem d_X12_tilt_1 : gd cX12_tilt 1 (.iconst 0) 1 2 := ⟨by decide +kernel, rfl⟩
theorem d_X12_tilt_2 : gd cX12_tilt 2 (.putfield 98) 3 5 := ⟨by decide +kernel, rfl⟩
theorem d_X12_tilt_5 : gd cX12_tilt 5 (.aload_n 0) 1 6 := ⟨by decide +kernel, rfl⟩
theorem d_X12_tilt_6 : gd cX12_tilt 6 (.iload_n 1) 1 7 := ⟨by decide +kernel, rfl⟩
theorem d_X12_tilt_7 : gd cX12_tilt 7 (.invokevirtual 277) 3 10 := ⟨by decide +kernel, rfl⟩
theorem d_X12_tilt_10 : gd cX12_tilt 10 (.ifCond .eq 29) 3 13 := ⟨by decide +kernel, rfl⟩
theorem d_X12_tilt_13 : gd cX12_tilt 13 (.iload_n 2) 1 14 := ⟨by decide +kernel, rfl⟩
theorem d_X12_tilt_14 : gd cX12_tilt 14 (.iconst 2) 1 15 := ⟨by decide +kernel, rfl⟩
theorem d_X12_tilt_15 : gd cX12_tilt 15 (.bipush 12) 2 17 := ⟨by decide +kernel, rfl⟩
theorem d_X12_tilt_17 : gd cX12_tilt 17 (.invokestatic 217) 3 20 := ⟨by decide +kernel, rfl⟩
theorem d_X12_tilt_20 : gd cX12_tilt 20 (.ifCond .eq 19) 3 23 := ⟨by decide +kernel, rfl⟩
theorem d_X12_tilt_23 : gd cX12_tilt 23 (.iload_n 3) 1 24 := ⟨by decide +kernel, rfl⟩
theorem d_X12_tilt_24 : gd cX12_tilt 24 (.iconst 1) 1 25 := ⟨by decide +kernel, rfl⟩
theorem d_X12_tilt_25 : gd cX12_tilt 25 (.bipush 40) 2 27 := ⟨by decide +kernel, rfl⟩
theorem d_X12_tilt_27 : gd cX12_tilt 27 (.invokestatic 217) 3 30 := ⟨by decide +kernel, rfl⟩
theorem d_X12_tilt_30 : gd cX12_tilt 30 (.ifCond .eq 9) 3 33 := ⟨by decide +kernel, rfl⟩
theorem d_X12_tilt_33 : gd cX12_tilt 33 (.iload_n 3) 1 34 := ⟨by decide +kernel, rfl⟩
theorem d_X12_tilt_34 : gd cX12_tilt 34 (.bipush 40) 2 36 := ⟨by decide +kernel, rfl⟩
theorem d_X12_tilt_36 : gd cX12_tilt 36 (.if_icmp .ne 5) 3 39 := ⟨by decide +kernel, rfl⟩
theorem d_X12_tilt_39 : gd cX12_tilt 39 (.iconst (-1)) 1 40 := ⟨by decide +kernel, rfl⟩
theorem d_X12_tilt_40 : gd cX12_tilt 40 .ireturn 1 41 := ⟨by decide +kernel, rfl⟩
theorem d_X12_tilt_41 : gd cX12_tilt 41 (.iconst 0) 1 42 := ⟨by decide +kernel, rfl⟩
theorem d_X12_tilt_42 : gd cX12_tilt 42 (.istore 4) 2 44 := ⟨by decide +kernel, rfl⟩
theorem d_X12_tilt_44 : gd cX12_tilt 44 (.iload 4) 2 46 := ⟨by decide +kernel, rfl⟩
theorem d_X12_tilt_46 : gd cX12_tilt 46 (.bipush 60) 2 48 := ⟨by decide +kernel, rfl⟩
theorem d_X12_tilt_48 : gd cX12_tilt 48 (.if_icmp .gt 32) 3 51 := ⟨by decide +kernel, rfl⟩
theorem d_X12_tilt_51 : gd cX12_tilt 51 (.bipush 10) 2 53 := ⟨by decide +kernel, rfl⟩
theorem d_X12_tilt_53 : gd cX12_tilt 53 (.iload 4) 2 55 := ⟨by decide +kernel, rfl⟩
theorem d_X12_tilt_55 : gd cX12_tilt 55 .imul 1 56 := ⟨by decide +kernel, rfl⟩
theorem d_X12_tilt_56 : gd cX12_tilt 56 (.bipush 10) 2 58 := ⟨by decide +kernel, rfl⟩
theorem d_X12_tilt_58 : gd cX12_tilt 58 (.aload_n 0) 1 59 := ⟨by decide +kernel, rfl⟩
theorem d_X12_tilt_59 : gd cX12_tilt 59 (.iload_n 1) 1 60 := ⟨by decide +kernel, rfl⟩
theorem d_X12_tilt_60 : gd cX12_tilt 60 (.iconst 0) 1 61 := ⟨by decide +kernel, rfl⟩
theorem d_X12_tilt_61 : gd cX12_tilt 61 (.invokevirtual 280) 3 64 := ⟨by decide +kernel, rfl⟩
theorem d_X12_tilt_64 : gd cX12_tilt 64 .imul 1 65 := ⟨by decide +kernel, rfl⟩
theorem d_X12_tilt_65 : gd cX12_tilt 65 .isub 1 66 := ⟨by decide +kernel, rfl⟩
theorem d_X12_tilt_66 : gd cX12_tilt 66 (.bipush 20) 2 68 := ⟨by decide +kernel, rfl⟩
theorem d_X12_tilt_68 : gd cX12_tilt 68 (.if_icmp .lt 6) 3 71 := ⟨by decide +kernel, rfl⟩
theorem d_X12_tilt_71 : gd cX12_tilt 71 (.iload 4) 2 73 := ⟨by decide +kernel, rfl⟩
theorem d_X12_tilt_73 : gd cX12_tilt 73 .ireturn 1 74 := ⟨by decide +kernel, rfl⟩
theorem d_X12_tilt_74 : gd cX12_tilt 74 (.iinc 4 1) 3 77 := ⟨by decide +kernel, rfl⟩
theorem d_X12_tilt_77 : gd cX12_tilt 77 (.goto (-33)) 3 80 := ⟨by decide +kernel, rfl⟩
theorem d_X12_tilt_80 : gd cX12_tilt 80 (.iconst (-1)) 1 81 := ⟨by decide +kernel, rfl⟩
theorem d_X12_tilt_81 : gd cX12_tilt 81 .ireturn 1 82 := ⟨by decide +kernel, rfl⟩
def Bo_X12_tilt_44 (q44 : Int32 → Int32 → gs_M → Option (Int32 × gs_M)) (x1 : Int32) (x4 : Int32) (μ : gs_M) : Option (Int32 × gs_M) :=
  if (60 : Int32) < x4 then (some ((-1 : Int32), μ)) else (bd (D_X12_partOf x1 (0 : Int32) μ) (fun v4 u3 => if (((10 : Int32) * x4) - ((10 : Int32) * v4)) < (20 : Int32) then (q44 x1 (x4 + (1 : Int32)) u3) else (some (x4, u3))))
def L_X12_tilt_44  : Nat → Int32 → Int32 → gs_M → Option (Int32 × gs_M)
  | 0 => fun _ _ _ => none
  | n + 1 => fun x1 x4 μ => Bo_X12_tilt_44  (L_X12_tilt_44  n) x1 x4 μ
def D_X12_tilt (x1 : Int32) (x2 : Int32) (x3 : Int32) (μ : gs_M) : Option (Int32 × gs_M) :=
  lt1 (sI μ 78 0 (0 : Int32)) (fun u1 => bd (D_X12_isStuff x1 u1) (fun v4 u3 => if v4 = 0 then (some ((-1 : Int32), u3)) else (bd (D_X12_isIn x2 (2 : Int32) (12 : Int32) u3) (fun v8 u7 => if v8 = 0 then (some ((-1 : Int32), u7)) else (bd (D_X12_isIn x3 (1 : Int32) (40 : Int32) u7) (fun v12 u11 => if v12 = 0 then (some ((-1 : Int32), u11)) else (if x3 = (40 : Int32) then (some ((-1 : Int32), u11)) else (L_X12_tilt_44 4096 x1 (0 : Int32) u11))))))))
section S_X12_tilt
variable {p : Program} {l : Launch} {e : Env} {R : Room} {s : State} {m : MethodId} {args : Array Value} {below : List Frame} {meth : Method} {c : Code} {ad : Nat → Nat} {g : va_G} {tyc : Nat → ClassId}
set_option maxRecDepth 20000 in
theorem To_X12_tilt_44  (hK : KC p R s m args meth c ad g tyc RX12 cX12_tilt 5 (some .int) 1) {r : Int32} {μ2 : gs_M} {q44 : Int32 → Int32 → gs_M → Option (Int32 × gs_M)} (hq44 : ∀ (x1 : Int32) (x4 : Int32) (μ : gs_M), q44 x1 x4 μ = some (r, μ2) → WJ p l e R s m args below meth c 0 0 (MQ below (gs_Q ad g tyc (some (.int r)) μ2) args s 0 0 (gs_A ad)) ad g tyc 5 44 [.ref 78, .int x1, gs_J, gs_J, .int x4] [] μ) {x1 : Int32} {x4 : Int32} {μ : gs_M}  (hD : Bo_X12_tilt_44 q44 x1 x4 μ = some (r, μ2)) : WJ p l e R s m args below meth c 0 0 (MQ below (gs_Q ad g tyc (some (.int r)) μ2) args s 0 0 (gs_A ad)) ad g tyc 5 44 [.ref 78, .int x1, gs_J, gs_J, .int x4] [] μ := by
  unfold Bo_X12_tilt_44 at hD
  refine r_iload hK d_X12_tilt_44 rfl ?_
  refine r_bipush hK d_X12_tilt_46 cb_60 ?_
  refine r_icmp_gt (tgt := 80) hK d_X12_tilt_48 (by decide) (fun h1 => ?_) (fun h1 => ?_)
  · have hD := if_t hD h1
    refine r_iconst hK d_X12_tilt_80 ci_m1 ?_
    cases hD
    exact r_iret hK d_X12_tilt_81
  · have hD := if_f hD h1
    refine r_bipush hK d_X12_tilt_51 cb_10 ?_
    refine r_iload hK d_X12_tilt_53 rfl ?_
    refine r_imul hK d_X12_tilt_55 ?_
    refine r_bipush hK d_X12_tilt_56 cb_10 ?_
    refine r_aload_n hK d_X12_tilt_58 rfl rfl ?_
    refine r_iload_n hK d_X12_tilt_59 rfl rfl ?_
    refine r_iconst hK d_X12_tilt_60 ci_0 ?_
    obtain ⟨v4, u3, e2, hD⟩ := bd_e hD
    refine r_callV (As := [.int x1, .int (0 : Int32)]) (st := [.int (10 : Int32), .int ((10 : Int32) * x4)]) (stk2 := [.int v4, .int (10 : Int32), .int ((10 : Int32) * x4)]) hK (C_X12_partOf  e2) d_X12_tilt_61 mf_X12_partOf ml_RX12_280 im_X12_partOf rfl se_11_RX12_X12_partOf kd_78 rfl (Nat.le_of_ble_eq_true rfl) (by decide) ⟨Nat.zero_le _, Nat.zero_le _⟩ rfl rfl ?_
    refine r_imul hK d_X12_tilt_64 ?_
    refine r_isub hK d_X12_tilt_65 ?_
    refine r_bipush hK d_X12_tilt_66 cb_20 ?_
    refine r_icmp_lt (tgt := 74) hK d_X12_tilt_68 (by decide) (fun h5 => ?_) (fun h5 => ?_)
    · have hD := if_t hD h5
      refine r_iinc hK d_X12_tilt_74 rfl (v := x4 + (1 : Int32)) (by rw [ci_1]) (by decide) (ls2 := [.ref 78, .int x1, gs_J, gs_J, .int (x4 + (1 : Int32))]) rfl ?_
      refine r_goto (tgt := 44) hK d_X12_tilt_77 (by decide) ?_
      exact hq44 _ _ _  hD
    · have hD := if_f hD h5
      refine r_iload hK d_X12_tilt_71 rfl ?_
      cases hD
      exact r_iret hK d_X12_tilt_73
set_option maxRecDepth 20000 in
theorem TL_X12_tilt_44  (hK : KC p R s m args meth c ad g tyc RX12 cX12_tilt 5 (some .int) 1) {r : Int32} {μ2 : gs_M}   : ∀ (n : Nat) (x1 : Int32) (x4 : Int32) (μ : gs_M), L_X12_tilt_44  n x1 x4 μ = some (r, μ2) → WJ p l e R s m args below meth c 0 0 (MQ below (gs_Q ad g tyc (some (.int r)) μ2) args s 0 0 (gs_A ad)) ad g tyc 5 44 [.ref 78, .int x1, gs_J, gs_J, .int x4] [] μ := by
  intro n
  induction n with
  | zero => intro x1 x4 μ  hD; cases hD
  | succ n ih => intro x1 x4 μ  hD; exact To_X12_tilt_44 hK  ih  hD
set_option maxRecDepth 20000 in
theorem C_X12_tilt  {x1 : Int32} {x2 : Int32} {x3 : Int32} {μ : gs_M} {r : Int32} {μ2 : gs_M}  (hD : D_X12_tilt x1 x2 x3 μ = some (r, μ2)) : CALL yX12_tilt cX12_tilt 5 (some .int) 1 [.ref 78, .int x1, .int x2, .int x3] μ (some (.int r)) μ2 := by
  unfold D_X12_tilt at hD
  refine gs_enter mf_X12_tilt (Nat.le_of_ble_eq_true rfl) (ls := [.ref 78, .int x1, .int x2, .int x3, gs_J]) rfl (fun p l e R s m args below meth c ad g tyc hK => ?_)
  have hK : KC p R s m args meth c ad g tyc RX12 cX12_tilt 5 (some .int) 1 := hK
  refine r_aload_n hK d_X12_tilt_0 rfl rfl ?_
  refine r_iconst hK d_X12_tilt_1 ci_0 ?_
  refine r_putI hK d_X12_tilt_2 fl_RX12_98_11 rfl rfl kd_78 ?_
  refine r_ltm hD (fun u1 hD => ?_)
  refine r_aload_n hK d_X12_tilt_5 rfl rfl ?_
  refine r_iload_n hK d_X12_tilt_6 rfl rfl ?_
  obtain ⟨v4, u3, e2, hD⟩ := bd_e hD
  refine r_callV (As := [.int x1]) (st := []) (stk2 := [.int v4]) hK (C_X12_isStuff  e2) d_X12_tilt_7 mf_X12_isStuff ml_RX12_277 im_X12_isStuff rfl se_11_RX12_X12_isStuff kd_78 rfl (Nat.le_of_ble_eq_true rfl) (by decide) ⟨Nat.zero_le _, Nat.zero_le _⟩ rfl rfl ?_
  refine r_if_eq (tgt := 39) hK d_X12_tilt_10 (by decide) (fun h5 => ?_) (fun h5 => ?_)
  · have hD := if_t hD h5
    refine r_iconst hK d_X12_tilt_39 ci_m1 ?_
    cases hD
    exact r_iret hK d_X12_tilt_40
  · have hD := if_f hD h5
    refine r_iload_n hK d_X12_tilt_13 rfl rfl ?_
    refine r_iconst hK d_X12_tilt_14 ci_2 ?_
    refine r_bipush hK d_X12_tilt_15 cb_12 ?_
    obtain ⟨v8, u7, e6, hD⟩ := bd_e hD
    refine r_callS (As := [.int x2, .int (2 : Int32), .int (12 : Int32)]) (st := []) (stk2 := [.int v8]) hK (C_X12_isIn  e6) d_X12_tilt_17 mf_X12_isIn ml_RX12_217 ss_X12_isIn rfl (Nat.le_of_ble_eq_true rfl) (by decide) ⟨Nat.zero_le _, Nat.zero_le _⟩ rfl rfl ?_
    refine r_if_eq (tgt := 39) hK d_X12_tilt_20 (by decide) (fun h9 => ?_) (fun h9 => ?_)
    · have hD := if_t hD h9
      refine r_iconst hK d_X12_tilt_39 ci_m1 ?_
      cases hD
      exact r_iret hK d_X12_tilt_40
    · have hD := if_f hD h9
      refine r_iload_n hK d_X12_tilt_23 rfl rfl ?_
      refine r_iconst hK d_X12_tilt_24 ci_1 ?_
      refine r_bipush hK d_X12_tilt_25 cb_40 ?_
      obtain ⟨v12, u11, e10, hD⟩ := bd_e hD
      refine r_callS (As := [.int x3, .int (1 : Int32), .int (40 : Int32)]) (st := []) (stk2 := [.int v12]) hK (C_X12_isIn  e10) d_X12_tilt_27 mf_X12_isIn ml_RX12_217 ss_X12_isIn rfl (Nat.le_of_ble_eq_true rfl) (by decide) ⟨Nat.zero_le _, Nat.zero_le _⟩ rfl rfl ?_
      refine r_if_eq (tgt := 39) hK d_X12_tilt_30 (by decide) (fun h13 => ?_) (fun h13 => ?_)
      · have hD := if_t hD h13
        refine r_iconst hK d_X12_tilt_39 ci_m1 ?_
        cases hD
        exact r_iret hK d_X12_tilt_40
      · have hD := if_f hD h13
        refine r_iload_n hK d_X12_tilt_33 rfl rfl ?_
        refine r_bipush hK d_X12_tilt_34 cb_40 ?_
        refine r_icmp_ne (tgt := 41) hK d_X12_tilt_36 (by decide) (fun h14 => ?_) (fun h14 => ?_)
        · have hD := if_f hD h14
          refine r_iconst hK d_X12_tilt_41 ci_0 ?_
          refine r_istore hK d_X12_tilt_42 (by decide) (ls2 := [.ref 78, .int x1, .int x2, .int x3, .int (0 : Int32)]) rfl ?_
          refine r_junk [true, true, false, false, true] (ls2 := [.ref 78, .int x1, gs_J, gs_J, .int (0 : Int32)]) rfl ?_
          exact TL_X12_tilt_44 hK  _ _ _ _  hD
        · have hD := if_t hD h14
          refine r_iconst hK d_X12_tilt_39 ci_m1 ?_
          cases hD
          exact r_iret hK d_X12_tilt_40
end S_X12_tilt
theorem d_X12_ripens_0 : gd cX12_ripens 0 (.aload_n 0) 1 1 := ⟨by decide +kernel, rfl⟩
theorem d_X12_ripens_1 : gd cX12_ripens 1 (.iconst 0) 1 2 := ⟨by decide +kernel, rfl⟩
theorem d_X12_ripens_2 : gd cX12_ripens 2 (.putfield 98) 3 5 := ⟨by decide +kernel, rfl⟩
theorem d_X12_ripens_5 : gd cX12_ripens 5 (.aload_n 0) 1 6 := ⟨by decide +kernel, rfl⟩
theorem d_X12_ripens_6 : gd cX12_ripens 6 (.iload_n 1) 1 7 := ⟨by decide +kernel, rfl⟩
theorem d_X12_ripens_7 : gd cX12_ripens 7 (.invokevirtual 452) 3 10 := ⟨by decide +kernel, rfl⟩
theorem d_X12_ripens_10 : gd cX12_ripens 10 (.ifCond .eq 13) 3 13 := ⟨by decide +kernel, rfl⟩
theorem d_X12_ripens_13 : gd cX12_ripens 13 (.iload_n 2) 1 14 := ⟨by decide +kernel, rfl⟩
theorem d_X12_ripens_14 : gd cX12_ripens 14 (.iconst 1) 1 15 := ⟨by decide +kernel, rfl⟩
theorem d_X12_ripens_15 : gd cX12_ripens 15 (.bipush 40) 2 17 := ⟨by decide +kernel, rfl⟩
theorem d_X12_ripens_17 : gd cX12_ripens 17 (.invokestatic 217) 3 20 := ⟨by decide +kernel, rfl⟩
theorem d_X12_ripens_20 : gd cX12_ripens 20 (.ifCond .ne 5) 3 23 := ⟨by decide +kernel, rfl⟩
theorem d_X12_ripens_23 : gd cX12_ripens 23 (.iconst (-1)) 1 24 := ⟨by decide +kernel, rfl⟩
theorem d_X12_ripens_24 : gd cX12_ripens 24 .ireturn 1 25 := ⟨by decide +kernel, rfl⟩
theorem d_X12_ripens_25 : gd cX12_ripens 25 (.iconst 0) 1 26 := ⟨by decide +kernel, rfl⟩
theorem d_X12_ripens_26 : gd cX12_ripens 26 (.istore_n 3) 1 27 := ⟨by decide +kernel, rfl⟩
theorem d_X12_ripens_27 : gd cX12_ripens 27 (.iload_n 3) 1 28 := ⟨by decide +kernel, rfl⟩
theorem d_X12_ripens_28 : gd cX12_ripens 28 (.sipush 1000) 3 31 := ⟨by decide +kernel, rfl⟩
theorem d_X12_ripens_31 : gd cX12_ripens 31 (.if_icmp .ge 48) 3 34 := ⟨by decide +kernel, rfl⟩
theorem d_X12_ripens_34 : gd cX12_ripens 34 (.aload_n 0) 1 35 := ⟨by decide +kernel, rfl⟩
theorem d_X12_ripens_35 : gd cX12_ripens 35 (.iload_n 1) 1 36 := ⟨by decide +kernel, rfl⟩
theorem d_X12_ripens_36 : gd cX12_ripens 36 (.bipush 6) 2 38 := ⟨by decide +kernel, rfl⟩
theorem d_X12_ripens_38 : gd cX12_ripens 38 (.invokevirtual 302) 3 41 := ⟨by decide +kernel, rfl⟩
theorem d_X12_ripens_41 : gd cX12_ripens 41 (.iload_n 3) 1 42 := ⟨by decide +kernel, rfl⟩
theorem d_X12_ripens_42 : gd cX12_ripens 42 (.iload_n 2) 1 43 := ⟨by decide +kernel, rfl⟩
theorem d_X12_ripens_43 : gd cX12_ripens 43 .imul 1 44 := ⟨by decide +kernel, rfl⟩
theorem d_X12_ripens_44 : gd cX12_ripens 44 .iadd 1 45 := ⟨by decide +kernel, rfl⟩
theorem d_X12_ripens_45 : gd cX12_ripens 45 (.aload_n 0) 1 46 := ⟨by decide +kernel, rfl⟩
theorem d_X12_ripens_46 : gd cX12_ripens 46 (.aload_n 0) 1 47 := ⟨by decide +kernel, rfl⟩
theorem d_X12_ripens_47 : gd cX12_ripens 47 (.iload_n 1) 1 48 := ⟨by decide +kernel, rfl⟩
theorem d_X12_ripens_48 : gd cX12_ripens 48 (.iconst 2) 1 49 := ⟨by decide +kernel, rfl⟩
theorem d_X12_ripens_49 : gd cX12_ripens 49 (.invokevirtual 302) 3 52 := ⟨by decide +kernel, rfl⟩
theorem d_X12_ripens_52 : gd cX12_ripens 52 (.iconst 2) 1 53 := ⟨by decide +kernel, rfl⟩
theorem d_X12_ripens_53 : gd cX12_ripens 53 (.invokevirtual 280) 3 56 := ⟨by decide +kernel, rfl⟩
theorem d_X12_ripens_56 : gd cX12_ripens 56 .imul 1 57 := ⟨by decide +kernel, rfl⟩
theorem d_X12_ripens_57 : gd cX12_ripens 57 (.aload_n 0) 1 58 := ⟨by decide +kernel, rfl⟩
theorem d_X12_ripens_58 : gd cX12_ripens 58 (.aload_n 0) 1 59 := ⟨by decide +kernel, rfl⟩
theorem d_X12_ripens_59 : gd cX12_ripens 59 (.iload_n 1) 1 60 := ⟨by decide +kernel, rfl⟩
theorem d_X12_ripens_60 : gd cX12_ripens 60 (.iconst 2) 1 61 := ⟨by decide +kernel, rfl⟩
theorem d_X12_ripens_61 : gd cX12_ripens 61 (.invokevirtual 302) 3 64 := ⟨by decide +kernel, rfl⟩
theorem d_X12_ripens_64 : gd cX12_ripens 64 (.iconst 3) 1 65 := ⟨by decide +kernel, rfl⟩
theorem d_X12_ripens_65 : gd cX12_ripens 65 (.invokevirtual 280) 3 68 := ⟨by decide +kernel, rfl⟩
theorem d_X12_ripens_68 : gd cX12_ripens 68 (.if_icmp .le 5) 3 71 := ⟨by decide +kernel, rfl⟩
theorem d_X12_ripens_71 : gd cX12_ripens 71 (.iload_n 3) 1 72 := ⟨by decide +kernel, rfl⟩
theorem d_X12_ripens_72 : gd cX12_ripens 72 .ireturn 1 73 := ⟨by decide +kernel, rfl⟩
theorem d_X12_ripens_73 : gd cX12_ripens 73 (.iinc 3 1) 3 76 := ⟨by decide +kernel, rfl⟩
theorem d_X12_ripens_76 : gd cX12_ripens 76 (.goto (-49)) 3 79 := ⟨by decide +kernel, rfl⟩
theorem d_X12_ripens_79 : gd cX12_ripens 79 (.iconst (-1)) 1 80 := ⟨by decide +kernel, rfl⟩
theorem d_X12_ripens_80 : gd cX12_ripens 80 .ireturn 1 81 := ⟨by decide +kernel, rfl⟩
def Bo_X12_ripens_27 (q27 : Int32 → Int32 → Int32 → gs_M → Option (Int32 × gs_M)) (x1 : Int32) (x2 : Int32) (x3 : Int32) (μ : gs_M) : Option (Int32 × gs_M) :=
  if (1000 : Int32) ≤ x3 then (some ((-1 : Int32), μ)) else (bd (D_X12_of x1 (6 : Int32) μ) (fun v4 u3 => bd (D_X12_of x1 (2 : Int32) u3) (fun v7 u6 => bd (D_X12_partOf v7 (2 : Int32) u6) (fun v10 u9 => bd (D_X12_of x1 (2 : Int32) u9) (fun v13 u12 => bd (D_X12_partOf v13 (3 : Int32) u12) (fun v16 u15 => if ((v4 + (x3 * x2)) * v10) ≤ v16 then (q27 x1 x2 (x3 + (1 : Int32)) u15) else (some (x3, u15))))))))
def L_X12_ripens_27  : Nat → Int32 → Int32 → Int32 → gs_M → Option (Int32 × gs_M)
  | 0 => fun _ _ _ _ => none
  | n + 1 => fun x1 x2 x3 μ => Bo_X12_ripens_27  (L_X12_ripens_27  n) x1 x2 x3 μ
def D_X12_ripens (x1 : Int32) (x2 : Int32) (μ : gs_M) : Option (Int32 × gs_M) :=
  lt1 (sI μ 78 0 (0 : Int32)) (fun u1 => bd (D_X12_isOpen x1 u1) (fun v4 u3 => if v4 = 0 then (some ((-1 : Int32), u3)) else (bd (D_X12_isIn x2 (1 : Int32) (40 : Int32) u3) (fun v8 u7 => if v8 = 0 then (some ((-1 : Int32), u7)) else (L_X12_ripens_27 4096 x1 x2 (0 : Int32) u7)))))
section S_X12_ripens
variable {p : Program} {l : Launch} {e : Env} {R : Room} {s : State} {m : MethodId} {args : Array Value} {below : List Frame} {meth : Method} {c : Code} {ad : Nat → Nat} {g : va_G} {tyc : Nat → ClassId}
set_option maxRecDepth 20000 in
theorem To_X12_ripens_27  (hK : KC p R s m args meth c ad g tyc RX12 cX12_ripens 4 (some .int) 3) {r : Int32} {μ2 : gs_M} {q27 : Int32 → Int32 → Int32 → gs_M → Option (Int32 × gs_M)} (hq27 : ∀ (x1 : Int32) (x2 : Int32) (x3 : Int32) (μ : gs_M), q27 x1 x2 x3 μ = some (r, μ2) → WJ p l e R s m args below meth c 0 0 (MQ below (gs_Q ad g tyc (some (.int r)) μ2) args s 0 0 (gs_A ad)) ad g tyc 4 27 [.ref 78, .int x1, .int x2, .int x3] [] μ) {x1 : Int32} {x2 : Int32} {x3 : Int32} {μ : gs_M}  (hD : Bo_X12_ripens_27 q27 x1 x2 x3 μ = some (r, μ2)) : WJ p l e R s m args below meth c 0 0 (MQ below (gs_Q ad g tyc (some (.int r)) μ2) args s 0 0 (gs_A ad)) ad g tyc 4 27 [.ref 78, .int x1, .int x2, .int x3] [] μ := by
  unfold Bo_X12_ripens_27 at hD
  refine r_iload_n hK d_X12_ripens_27 rfl rfl ?_
  refine r_sipush hK d_X12_ripens_28 cs_1000 ?_
  refine r_icmp_ge (tgt := 79) hK d_X12_ripens_31 (by decide) (fun h1 => ?_) (fun h1 => ?_)
  · have hD := if_t hD h1
    refine r_iconst hK d_X12_ripens_79 ci_m1 ?_
    cases hD
    exact r_iret hK d_X12_ripens_80
  · have hD := if_f hD h1
    refine r_aload_n hK d_X12_ripens_34 rfl rfl ?_
    refine r_iload_n hK d_X12_ripens_35 rfl rfl ?_
    refine r_bipush hK d_X12_ripens_36 cb_6 ?_
    obtain ⟨v4, u3, e2, hD⟩ := bd_e hD
    refine r_callV (As := [.int x1, .int (6 : Int32)]) (st := []) (stk2 := [.int v4]) hK (C_X12_of  e2) d_X12_ripens_38 mf_X12_of ml_RX12_302 im_X12_of rfl se_11_RX12_X12_of kd_78 rfl (Nat.le_of_ble_eq_true rfl) (by decide) ⟨Nat.zero_le _, Nat.zero_le _⟩ rfl rfl ?_
    refine r_iload_n hK d_X12_ripens_41 rfl rfl ?_
    refine r_iload_n hK d_X12_ripens_42 rfl rfl ?_
    refine r_imul hK d_X12_ripens_43 ?_
    refine r_iadd hK d_X12_ripens_44 ?_
    refine r_aload_n hK d_X12_ripens_45 rfl rfl ?_
    refine r_aload_n hK d_X12_ripens_46 rfl rfl ?_
    refine r_iload_n hK d_X12_ripens_47 rfl rfl ?_
    refine r_iconst hK d_X12_ripens_48 ci_2 ?_
    obtain ⟨v7, u6, e5, hD⟩ := bd_e hD
    refine r_callV (As := [.int x1, .int (2 : Int32)]) (st := [.ref 78, .int (v4 + (x3 * x2))]) (stk2 := [.int v7, .ref 78, .int (v4 + (x3 * x2))]) hK (C_X12_of  e5) d_X12_ripens_49 mf_X12_of ml_RX12_302 im_X12_of rfl se_11_RX12_X12_of kd_78 rfl (Nat.le_of_ble_eq_true rfl) (by decide) ⟨Nat.zero_le _, Nat.zero_le _⟩ rfl rfl ?_
    refine r_iconst hK d_X12_ripens_52 ci_2 ?_
    obtain ⟨v10, u9, e8, hD⟩ := bd_e hD
    refine r_callV (As := [.int v7, .int (2 : Int32)]) (st := [.int (v4 + (x3 * x2))]) (stk2 := [.int v10, .int (v4 + (x3 * x2))]) hK (C_X12_partOf  e8) d_X12_ripens_53 mf_X12_partOf ml_RX12_280 im_X12_partOf rfl se_11_RX12_X12_partOf kd_78 rfl (Nat.le_of_ble_eq_true rfl) (by decide) ⟨Nat.zero_le _, Nat.zero_le _⟩ rfl rfl ?_
    refine r_imul hK d_X12_ripens_56 ?_
    refine r_aload_n hK d_X12_ripens_57 rfl rfl ?_
    refine r_aload_n hK d_X12_ripens_58 rfl rfl ?_
    refine r_iload_n hK d_X12_ripens_59 rfl rfl ?_
    refine r_iconst hK d_X12_ripens_60 ci_2 ?_
    obtain ⟨v13, u12, e11, hD⟩ := bd_e hD
    refine r_callV (As := [.int x1, .int (2 : Int32)]) (st := [.ref 78, .int ((v4 + (x3 * x2)) * v10)]) (stk2 := [.int v13, .ref 78, .int ((v4 + (x3 * x2)) * v10)]) hK (C_X12_of  e11) d_X12_ripens_61 mf_X12_of ml_RX12_302 im_X12_of rfl se_11_RX12_X12_of kd_78 rfl (Nat.le_of_ble_eq_true rfl) (by decide) ⟨Nat.zero_le _, Nat.zero_le _⟩ rfl rfl ?_
    refine r_iconst hK d_X12_ripens_64 ci_3 ?_
    obtain ⟨v16, u15, e14, hD⟩ := bd_e hD
    refine r_callV (As := [.int v13, .int (3 : Int32)]) (st := [.int ((v4 + (x3 * x2)) * v10)]) (stk2 := [.int v16, .int ((v4 + (x3 * x2)) * v10)]) hK (C_X12_partOf  e14) d_X12_ripens_65 mf_X12_partOf ml_RX12_280 im_X12_partOf rfl se_11_RX12_X12_partOf kd_78 rfl (Nat.le_of_ble_eq_true rfl) (by decide) ⟨Nat.zero_le _, Nat.zero_le _⟩ rfl rfl ?_
    refine r_icmp_le (tgt := 73) hK d_X12_ripens_68 (by decide) (fun h17 => ?_) (fun h17 => ?_)
    · have hD := if_t hD h17
      refine r_iinc hK d_X12_ripens_73 rfl (v := x3 + (1 : Int32)) (by rw [ci_1]) (by decide) (ls2 := [.ref 78, .int x1, .int x2, .int (x3 + (1 : Int32))]) rfl ?_
      refine r_goto (tgt := 27) hK d_X12_ripens_76 (by decide) ?_
      exact hq27 _ _ _ _  hD
    · have hD := if_f hD h17
      refine r_iload_n hK d_X12_ripens_71 rfl rfl ?_
      cases hD
      exact r_iret hK d_X12_ripens_72
set_option maxRecDepth 20000 in
theorem TL_X12_ripens_27  (hK : KC p R s m args meth c ad g tyc RX12 cX12_ripens 4 (some .int) 3) {r : Int32} {μ2 : gs_M}   : ∀ (n : Nat) (x1 : Int32) (x2 : Int32) (x3 : Int32) (μ : gs_M), L_X12_ripens_27  n x1 x2 x3 μ = some (r, μ2) → WJ p l e R s m args below meth c 0 0 (MQ below (gs_Q ad g tyc (some (.int r)) μ2) args s 0 0 (gs_A ad)) ad g tyc 4 27 [.ref 78, .int x1, .int x2, .int x3] [] μ := by
  intro n
  induction n with
  | zero => intro x1 x2 x3 μ  hD; cases hD
  | succ n ih => intro x1 x2 x3 μ  hD; exact To_X12_ripens_27 hK  ih  hD
set_option maxRecDepth 20000 in
theorem C_X12_ripens  {x1 : Int32} {x2 : Int32} {μ : gs_M} {r : Int32} {μ2 : gs_M}  (hD : D_X12_ripens x1 x2 μ = some (r, μ2)) : CALL yX12_ripens cX12_ripens 4 (some .int) 3 [.ref 78, .int x1, .int x2] μ (some (.int r)) μ2 := by
  unfold D_X12_ripens at hD
  refine gs_enter mf_X12_ripens (Nat.le_of_ble_eq_true rfl) (ls := [.ref 78, .int x1, .int x2, gs_J]) rfl (fun p l e R s m args below meth c ad g tyc hK => ?_)
  have hK : KC p R s m args meth c ad g tyc RX12 cX12_ripens 4 (some .int) 3 := hK
  refine r_aload_n hK d_X12_ripens_0 rfl rfl ?_
  refine r_iconst hK d_X12_ripens_1 ci_0 ?_
  refine r_putI hK d_X12_ripens_2 fl_RX12_98_11 rfl rfl kd_78 ?_
  refine r_ltm hD (fun u1 hD => ?_)
  refine r_aload_n hK d_X12_ripens_5 rfl rfl ?_
  refine r_iload_n hK d_X12_ripens_6 rfl rfl ?_
  obtain ⟨v4, u3, e2, hD⟩ := bd_e hD
  refine r_callV (As := [.int x1]) (st := []) (stk2 := [.int v4]) hK (C_X12_isOpen  e2) d_X12_ripens_7 mf_X12_isOpen ml_RX12_452 im_X12_isOpen rfl se_11_RX12_X12_isOpen kd_78 rfl (Nat.le_of_ble_eq_true rfl) (by decide) ⟨Nat.zero_le _, Nat.zero_le _⟩ rfl rfl ?_
  refine r_if_eq (tgt := 23) hK d_X12_ripens_10 (by decide) (fun h5 => ?_) (fun h5 => ?_)
  · have hD := if_t hD h5
    refine r_iconst hK d_X12_ripens_23 ci_m1 ?_
    cases hD
    exact r_iret hK d_X12_ripens_24
  · have hD := if_f hD h5
    refine r_iload_n hK d_X12_ripens_13 rfl rfl ?_
    refine r_iconst hK d_X12_ripens_14 ci_1 ?_
    refine r_bipush hK d_X12_ripens_15 cb_40 ?_
    obtain ⟨v8, u7, e6, hD⟩ := bd_e hD
    refine r_callS (As := [.int x2, .int (1 : Int32), .int (40 : Int32)]) (st := []) (stk2 := [.int v8]) hK (C_X12_isIn  e6) d_X12_ripens_17 mf_X12_isIn ml_RX12_217 ss_X12_isIn rfl (Nat.le_of_ble_eq_true rfl) (by decide) ⟨Nat.zero_le _, Nat.zero_le _⟩ rfl rfl ?_
    refine r_if_ne (tgt := 25) hK d_X12_ripens_20 (by decide) (fun h9 => ?_) (fun h9 => ?_)
    · have hD := if_f hD h9
      refine r_iconst hK d_X12_ripens_25 ci_0 ?_
      refine r_istore_n hK d_X12_ripens_26 rfl (by decide) (ls2 := [.ref 78, .int x1, .int x2, .int (0 : Int32)]) rfl ?_
      exact TL_X12_ripens_27 hK  _ _ _ _ _  hD
    · have hD := if_t hD h9
      refine r_iconst hK d_X12_ripens_23 ci_m1 ?_
      cases hD
      exact r_iret hK d_X12_ripens_24
end S_X12_ripens
theorem d_X12_slide_0 : gd cX12_slide 0 (.aload_n 0) 1 1 := ⟨by decide +kernel, rfl⟩
theorem d_X12_slide_1 : gd cX12_slide 1 (.iconst 0) 1 2 := ⟨by decide +kernel, rfl⟩
theorem d_X12_slide_2 : gd cX12_slide 2 (.putfield 98) 3 5 := ⟨by decide +kernel, rfl⟩
theorem d_X12_slide_5 : gd cX12_slide 5 (.aload_n 0) 1 6 := ⟨by decide +kernel, rfl⟩
theorem d_X12_slide_6 : gd cX12_slide 6 (.iload_n 1) 1 7 := ⟨by decide +kernel, rfl⟩
theorem d_X12_slide_7 : gd cX12_slide 7 (.invokevirtual 452) 3 10 := ⟨by decide +kernel, rfl⟩
theorem d_X12_slide_10 : gd cX12_slide 10 (.ifCond .eq 13) 3 13 := ⟨by decide +kernel, rfl⟩
theorem d_X12_slide_13 : gd cX12_slide 13 (.iload_n 2) 1 14 := ⟨by decide +kernel, rfl⟩
theorem d_X12_slide_14 : gd cX12_slide 14 (.iconst 0) 1 15 := ⟨by decide +kernel, rfl⟩
theorem d_X12_slide_15 : gd cX12_slide 15 (.bipush 40) 2 17 := ⟨by decide +kernel, rfl⟩
theorem d_X12_slide_17 : gd cX12_slide 17 (.invokestatic 217) 3 20 := ⟨by decide +kernel, rfl⟩
theorem d_X12_slide_20 : gd cX12_slide 20 (.ifCond .ne 5) 3 23 := ⟨by decide +kernel, rfl⟩
theorem d_X12_slide_23 : gd cX12_slide 23 (.iconst (-1)) 1 24 := ⟨by decide +kernel, rfl⟩
theorem d_X12_slide_24 : gd cX12_slide 24 .ireturn 1 25 := ⟨by decide +kernel, rfl⟩
theorem d_X12_slide_25 : gd cX12_slide 25 (.iconst 0) 1 26 := ⟨by decide +kernel, rfl⟩
theorem d_X12_slide_26 : gd cX12_slide 26 (.istore_n 3) 1 27 := ⟨by decide +kernel, rfl⟩
theorem d_X12_slide_27 : gd cX12_slide 27 (.aload_n 0) 1 28 := ⟨by decide +kernel, rfl⟩
theorem d_X12_slide_28 : gd cX12_slide 28 (.invokevirtual 402) 3 31 := ⟨by decide +kernel, rfl⟩
theorem d_X12_slide_31 : gd cX12_slide 31 (.aload_n 0) 1 32 := ⟨by decide +kernel, rfl⟩
theorem d_X12_slide_32 : gd cX12_slide 32 (.iload_n 2) 1 33 := ⟨by decide +kernel, rfl⟩
theorem d_X12_slide_33 : gd cX12_slide 33 (.invokevirtual 376) 3 36 := ⟨by decide +kernel, rfl⟩
theorem d_X12_slide_36 : gd cX12_slide 36 (.iconst 0) 1 37 := ⟨by decide +kernel, rfl⟩
theorem d_X12_slide_37 : gd cX12_slide 37 (.istore 4) 2 39 := ⟨by decide +kernel, rfl⟩
theorem d_X12_slide_39 : gd cX12_slide 39 (.iload 4) 2 41 := ⟨by decide +kernel, rfl⟩
theorem d_X12_slide_41 : gd cX12_slide 41 (.aload_n 0) 1 42 := ⟨by decide +kernel, rfl⟩
theorem d_X12_slide_42 : gd cX12_slide 42 (.iload_n 1) 1 43 := ⟨by decide +kernel, rfl⟩
theorem d_X12_slide_43 : gd cX12_slide 43 (.iconst 0) 1 44 := ⟨by decide +kernel, rfl⟩
theorem d_X12_slide_44 : gd cX12_slide 44 (.invokevirtual 302) 3 47 := ⟨by decide +kernel, rfl⟩
theorem d_X12_slide_47 : gd cX12_slide 47 (.if_icmp .ge 42) 3 50 := ⟨by decide +kernel, rfl⟩
theorem d_X12_slide_50 : gd cX12_slide 50 (.iload_n 3) 1 51 := ⟨by decide +kernel, rfl⟩
theorem d_X12_slide_51 : gd cX12_slide 51 (.aload_n 0) 1 52 := ⟨by decide +kernel, rfl⟩
theorem d_X12_slide_52 : gd cX12_slide 52 (.iload_n 1) 1 53 := ⟨by decide +kernel, rfl⟩
theorem d_X12_slide_53 : gd cX12_slide 53 (.iload 4) 2 55 := ⟨by decide +kernel, rfl⟩
theorem d_X12_slide_55 : gd cX12_slide 55 (.invokevirtual 305) 3 58 := ⟨by decide +kernel, rfl⟩
theorem d_X12_slide_58 : gd cX12_slide 58 (.aload_n 0) 1 59 := ⟨by decide +kernel, rfl⟩
theorem d_X12_slide_59 : gd cX12_slide 59 (.getfield 74) 3 62 := ⟨by decide +kernel, rfl⟩
theorem d_X12_slide_62 : gd cX12_slide 62 (.aload_n 0) 1 63 := ⟨by decide +kernel, rfl⟩
theorem d_X12_slide_63 : gd cX12_slide 63 (.iload_n 1) 1 64 := ⟨by decide +kernel, rfl⟩
theorem d_X12_slide_64 : gd cX12_slide 64 (.iload 4) 2 66 := ⟨by decide +kernel, rfl⟩
theorem d_X12_slide_66 : gd cX12_slide 66 (.invokevirtual 299) 3 69 := ⟨by decide +kernel, rfl⟩
theorem d_X12_slide_69 : gd cX12_slide 69 .iaload 1 70 := ⟨by decide +kernel, rfl⟩
theorem d_X12_slide_70 : gd cX12_slide 70 (.if_icmp .ge 10) 3 73 := ⟨by decide +kernel, rfl⟩
theorem d_X12_slide_73 : gd cX12_slide 73 (.iconst 1) 1 74 := ⟨by decide +kernel, rfl⟩
theorem d_X12_slide_74 : gd cX12_slide 74 (.iload 4) 2 76 := ⟨by decide +kernel, rfl⟩
theorem d_X12_slide_76 : gd cX12_slide 76 .ishl 1 77 := ⟨by decide +kernel, rfl⟩
theorem d_X12_slide_77 : gd cX12_slide 77 (.goto 4) 3 80 := ⟨by decide +kernel, rfl⟩
theorem d_X12_slide_80 : gd cX12_slide 80 (.iconst 0) 1 81 := ⟨by decide +kernel, rfl⟩
theorem d_X12_slide_81 : gd cX12_slide 81 .ior 1 82 := ⟨by decide +kernel, rfl⟩
theorem d_X12_slide_82 : gd cX12_slide 82 (.istore_n 3) 1 83 := ⟨by decide +kernel, rfl⟩
theorem d_X12_slide_83 : gd cX12_slide 83 (.iinc 4 1) 3 86 := ⟨by decide +kernel, rfl⟩
theorem d_X12_slide_86 : gd cX12_slide 86 (.goto (-47)) 3 89 := ⟨by decide +kernel, rfl⟩
theorem d_X12_slide_89 : gd cX12_slide 89 (.aload_n 0) 1 90 := ⟨by decide +kernel, rfl⟩
theorem d_X12_slide_90 : gd cX12_slide 90 (.invokevirtual 405) 3 93 := ⟨by decide +kernel, rfl⟩
theorem d_X12_slide_93 : gd cX12_slide 93 (.iload_n 3) 1 94 := ⟨by decide +kernel, rfl⟩
theorem d_X12_slide_94 : gd cX12_slide 94 .ireturn 1 95 := ⟨by decide +kernel, rfl⟩
def Bo_X12_slide_39 (q39 : Int32 → Int32 → Int32 → gs_M → Option (Int32 × gs_M)) (x1 : Int32) (x3 : Int32) (x4 : Int32) (μ : gs_M) : Option (Int32 × gs_M) :=
  bd (D_X12_of x1 (0 : Int32) μ) (fun v3 u2 => if v3 ≤ x4 then (bd0 (D_X12_putBack u2) (fun u6 => some (x3, u6))) else (bd (D_X12_units x1 x4 u2) (fun v9 u8 => bd (D_X12_placeIn x1 x4 u8) (fun v12 u11 => ck (inb v12 81) (if (gI u11 90 (Int32.toNatClampNeg v12)) ≤ v9 then (lt1 (x3 ||| (0 : Int32)) (fun v15 => q39 x1 v15 (x4 + (1 : Int32)) u11)) else (lt1 (x3 ||| ((1 : Int32) <<< (x4 &&& 31))) (fun v16 => q39 x1 v16 (x4 + (1 : Int32)) u11)))))))
def L_X12_slide_39  : Nat → Int32 → Int32 → Int32 → gs_M → Option (Int32 × gs_M)
  | 0 => fun _ _ _ _ => none
  | n + 1 => fun x1 x3 x4 μ => Bo_X12_slide_39  (L_X12_slide_39  n) x1 x3 x4 μ
def D_X12_slide (x1 : Int32) (x2 : Int32) (μ : gs_M) : Option (Int32 × gs_M) :=
  lt1 (sI μ 78 0 (0 : Int32)) (fun u1 => bd (D_X12_isOpen x1 u1) (fun v4 u3 => if v4 = 0 then (some ((-1 : Int32), u3)) else (bd (D_X12_isIn x2 (0 : Int32) (40 : Int32) u3) (fun v8 u7 => if v8 = 0 then (some ((-1 : Int32), u7)) else (bd0 (D_X12_keeps u7) (fun u11 => bd0 (D_X12_rolls x2 u11) (fun u13 => L_X12_slide_39 4096 x1 (0 : Int32) (0 : Int32) u13)))))))
section S_X12_slide
variable {p : Program} {l : Launch} {e : Env} {R : Room} {s : State} {m : MethodId} {args : Array Value} {below : List Frame} {meth : Method} {c : Code} {ad : Nat → Nat} {g : va_G} {tyc : Nat → ClassId}
set_option maxRecDepth 20000 in
theorem To_X12_slide_39  (hK : KC p R s m args meth c ad g tyc RX12 cX12_slide 5 (some .int) 6) {r : Int32} {μ2 : gs_M} {q39 : Int32 → Int32 → Int32 → gs_M → Option (Int32 × gs_M)} (hq39 : ∀ (x1 : Int32) (x3 : Int32) (x4 : Int32) (μ : gs_M), q39 x1 x3 x4 μ = some (r, μ2) → WJ p l e R s m args below meth c 0 0 (MQ below (gs_Q ad g tyc (some (.int r)) μ2) args s 0 0 (gs_A ad)) ad g tyc 5 39 [.ref 78, .int x1, gs_J, .int x3, .int x4] [] μ) {x1 : Int32} {x3 : Int32} {x4 : Int32} {μ : gs_M}  (hD : Bo_X12_slide_39 q39 x1 x3 x4 μ = some (r, μ2)) : WJ p l e R s m args below meth c 0 0 (MQ below (gs_Q ad g tyc (some (.int r)) μ2) args s 0 0 (gs_A ad)) ad g tyc 5 39 [.ref 78, .int x1, gs_J, .int x3, .int x4] [] μ := by
  unfold Bo_X12_slide_39 at hD
  refine r_iload hK d_X12_slide_39 rfl ?_
  refine r_aload_n hK d_X12_slide_41 rfl rfl ?_
  refine r_iload_n hK d_X12_slide_42 rfl rfl ?_
  refine r_iconst hK d_X12_slide_43 ci_0 ?_
  obtain ⟨v3, u2, e1, hD⟩ := bd_e hD
  refine r_callV (As := [.int x1, .int (0 : Int32)]) (st := [.int x4]) (stk2 := [.int v3, .int x4]) hK (C_X12_of  e1) d_X12_slide_44 mf_X12_of ml_RX12_302 im_X12_of rfl se_11_RX12_X12_of kd_78 rfl (Nat.le_of_ble_eq_true rfl) (by decide) ⟨Nat.zero_le _, Nat.zero_le _⟩ rfl rfl ?_
  refine r_icmp_ge (tgt := 89) hK d_X12_slide_47 (by decide) (fun h4 => ?_) (fun h4 => ?_)
  · have hD := if_t hD h4
    refine r_aload_n hK d_X12_slide_89 rfl rfl ?_
    obtain ⟨u6, e5, hD⟩ := bd0_e hD
    refine r_callV (As := []) (st := []) (stk2 := []) hK (C_X12_putBack  e5) d_X12_slide_90 mf_X12_putBack ml_RX12_405 im_X12_putBack rfl se_11_RX12_X12_putBack kd_78 rfl (Nat.le_of_ble_eq_true rfl) (by decide) ⟨Nat.zero_le _, Nat.zero_le _⟩ rfl rfl ?_
    refine r_iload_n hK d_X12_slide_93 rfl rfl ?_
    cases hD
    exact r_iret hK d_X12_slide_94
  · have hD := if_f hD h4
    refine r_iload_n hK d_X12_slide_50 rfl rfl ?_
    refine r_aload_n hK d_X12_slide_51 rfl rfl ?_
    refine r_iload_n hK d_X12_slide_52 rfl rfl ?_
    refine r_iload hK d_X12_slide_53 rfl ?_
    obtain ⟨v9, u8, e7, hD⟩ := bd_e hD
    refine r_callV (As := [.int x1, .int x4]) (st := [.int x3]) (stk2 := [.int v9, .int x3]) hK (C_X12_units  e7) d_X12_slide_55 mf_X12_units ml_RX12_305 im_X12_units rfl se_11_RX12_X12_units kd_78 rfl (Nat.le_of_ble_eq_true rfl) (by decide) ⟨Nat.zero_le _, Nat.zero_le _⟩ rfl rfl ?_
    refine r_aload_n hK d_X12_slide_58 rfl rfl ?_
    refine r_getR hK d_X12_slide_59 fl_RX12_74_11 rfl kd_78 ?_
    refine r_ref (b := 90) R0_78_31 ?_
    refine r_aload_n hK d_X12_slide_62 rfl rfl ?_
    refine r_iload_n hK d_X12_slide_63 rfl rfl ?_
    refine r_iload hK d_X12_slide_64 rfl ?_
    obtain ⟨v12, u11, e10, hD⟩ := bd_e hD
    refine r_callV (As := [.int x1, .int x4]) (st := [.ref 90, .int v9, .int x3]) (stk2 := [.int v12, .ref 90, .int v9, .int x3]) hK (C_X12_placeIn  e10) d_X12_slide_66 mf_X12_placeIn ml_RX12_299 im_X12_placeIn rfl se_11_RX12_X12_placeIn kd_78 rfl (Nat.le_of_ble_eq_true rfl) (by decide) ⟨Nat.zero_le _, Nat.zero_le _⟩ rfl rfl ?_
    obtain ⟨h13, hD⟩ := ck_e hD
    refine r_iald hK d_X12_slide_69 kd_90 ln_90 (inb_in h13) ?_
    refine r_icmp_ge (tgt := 80) hK d_X12_slide_70 (by decide) (fun h14 => ?_) (fun h14 => ?_)
    · have hD := if_t hD h14
      refine r_iconst hK d_X12_slide_80 ci_0 ?_
      refine r_ior hK d_X12_slide_81 ?_
      refine r_lti hD (fun v15 hD => ?_)
      refine r_istore_n hK d_X12_slide_82 rfl (by decide) (ls2 := [.ref 78, .int x1, gs_J, .int v15, .int x4]) rfl ?_
      refine r_iinc hK d_X12_slide_83 rfl (v := x4 + (1 : Int32)) (by rw [ci_1]) (by decide) (ls2 := [.ref 78, .int x1, gs_J, .int v15, .int (x4 + (1 : Int32))]) rfl ?_
      refine r_goto (tgt := 39) hK d_X12_slide_86 (by decide) ?_
      exact hq39 _ _ _ _  hD
    · have hD := if_f hD h14
      refine r_iconst hK d_X12_slide_73 ci_1 ?_
      refine r_iload hK d_X12_slide_74 rfl ?_
      refine r_ishl hK d_X12_slide_76 ?_
      refine r_goto (tgt := 81) hK d_X12_slide_77 (by decide) ?_
      refine r_ior hK d_X12_slide_81 ?_
      refine r_lti hD (fun v16 hD => ?_)
      refine r_istore_n hK d_X12_slide_82 rfl (by decide) (ls2 := [.ref 78, .int x1, gs_J, .int v16, .int x4]) rfl ?_
      refine r_iinc hK d_X12_slide_83 rfl (v := x4 + (1 : Int32)) (by rw [ci_1]) (by decide) (ls2 := [.ref 78, .int x1, gs_J, .int v16, .int (x4 + (1 : Int32))]) rfl ?_
      refine r_goto (tgt := 39) hK d_X12_slide_86 (by decide) ?_
      exact hq39 _ _ _ _  hD
set_option maxRecDepth 20000 in
theorem TL_X12_slide_39  (hK : KC p R s m args meth c ad g tyc RX12 cX12_slide 5 (some .int) 6) {r : Int32} {μ2 : gs_M}   : ∀ (n : Nat) (x1 : Int32) (x3 : Int32) (x4 : Int32) (μ : gs_M), L_X12_slide_39  n x1 x3 x4 μ = some (r, μ2) → WJ p l e R s m args below meth c 0 0 (MQ below (gs_Q ad g tyc (some (.int r)) μ2) args s 0 0 (gs_A ad)) ad g tyc 5 39 [.ref 78, .int x1, gs_J, .int x3, .int x4] [] μ := by
  intro n
  induction n with
  | zero => intro x1 x3 x4 μ  hD; cases hD
  | succ n ih => intro x1 x3 x4 μ  hD; exact To_X12_slide_39 hK  ih  hD
set_option maxRecDepth 20000 in
theorem C_X12_slide  {x1 : Int32} {x2 : Int32} {μ : gs_M} {r : Int32} {μ2 : gs_M}  (hD : D_X12_slide x1 x2 μ = some (r, μ2)) : CALL yX12_slide cX12_slide 5 (some .int) 6 [.ref 78, .int x1, .int x2] μ (some (.int r)) μ2 := by
  unfold D_X12_slide at hD
  refine gs_enter mf_X12_slide (Nat.le_of_ble_eq_true rfl) (ls := [.ref 78, .int x1, .int x2, gs_J, gs_J]) rfl (fun p l e R s m args below meth c ad g tyc hK => ?_)
  have hK : KC p R s m args meth c ad g tyc RX12 cX12_slide 5 (some .int) 6 := hK
  refine r_aload_n hK d_X12_slide_0 rfl rfl ?_
  refine r_iconst hK d_X12_slide_1 ci_0 ?_
  refine r_putI hK d_X12_slide_2 fl_RX12_98_11 rfl rfl kd_78 ?_
  refine r_ltm hD (fun u1 hD => ?_)
  refine r_aload_n hK d_X12_slide_5 rfl rfl ?_
  refine r_iload_n hK d_X12_slide_6 rfl rfl ?_
  obtain ⟨v4, u3, e2, hD⟩ := bd_e hD
  refine r_callV (As := [.int x1]) (st := []) (stk2 := [.int v4]) hK (C_X12_isOpen  e2) d_X12_slide_7 mf_X12_isOpen ml_RX12_452 im_X12_isOpen rfl se_11_RX12_X12_isOpen kd_78 rfl (Nat.le_of_ble_eq_true rfl) (by decide) ⟨Nat.zero_le _, Nat.zero_le _⟩ rfl rfl ?_
  refine r_if_eq (tgt := 23) hK d_X12_slide_10 (by decide) (fun h5 => ?_) (fun h5 => ?_)
  · have hD := if_t hD h5
    refine r_iconst hK d_X12_slide_23 ci_m1 ?_
    cases hD
    exact r_iret hK d_X12_slide_24
  · have hD := if_f hD h5
    refine r_iload_n hK d_X12_slide_13 rfl rfl ?_
    refine r_iconst hK d_X12_slide_14 ci_0 ?_
    refine r_bipush hK d_X12_slide_15 cb_40 ?_
    obtain ⟨v8, u7, e6, hD⟩ := bd_e hD
    refine r_callS (As := [.int x2, .int (0 : Int32), .int (40 : Int32)]) (st := []) (stk2 := [.int v8]) hK (C_X12_isIn  e6) d_X12_slide_17 mf_X12_isIn ml_RX12_217 ss_X12_isIn rfl (Nat.le_of_ble_eq_true rfl) (by decide) ⟨Nat.zero_le _, Nat.zero_le _⟩ rfl rfl ?_
    refine r_if_ne (tgt := 25) hK d_X12_slide_20 (by decide) (fun h9 => ?_) (fun h9 => ?_)
    · have hD := if_f hD h9
      refine r_iconst hK d_X12_slide_25 ci_0 ?_
      refine r_istore_n hK d_X12_slide_26 rfl (by decide) (ls2 := [.ref 78, .int x1, .int x2, .int (0 : Int32), gs_J]) rfl ?_
      refine r_aload_n hK d_X12_slide_27 rfl rfl ?_
      obtain ⟨u11, e10, hD⟩ := bd0_e hD
      refine r_callV (As := []) (st := []) (stk2 := []) hK (C_X12_keeps  e10) d_X12_slide_28 mf_X12_keeps ml_RX12_402 im_X12_keeps rfl se_11_RX12_X12_keeps kd_78 rfl (Nat.le_of_ble_eq_true rfl) (by decide) ⟨Nat.zero_le _, Nat.zero_le _⟩ rfl rfl ?_
      refine r_aload_n hK d_X12_slide_31 rfl rfl ?_
      refine r_iload_n hK d_X12_slide_32 rfl rfl ?_
      obtain ⟨u13, e12, hD⟩ := bd0_e hD
      refine r_callV (As := [.int x2]) (st := []) (stk2 := []) hK (C_X12_rolls  e12) d_X12_slide_33 mf_X12_rolls ml_RX12_376 im_X12_rolls rfl se_11_RX12_X12_rolls kd_78 rfl (Nat.le_of_ble_eq_true rfl) (by decide) ⟨Nat.zero_le _, Nat.zero_le _⟩ rfl rfl ?_
      refine r_iconst hK d_X12_slide_36 ci_0 ?_
      refine r_istore hK d_X12_slide_37 (by decide) (ls2 := [.ref 78, .int x1, .int x2, .int (0 : Int32), .int (0 : Int32)]) rfl ?_
      refine r_junk [true, true, false, true, true] (ls2 := [.ref 78, .int x1, gs_J, .int (0 : Int32), .int (0 : Int32)]) rfl ?_
      exact TL_X12_slide_39 hK  _ _ _ _ _  hD
    · have hD := if_t hD h9
      refine r_iconst hK d_X12_slide_23 ci_m1 ?_
      cases hD
      exact r_iret hK d_X12_slide_24
end S_X12_slide
theorem d_X12_port_0 : gd cX12_port 0 (.aload_n 0) 1 1 := ⟨by decide +kernel, rfl⟩
theorem d_X12_port_1 : gd cX12_port 1 (.iconst 0) 1 2 := ⟨by decide +kernel, rfl⟩
theorem d_X12_port_2 : gd cX12_port 2 (.putfield 98) 3 5 := ⟨by decide +kernel, rfl⟩
theorem d_X12_port_5 : gd cX12_port 5 (.aload_n 0) 1 6 := ⟨by decide +kernel, rfl⟩
theorem d_X12_port_6 : gd cX12_port 6 (.getfield 458) 3 9 := ⟨by decide +kernel, rfl⟩
theorem d_X12_port_9 : gd cX12_port 9 (.bipush 6) 2 11 := ⟨by decide +kernel, rfl⟩
theorem d_X12_port_11 : gd cX12_port 11 (.if_icmp .eq 24) 3 14 := ⟨by decide +kernel, rfl⟩
theorem d_X12_port_14 : gd cX12_port 14 (.iload_n 1) 1 15 := ⟨by decide +kernel, rfl⟩
theorem d_X12_port_15 : gd cX12_port 15 (.iconst 1) 1 16 := ⟨by decide +kernel, rfl⟩
theorem d_X12_port_16 : gd cX12_port 16 (.bipush 9) 2 18 := ⟨by decide +kernel, rfl⟩
theorem d_X12_port_18 : gd cX12_port 18 (.invokestatic 217) 3 21 := ⟨by decide +kernel, rfl⟩
theorem d_X12_port_21 : gd cX12_port 21 (.ifCond .eq 14) 3 24 := ⟨by decide +kernel, rfl⟩
theorem d_X12_port_24 : gd cX12_port 24 (.iload_n 2) 1 25 := ⟨by decide +kernel, rfl⟩
theorem d_X12_port_25 : gd cX12_port 25 (.iconst 0) 1 26 := ⟨by decide +kernel, rfl⟩
theorem d_X12_port_26 : gd cX12_port 26 (.sipush 9999) 3 29 := ⟨by decide +kernel, rfl⟩
theorem d_X12_port_29 : gd cX12_port 29 (.invokestatic 217) 3 32 := ⟨by decide +kernel, rfl⟩
theorem d_X12_port_32 : gd cX12_port 32 (.ifCond .ne 5) 3 35 := ⟨by decide +kernel, rfl⟩
theorem d_X12_port_35 : gd cX12_port 35 (.iconst (-1)) 1 36 := ⟨by decide +kernel, rfl⟩
theorem d_X12_port_36 : gd cX12_port 36 .ireturn 1 37 := ⟨by decide +kernel, rfl⟩
theorem d_X12_port_37 : gd cX12_port 37 (.aload_n 0) 1 38 := ⟨by decide +kernel, rfl⟩
theorem d_X12_port_38 : gd cX12_port 38 (.getfield 92) 3 41 := ⟨by decide +kernel, rfl⟩
theorem d_X12_port_41 : gd cX12_port 41 (.aload_n 0) 1 42 := ⟨by decide +kernel, rfl⟩
theorem d_X12_port_42 : gd cX12_port 42 (.getfield 458) 3 45 := ⟨by decide +kernel, rfl⟩
theorem d_X12_port_45 : gd cX12_port 45 (.iload_n 1) 1 46 := ⟨by decide +kernel, rfl⟩
theorem d_X12_port_46 : gd cX12_port 46 .iastore 1 47 := ⟨by decide +kernel, rfl⟩
theorem d_X12_port_47 : gd cX12_port 47 (.aload_n 0) 1 48 := ⟨by decide +kernel, rfl⟩
theorem d_X12_port_48 : gd cX12_port 48 (.getfield 95) 3 51 := ⟨by decide +kernel, rfl⟩
theorem d_X12_port_51 : gd cX12_port 51 (.aload_n 0) 1 52 := ⟨by decide +kernel, rfl⟩
theorem d_X12_port_52 : gd cX12_port 52 (.getfield 458) 3 55 := ⟨by decide +kernel, rfl⟩
theorem d_X12_port_55 : gd cX12_port 55 (.iload_n 2) 1 56 := ⟨by decide +kernel, rfl⟩
theorem d_X12_port_56 : gd cX12_port 56 .iastore 1 57 := ⟨by decide +kernel, rfl⟩
theorem d_X12_port_57 : gd cX12_port 57 (.aload_n 0) 1 58 := ⟨by decide +kernel, rfl⟩
theorem d_X12_port_58 : gd cX12_port 58 .dup 1 59 := ⟨by decide +kernel, rfl⟩
theorem d_X12_port_59 : gd cX12_port 59 (.getfield 458) 3 62 := ⟨by decide +kernel, rfl⟩
theorem d_X12_port_62 : gd cX12_port 62 (.iconst 1) 1 63 := ⟨by decide +kernel, rfl⟩
theorem d_X12_port_63 : gd cX12_port 63 .iadd 1 64 := ⟨by decide +kernel, rfl⟩
theorem d_X12_port_64 : gd cX12_port 64 (.putfield 458) 3 67 := ⟨by decide +kernel, rfl⟩
theorem d_X12_port_67 : gd cX12_port 67 (.aload_n 0) 1 68 := ⟨by decide +kernel, rfl⟩
theorem d_X12_port_68 : gd cX12_port 68 (.getfield 458) 3 71 := ⟨by decide +kernel, rfl⟩
theorem d_X12_port_71 : gd cX12_port 71 (.iconst 1) 1 72 := ⟨by decide +kernel, rfl⟩
theorem d_X12_port_72 : gd cX12_port 72 .isub 1 73 := ⟨by decide +kernel, rfl⟩
theorem d_X12_port_73 : gd cX12_port 73 .ireturn 1 74 := ⟨by decide +kernel, rfl⟩
def D_X12_port (x1 : Int32) (x2 : Int32) (μ : gs_M) : Option (Int32 × gs_M) :=
  lt1 (sI μ 78 0 (0 : Int32)) (fun u1 => if (gI u1 78 48) = (6 : Int32) then (some ((-1 : Int32), u1)) else (bd (D_X12_isIn x1 (1 : Int32) (9 : Int32) u1) (fun v5 u4 => if v5 = 0 then (some ((-1 : Int32), u4)) else (bd (D_X12_isIn x2 (0 : Int32) (9999 : Int32) u4) (fun v9 u8 => if v9 = 0 then (some ((-1 : Int32), u8)) else (ck (inb (gI u8 78 48) 6) (lt1 (sI u8 96 (Int32.toNatClampNeg (gI u8 78 48)) x1) (fun u12 => ck (inb (gI u12 78 48) 6) (lt1 (sI u12 97 (Int32.toNatClampNeg (gI u12 78 48)) x2) (fun u14 => lt1 (sI u14 78 48 ((gI u14 78 48) + (1 : Int32))) (fun u15 => some ((gI u15 78 48) - (1 : Int32), u15))))))))))))
section S_X12_port
variable {p : Program} {l : Launch} {e : Env} {R : Room} {s : State} {m : MethodId} {args : Array Value} {below : List Frame} {meth : Method} {c : Code} {ad : Nat → Nat} {g : va_G} {tyc : Nat → ClassId}
set_option maxRecDepth 20000 in
theorem C_X12_port  {x1 : Int32} {x2 : Int32} {μ : gs_M} {r : Int32} {μ2 : gs_M}  (hD : D_X12_port x1 x2 μ = some (r, μ2)) : CALL yX12_port cX12_port 3 (some .int) 1 [.ref 78, .int x1, .int x2] μ (some (.int r)) μ2 := by
  unfold D_X12_port at hD
  refine gs_enter mf_X12_port (Nat.le_of_ble_eq_true rfl) (ls := [.ref 78, .int x1, .int x2]) rfl (fun p l e R s m args below meth c ad g tyc hK => ?_)
  have hK : KC p R s m args meth c ad g tyc RX12 cX12_port 3 (some .int) 1 := hK
  refine r_aload_n hK d_X12_port_0 rfl rfl ?_
  refine r_iconst hK d_X12_port_1 ci_0 ?_
  refine r_putI hK d_X12_port_2 fl_RX12_98_11 rfl rfl kd_78 ?_
  refine r_ltm hD (fun u1 hD => ?_)
  refine r_aload_n hK d_X12_port_5 rfl rfl ?_
  refine r_getI hK d_X12_port_6 fl_RX12_458_11 rfl kd_78 ?_
  refine r_bipush hK d_X12_port_9 cb_6 ?_
  refine r_icmp_eq (tgt := 35) hK d_X12_port_11 (by decide) (fun h2 => ?_) (fun h2 => ?_)
  · have hD := if_t hD h2
    refine r_iconst hK d_X12_port_35 ci_m1 ?_
    cases hD
    exact r_iret hK d_X12_port_36
  · have hD := if_f hD h2
    refine r_iload_n hK d_X12_port_14 rfl rfl ?_
    refine r_iconst hK d_X12_port_15 ci_1 ?_
    refine r_bipush hK d_X12_port_16 cb_9 ?_
    obtain ⟨v5, u4, e3, hD⟩ := bd_e hD
    refine r_callS (As := [.int x1, .int (1 : Int32), .int (9 : Int32)]) (st := []) (stk2 := [.int v5]) hK (C_X12_isIn  e3) d_X12_port_18 mf_X12_isIn ml_RX12_217 ss_X12_isIn rfl (Nat.le_of_ble_eq_true rfl) (by decide) ⟨Nat.zero_le _, Nat.zero_le _⟩ rfl rfl ?_
    refine r_if_eq (tgt := 35) hK d_X12_port_21 (by decide) (fun h6 => ?_) (fun h6 => ?_)
    · have hD := if_t hD h6
      refine r_iconst hK d_X12_port_35 ci_m1 ?_
      cases hD
      exact r_iret hK d_X12_port_36
    · have hD := if_f hD h6
      refine r_iload_n hK d_X12_port_24 rfl rfl ?_
      refine r_iconst hK d_X12_port_25 ci_0 ?_
      refine r_sipush hK d_X12_port_26 cs_9999 ?_
      obtain ⟨v9, u8, e7, hD⟩ := bd_e hD
      refine r_callS (As := [.int x2, .int (0 : Int32), .int (9999 : Int32)]) (st := []) (stk2 := [.int v9]) hK (C_X12_isIn  e7) d_X12_port_29 mf_X12_isIn ml_RX12_217 ss_X12_isIn rfl (Nat.le_of_ble_eq_true rfl) (by decide) ⟨Nat.zero_le _, Nat.zero_le _⟩ rfl rfl ?_
      refine r_if_ne (tgt := 37) hK d_X12_port_32 (by decide) (fun h10 => ?_) (fun h10 => ?_)
      · have hD := if_f hD h10
        refine r_aload_n hK d_X12_port_37 rfl rfl ?_
        refine r_getR hK d_X12_port_38 fl_RX12_92_11 rfl kd_78 ?_
        refine r_ref (b := 96) R0_78_46 ?_
        refine r_aload_n hK d_X12_port_41 rfl rfl ?_
        refine r_getI hK d_X12_port_42 fl_RX12_458_11 rfl kd_78 ?_
        refine r_iload_n hK d_X12_port_45 rfl rfl ?_
        obtain ⟨h11, hD⟩ := ck_e hD
        refine r_iast hK d_X12_port_46 kd_96 ln_96 (inb_in h11) ?_
        refine r_ltm hD (fun u12 hD => ?_)
        refine r_aload_n hK d_X12_port_47 rfl rfl ?_
        refine r_getR hK d_X12_port_48 fl_RX12_95_11 rfl kd_78 ?_
        refine r_ref (b := 97) R0_78_47 ?_
        refine r_aload_n hK d_X12_port_51 rfl rfl ?_
        refine r_getI hK d_X12_port_52 fl_RX12_458_11 rfl kd_78 ?_
        refine r_iload_n hK d_X12_port_55 rfl rfl ?_
        obtain ⟨h13, hD⟩ := ck_e hD
        refine r_iast hK d_X12_port_56 kd_97 ln_97 (inb_in h13) ?_
        refine r_ltm hD (fun u14 hD => ?_)
        refine r_aload_n hK d_X12_port_57 rfl rfl ?_
        refine r_dup hK d_X12_port_58 rfl ?_
        refine r_getI hK d_X12_port_59 fl_RX12_458_11 rfl kd_78 ?_
        refine r_iconst hK d_X12_port_62 ci_1 ?_
        refine r_iadd hK d_X12_port_63 ?_
        refine r_putI hK d_X12_port_64 fl_RX12_458_11 rfl rfl kd_78 ?_
        refine r_ltm hD (fun u15 hD => ?_)
        refine r_aload_n hK d_X12_port_67 rfl rfl ?_
        refine r_getI hK d_X12_port_68 fl_RX12_458_11 rfl kd_78 ?_
        refine r_iconst hK d_X12_port_71 ci_1 ?_
        refine r_isub hK d_X12_port_72 ?_
        cases hD
        exact r_iret hK d_X12_port_73
      · have hD := if_t hD h10
        refine r_iconst hK d_X12_port_35 ci_m1 ?_
        cases hD
        exact r_iret hK d_X12_port_36
end S_X12_port
theorem d_X12_isReached_0 : gd cX12_isReached 0 (.aload_n 0) 1 1 := ⟨by decide +kernel, rfl⟩
theorem d_X12_isReached_1 : gd cX12_isReached 1 (.invokevirtual 402) 3 4 := ⟨by decide +kernel, rfl⟩
theorem d_X12_isReached_4 : gd cX12_isReached 4 (.aload_n 0) 1 5 := ⟨by decide +kernel, rfl⟩
theorem d_X12_isReached_5 : gd cX12_isReached 5 (.iload_n 1) 1 6 := ⟨by decide +kernel, rfl⟩
theorem d_X12_isReached_6 : gd cX12_isReached 6 (.aload_n 0) 1 7 := ⟨by decide +kernel, rfl⟩
theorem d_X12_isReached_7 : gd cX12_isReached 7 (.getfield 92) 3 10 := ⟨by decide +kernel, rfl⟩
theorem d_X12_isReached_10 : gd cX12_isReached 10 (.iload_n 2) 1 11 := ⟨by decide +kernel, rfl⟩
theorem d_X12_isReached_11 : gd cX12_isReached 11 .iaload 1 12 := ⟨by decide +kernel, rfl⟩
theorem d_X12_isReached_12 : gd cX12_isReached 12 (.invokevirtual 417) 3 15 := ⟨by decide +kernel, rfl⟩
theorem d_X12_isReached_15 : gd cX12_isReached 15 (.aload_n 0) 1 16 := ⟨by decide +kernel, rfl⟩
theorem d_X12_isReached_16 : gd cX12_isReached 16 (.bipush 79) 2 18 := ⟨by decide +kernel, rfl⟩
theorem d_X12_isReached_18 : gd cX12_isReached 18 (.invokevirtual 337) 3 21 := ⟨by decide +kernel, rfl⟩
theorem d_X12_isReached_21 : gd cX12_isReached 21 (.ifCond .ne 7) 3 24 := ⟨by decide +kernel, rfl⟩
theorem d_X12_isReached_24 : gd cX12_isReached 24 (.iconst 1) 1 25 := ⟨by decide +kernel, rfl⟩
theorem d_X12_isReached_25 : gd cX12_isReached 25 (.goto 4) 3 28 := ⟨by decide +kernel, rfl⟩
theorem d_X12_isReached_28 : gd cX12_isReached 28 (.iconst 0) 1 29 := ⟨by decide +kernel, rfl⟩
theorem d_X12_isReached_29 : gd cX12_isReached 29 (.istore_n 3) 1 30 := ⟨by decide +kernel, rfl⟩
theorem d_X12_isReached_30 : gd cX12_isReached 30 (.aload_n 0) 1 31 := ⟨by decide +kernel, rfl⟩
theorem d_X12_isReached_31 : gd cX12_isReached 31 (.invokevirtual 405) 3 34 := ⟨by decide +kernel, rfl⟩
theorem d_X12_isReached_34 : gd cX12_isReached 34 (.iload_n 3) 1 35 := ⟨by decide +kernel, rfl⟩
theorem d_X12_isReached_35 : gd cX12_isReached 35 .ireturn 1 36 := ⟨by decide +kernel, rfl⟩
def B_X12_isReached_29  (xs0 : Int32) (μ : gs_M) : Option (Int32 × gs_M) :=
  bd0 (D_X12_putBack μ) (fun u2 => ck (zb xs0) (some (xs0, u2)))
def D_X12_isReached (x1 : Int32) (x2 : Int32) (μ : gs_M) : Option (Int32 × gs_M) :=
  bd0 (D_X12_keeps μ) (fun u2 => ck (inb x2 6) (bd0 (D_X12_voyage x1 (gI u2 96 (Int32.toNatClampNeg x2)) u2) (fun u5 => bd (D_X12_now (79 : Int32) u5) (fun v8 u7 => if v8 = 0 then (B_X12_isReached_29 (1 : Int32) u7) else (B_X12_isReached_29 (0 : Int32) u7)))))
section S_X12_isReached
variable {p : Program} {l : Launch} {e : Env} {R : Room} {s : State} {m : MethodId} {args : Array Value} {below : List Frame} {meth : Method} {c : Code} {ad : Nat → Nat} {g : va_G} {tyc : Nat → ClassId}
set_option maxRecDepth 20000 in
theorem T_X12_isReached_29  (hK : KC p R s m args meth c ad g tyc RX12 cX12_isReached 4 (some .boolean) 8) {r : Int32} {μ2 : gs_M}   {xs0 : Int32} {μ : gs_M}  (hD : B_X12_isReached_29  xs0 μ = some (r, μ2)) : WJ p l e R s m args below meth c 0 0 (MQ below (gs_Q ad g tyc (some (.int r)) μ2) args s 0 0 (gs_A ad)) ad g tyc 4 29 [.ref 78, gs_J, gs_J, gs_J] [.int xs0] μ := by
  unfold B_X12_isReached_29 at hD
  refine r_istore_n hK d_X12_isReached_29 rfl (by decide) (ls2 := [.ref 78, gs_J, gs_J, .int xs0]) rfl ?_
  refine r_aload_n hK d_X12_isReached_30 rfl rfl ?_
  obtain ⟨u2, e1, hD⟩ := bd0_e hD
  refine r_callV (As := []) (st := []) (stk2 := []) hK (C_X12_putBack  e1) d_X12_isReached_31 mf_X12_putBack ml_RX12_405 im_X12_putBack rfl se_11_RX12_X12_putBack kd_78 rfl (Nat.le_of_ble_eq_true rfl) (by decide) ⟨Nat.zero_le _, Nat.zero_le _⟩ rfl rfl ?_
  refine r_iload_n hK d_X12_isReached_34 rfl rfl ?_
  obtain ⟨h3, hD⟩ := ck_e hD
  cases hD
  exact r_zret hK (zb_e h3) d_X12_isReached_35
set_option maxRecDepth 20000 in
theorem C_X12_isReached  {x1 : Int32} {x2 : Int32} {μ : gs_M} {r : Int32} {μ2 : gs_M}  (hD : D_X12_isReached x1 x2 μ = some (r, μ2)) : CALL yX12_isReached cX12_isReached 4 (some .boolean) 8 [.ref 78, .int x1, .int x2] μ (some (.int r)) μ2 := by
  unfold D_X12_isReached at hD
  refine gs_enter mf_X12_isReached (Nat.le_of_ble_eq_true rfl) (ls := [.ref 78, .int x1, .int x2, gs_J]) rfl (fun p l e R s m args below meth c ad g tyc hK => ?_)
  have hK : KC p R s m args meth c ad g tyc RX12 cX12_isReached 4 (some .boolean) 8 := hK
  refine r_aload_n hK d_X12_isReached_0 rfl rfl ?_
  obtain ⟨u2, e1, hD⟩ := bd0_e hD
  refine r_callV (As := []) (st := []) (stk2 := []) hK (C_X12_keeps  e1) d_X12_isReached_1 mf_X12_keeps ml_RX12_402 im_X12_keeps rfl se_11_RX12_X12_keeps kd_78 rfl (Nat.le_of_ble_eq_true rfl) (by decide) ⟨Nat.zero_le _, Nat.zero_le _⟩ rfl rfl ?_
  refine r_aload_n hK d_X12_isReached_4 rfl rfl ?_
  refine r_iload_n hK d_X12_isReached_5 rfl rfl ?_
  refine r_aload_n hK d_X12_isReached_6 rfl rfl ?_
  refine r_getR hK d_X12_isReached_7 fl_RX12_92_11 rfl kd_78 ?_
  refine r_ref (b := 96) R0_78_46 ?_
  refine r_iload_n hK d_X12_isReached_10 rfl rfl ?_
  obtain ⟨h3, hD⟩ := ck_e hD
  refine r_iald hK d_X12_isReached_11 kd_96 ln_96 (inb_in h3) ?_
  obtain ⟨u5, e4, hD⟩ := bd0_e hD
  refine r_callV (As := [.int x1, .int (gI u2 96 (Int32.toNatClampNeg x2))]) (st := []) (stk2 := []) hK (C_X12_voyage  e4) d_X12_isReached_12 mf_X12_voyage ml_RX12_417 im_X12_voyage rfl se_11_RX12_X12_voyage kd_78 rfl (Nat.le_of_ble_eq_true rfl) (by decide) ⟨Nat.zero_le _, Nat.zero_le _⟩ rfl rfl ?_
  refine r_aload_n hK d_X12_isReached_15 rfl rfl ?_
  refine r_bipush hK d_X12_isReached_16 cb_79 ?_
  obtain ⟨v8, u7, e6, hD⟩ := bd_e hD
  refine r_callV (As := [.int (79 : Int32)]) (st := []) (stk2 := [.int v8]) hK (C_X12_now  e6) d_X12_isReached_18 mf_X12_now ml_RX12_337 im_X12_now rfl se_11_RX12_X12_now kd_78 rfl (Nat.le_of_ble_eq_true rfl) (by decide) ⟨Nat.zero_le _, Nat.zero_le _⟩ rfl rfl ?_
  refine r_if_ne (tgt := 28) hK d_X12_isReached_21 (by decide) (fun h9 => ?_) (fun h9 => ?_)
  · have hD := if_f hD h9
    refine r_iconst hK d_X12_isReached_28 ci_0 ?_
    refine r_junk [true, false, false, false] (ls2 := [.ref 78, gs_J, gs_J, gs_J]) rfl ?_
    exact T_X12_isReached_29 hK   hD
  · have hD := if_t hD h9
    refine r_iconst hK d_X12_isReached_24 ci_1 ?_
    refine r_goto (tgt := 29) hK d_X12_isReached_25 (by decide) ?_
    refine r_junk [true, false, false, false] (ls2 := [.ref 78, gs_J, gs_J, gs_J]) rfl ?_
    exact T_X12_isReached_29 hK   hD
end S_X12_isReached
theorem d_X12_reach_0 : gd cX12_reach 0 (.aload_n 0) 1 1 := ⟨by decide +kernel, rfl⟩
theorem d_X12_reach_1 : gd cX12_reach 1 (.iconst 0) 1 2 := ⟨by decide +kernel, rfl⟩
theorem d_X12_reach_2 : gd cX12_reach 2 (.putfield 98) 3 5 := ⟨by decide +kernel, rfl⟩
theorem d_X12_reach_5 : gd cX12_reach 5 (.aload_n 0) 1 6 := ⟨by decide +kernel, rfl⟩
theorem d_X12_reach_6 : gd cX12_reach 6 (.invokevirtual 373) 3 9 := ⟨by decide +kernel, rfl⟩
theorem d_X12_reach_9 : gd cX12_reach 9 (.ifCond .eq 22) 3 12 := ⟨by decide +kernel, rfl⟩
theorem d_X12_reach_12 : gd cX12_reach 12 (.iload_n 1) 1 13 := ⟨by decide +kernel, rfl⟩
theorem d_X12_reach_13 : gd cX12_reach 13 (.iconst 0) 1 14 := ⟨by decide +kernel, rfl⟩
theorem d_X12_reach_14 : gd cX12_reach 14 (.bipush 30) 2 16 := ⟨by decide +kernel, rfl⟩
theorem d_X12_reach_16 : gd cX12_reach 16 (.invokestatic 217) 3 19 := ⟨by decide +kernel, rfl⟩
theorem d_X12_reach_19 : gd cX12_reach 19 (.ifCond .eq 12) 3 22 := ⟨by decide +kernel, rfl⟩
theorem d_X12_reach_22 : gd cX12_reach 22 (.iload_n 2) 1 23 := ⟨by decide +kernel, rfl⟩
theorem d_X12_reach_23 : gd cX12_reach 23 (.iconst 0) 1 24 := ⟨by decide +kernel, rfl⟩
theorem d_X12_reach_24 : gd cX12_reach 24 (.iconst 1) 1 25 := ⟨by decide +kernel, rfl⟩
theorem d_X12_reach_25 : gd cX12_reach 25 (.invokestatic 217) 3 28 := ⟨by decide +kernel, rfl⟩
theorem d_X12_reach_28 : gd cX12_reach 28 (.ifCond .ne 7) 3 31 := ⟨by decide +kernel, rfl⟩
theorem d_X12_reach_31 : gd cX12_reach 31 (.ldc_w 394) 3 34 := ⟨by decide +kernel, rfl⟩
theorem d_X12_reach_34 : gd cX12_reach 34 .ireturn 1 35 := ⟨by decide +kernel, rfl⟩
theorem d_X12_reach_35 : gd cX12_reach 35 (.iconst 0) 1 36 := ⟨by decide +kernel, rfl⟩
theorem d_X12_reach_36 : gd cX12_reach 36 (.istore_n 3) 1 37 := ⟨by decide +kernel, rfl⟩
theorem d_X12_reach_37 : gd cX12_reach 37 (.iconst (-1)) 1 38 := ⟨by decide +kernel, rfl⟩
theorem d_X12_reach_38 : gd cX12_reach 38 (.istore 4) 2 40 := ⟨by decide +kernel, rfl⟩
theorem d_X12_reach_40 : gd cX12_reach 40 (.iconst 0) 1 41 := ⟨by decide +kernel, rfl⟩
theorem d_X12_reach_41 : gd cX12_reach 41 (.istore 5) 2 43 := ⟨by decide +kernel, rfl⟩
theorem d_X12_reach_43 : gd cX12_reach 43 (.iload 5) 2 45 := ⟨by decide +kernel, rfl⟩
theorem d_X12_reach_45 : gd cX12_reach 45 (.aload_n 0) 1 46 := ⟨by decide +kernel, rfl⟩
theorem d_X12_reach_46 : gd cX12_reach 46 (.getfield 458) 3 49 := ⟨by decide +kernel, rfl⟩
theorem d_X12_reach_49 : gd cX12_reach 49 (.if_icmp .ge 56) 3 52 := ⟨by decide +kernel, rfl⟩
theorem d_X12_reach_52 : gd cX12_reach 52 (.aload_n 0) 1 53 := ⟨by decide +kernel, rfl⟩
theorem d_X12_reach_53 : gd cX12_reach 53 (.iload_n 1) 1 54 := ⟨by decide +kernel, rfl⟩
theorem d_X12_reach_54 : gd cX12_reach 54 (.iload 5) 2 56 := ⟨by decide +kernel, rfl⟩
theorem d_X12_reach_56 : gd cX12_reach 56 (.invokevirtual 461) 3 59 := ⟨by decide +kernel, rfl⟩
theorem d_X12_reach_59 : gd cX12_reach 59 (.ifCond .ne 6) 3 62 := ⟨by decide +kernel, rfl⟩
theorem d_X12_reach_62 : gd cX12_reach 62 (.goto 37) 3 65 := ⟨by decide +kernel, rfl⟩
theorem d_X12_reach_65 : gd cX12_reach 65 (.iload_n 3) 1 66 := ⟨by decide +kernel, rfl⟩
theorem d_X12_reach_66 : gd cX12_reach 66 (.iconst 1) 1 67 := ⟨by decide +kernel, rfl⟩
theorem d_X12_reach_67 : gd cX12_reach 67 (.iload 5) 2 69 := ⟨by decide +kernel, rfl⟩
theorem d_X12_reach_69 : gd cX12_reach 69 .ishl 1 70 := ⟨by decide +kernel, rfl⟩
theorem d_X12_reach_70 : gd cX12_reach 70 .ior 1 71 := ⟨by decide +kernel, rfl⟩
theorem d_X12_reach_71 : gd cX12_reach 71 (.istore_n 3) 1 72 := ⟨by decide +kernel, rfl⟩
theorem d_X12_reach_72 : gd cX12_reach 72 (.iload 4) 2 74 := ⟨by decide +kernel, rfl⟩
theorem d_X12_reach_74 : gd cX12_reach 74 (.iconst (-1)) 1 75 := ⟨by decide +kernel, rfl⟩
theorem d_X12_reach_75 : gd cX12_reach 75 (.if_icmp .eq 20) 3 78 := ⟨by decide +kernel, rfl⟩
theorem d_X12_reach_78 : gd cX12_reach 78 (.aload_n 0) 1 79 := ⟨by decide +kernel, rfl⟩
theorem d_X12_reach_79 : gd cX12_reach 79 (.getfield 95) 3 82 := ⟨by decide +kernel, rfl⟩
theorem d_X12_reach_82 : gd cX12_reach 82 (.iload 5) 2 84 := ⟨by decide +kernel, rfl⟩
theorem d_X12_reach_84 : gd cX12_reach 84 .iaload 1 85 := ⟨by decide +kernel, rfl⟩
theorem d_X12_reach_85 : gd cX12_reach 85 (.aload_n 0) 1 86 := ⟨by decide +kernel, rfl⟩
theorem d_X12_reach_86 : gd cX12_reach 86 (.getfield 95) 3 89 := ⟨by decide +kernel, rfl⟩
theorem d_X12_reach_89 : gd cX12_reach 89 (.iload 4) 2 91 := ⟨by decide +kernel, rfl⟩
theorem d_X12_reach_91 : gd cX12_reach 91 .iaload 1 92 := ⟨by decide +kernel, rfl⟩
theorem d_X12_reach_92 : gd cX12_reach 92 (.if_icmp .le 7) 3 95 := ⟨by decide +kernel, rfl⟩
theorem d_X12_reach_95 : gd cX12_reach 95 (.iload 5) 2 97 := ⟨by decide +kernel, rfl⟩
theorem d_X12_reach_97 : gd cX12_reach 97 (.istore 4) 2 99 := ⟨by decide +kernel, rfl⟩
theorem d_X12_reach_99 : gd cX12_reach 99 (.iinc 5 1) 3 102 := ⟨by decide +kernel, rfl⟩
theorem d_X12_reach_102 : gd cX12_reach 102 (.goto (-59)) 3 105 := ⟨by decide +kernel, rfl⟩
theorem d_X12_reach_105 : gd cX12_reach 105 (.iload_n 2) 1 106 := ⟨by decide +kernel, rfl⟩
theorem d_X12_reach_106 : gd cX12_reach 106 (.ifCond .ne 7) 3 109 := ⟨by decide +kernel, rfl⟩
theorem d_X12_reach_109 : gd cX12_reach 109 (.iload_n 3) 1 110 := ⟨by decide +kernel, rfl⟩
theorem d_X12_reach_110 : gd cX12_reach 110 (.goto 5) 3 113 := ⟨by decide +kernel, rfl⟩
theorem d_X12_reach_113 : gd cX12_reach 113 (.iload 4) 2 115 := ⟨by decide +kernel, rfl⟩
theorem d_X12_reach_115 : gd cX12_reach 115 .ireturn 1 116 := ⟨by decide +kernel, rfl⟩
def B_X12_reach_95 (q43 : Int32 → Int32 → Int32 → Int32 → Int32 → gs_M → Option (Int32 × gs_M)) (x1 : Int32) (x2 : Int32) (x3 : Int32) (x5 : Int32) (μ : gs_M) : Option (Int32 × gs_M) :=
  q43 x1 x2 x3 x5 (x5 + (1 : Int32)) μ
def Bo_X12_reach_43 (q43 : Int32 → Int32 → Int32 → Int32 → Int32 → gs_M → Option (Int32 × gs_M)) (x1 : Int32) (x2 : Int32) (x3 : Int32) (x4 : Int32) (x5 : Int32) (μ : gs_M) : Option (Int32 × gs_M) :=
  if (gI μ 78 48) ≤ x5 then (if x2 = 0 then (some (x3, μ)) else (some (x4, μ))) else (bd (D_X12_isReached x1 x5 μ) (fun v5 u4 => if v5 = 0 then (q43 x1 x2 x3 x4 (x5 + (1 : Int32)) u4) else (lt1 (x3 ||| ((1 : Int32) <<< (x5 &&& 31))) (fun v7 => if x4 = (-1 : Int32) then (B_X12_reach_95 q43 x1 x2 v7 x5 u4) else (ck (inb x5 6) (ck (inb x4 6) (if (gI u4 97 (Int32.toNatClampNeg x5)) ≤ (gI u4 97 (Int32.toNatClampNeg x4)) then (q43 x1 x2 v7 x4 (x5 + (1 : Int32)) u4) else (B_X12_reach_95 q43 x1 x2 v7 x5 u4))))))))
def L_X12_reach_43  : Nat → Int32 → Int32 → Int32 → Int32 → Int32 → gs_M → Option (Int32 × gs_M)
  | 0 => fun _ _ _ _ _ _ => none
  | n + 1 => fun x1 x2 x3 x4 x5 μ => Bo_X12_reach_43  (L_X12_reach_43  n) x1 x2 x3 x4 x5 μ
def D_X12_reach (x1 : Int32) (x2 : Int32) (μ : gs_M) : Option (Int32 × gs_M) :=
  lt1 (sI μ 78 0 (0 : Int32)) (fun u1 => bd (D_X12_isAfloat u1) (fun v4 u3 => if v4 = 0 then (some ((-1000000 : Int32), u3)) else (bd (D_X12_isIn x1 (0 : Int32) (30 : Int32) u3) (fun v8 u7 => if v8 = 0 then (some ((-1000000 : Int32), u7)) else (bd (D_X12_isIn x2 (0 : Int32) (1 : Int32) u7) (fun v12 u11 => if v12 = 0 then (some ((-1000000 : Int32), u11)) else (L_X12_reach_43 4096 x1 x2 (0 : Int32) (-1 : Int32) (0 : Int32) u11)))))))
section S_X12_reach
variable {p : Program} {l : Launch} {e : Env} {R : Room} {s : State} {m : MethodId} {args : Array Value} {below : List Frame} {meth : Method} {c : Code} {ad : Nat → Nat} {g : va_G} {tyc : Nat → ClassId}
set_option maxRecDepth 20000 in
theorem T_X12_reach_95  (hK : KC p R s m args meth c ad g tyc RX12 cX12_reach 6 (some .int) 9) {r : Int32} {μ2 : gs_M} {q43 : Int32 → Int32 → Int32 → Int32 → Int32 → gs_M → Option (Int32 × gs_M)} (hq43 : ∀ (x1 : Int32) (x2 : Int32) (x3 : Int32) (x4 : Int32) (x5 : Int32) (μ : gs_M), q43 x1 x2 x3 x4 x5 μ = some (r, μ2) → WJ p l e R s m args below meth c 0 0 (MQ below (gs_Q ad g tyc (some (.int r)) μ2) args s 0 0 (gs_A ad)) ad g tyc 6 43 [.ref 78, .int x1, .int x2, .int x3, .int x4, .int x5] [] μ) {x1 : Int32} {x2 : Int32} {x3 : Int32} {x5 : Int32} {μ : gs_M}  (hD : B_X12_reach_95 q43 x1 x2 x3 x5 μ = some (r, μ2)) : WJ p l e R s m args below meth c 0 0 (MQ below (gs_Q ad g tyc (some (.int r)) μ2) args s 0 0 (gs_A ad)) ad g tyc 6 95 [.ref 78, .int x1, .int x2, .int x3, gs_J, .int x5] [] μ := by
  unfold B_X12_reach_95 at hD
  refine r_iload hK d_X12_reach_95 rfl ?_
  refine r_istore hK d_X12_reach_97 (by decide) (ls2 := [.ref 78, .int x1, .int x2, .int x3, .int x5, .int x5]) rfl ?_
  refine r_iinc hK d_X12_reach_99 rfl (v := x5 + (1 : Int32)) (by rw [ci_1]) (by decide) (ls2 := [.ref 78, .int x1, .int x2, .int x3, .int x5, .int (x5 + (1 : Int32))]) rfl ?_
  refine r_goto (tgt := 43) hK d_X12_reach_102 (by decide) ?_
  exact hq43 _ _ _ _ _ _  hD
set_option maxRecDepth 20000 in
theorem To_X12_reach_43  (hK : KC p R s m args meth c ad g tyc RX12 cX12_reach 6 (some .int) 9) {r : Int32} {μ2 : gs_M} {q43 : Int32 → Int32 → Int32 → Int32 → Int32 → gs_M → Option (Int32 × gs_M)} (hq43 : ∀ (x1 : Int32) (x2 : Int32) (x3 : Int32) (x4 : Int32) (x5 : Int32) (μ : gs_M), q43 x1 x2 x3 x4 x5 μ = some (r, μ2) → WJ p l e R s m args below meth c 0 0 (MQ below (gs_Q ad g tyc (some (.int r)) μ2) args s 0 0 (gs_A ad)) ad g tyc 6 43 [.ref 78, .int x1, .int x2, .int x3, .int x4, .int x5] [] μ) {x1 : Int32} {x2 : Int32} {x3 : Int32} {x4 : Int32} {x5 : Int32} {μ : gs_M}  (hD : Bo_X12_reach_43 q43 x1 x2 x3 x4 x5 μ = some (r, μ2)) : WJ p l e R s m args below meth c 0 0 (MQ below (gs_Q ad g tyc (some (.int r)) μ2) args s 0 0 (gs_A ad)) ad g tyc 6 43 [.ref 78, .int x1, .int x2, .int x3, .int x4, .int x5] [] μ := by
  unfold Bo_X12_reach_43 at hD
  refine r_iload hK d_X12_reach_43 rfl ?_
  refine r_aload_n hK d_X12_reach_45 rfl rfl ?_
  refine r_getI hK d_X12_reach_46 fl_RX12_458_11 rfl kd_78 ?_
  refine r_icmp_ge (tgt := 105) hK d_X12_reach_49 (by decide) (fun h1 => ?_) (fun h1 => ?_)
  · have hD := if_t hD h1
    refine r_iload_n hK d_X12_reach_105 rfl rfl ?_
    refine r_if_ne (tgt := 113) hK d_X12_reach_106 (by decide) (fun h2 => ?_) (fun h2 => ?_)
    · have hD := if_f hD h2
      refine r_iload hK d_X12_reach_113 rfl ?_
      cases hD
      exact r_iret hK d_X12_reach_115
    · have hD := if_t hD h2
      refine r_iload_n hK d_X12_reach_109 rfl rfl ?_
      refine r_goto (tgt := 115) hK d_X12_reach_110 (by decide) ?_
      cases hD
      exact r_iret hK d_X12_reach_115
  · have hD := if_f hD h1
    refine r_aload_n hK d_X12_reach_52 rfl rfl ?_
    refine r_iload_n hK d_X12_reach_53 rfl rfl ?_
    refine r_iload hK d_X12_reach_54 rfl ?_
    obtain ⟨v5, u4, e3, hD⟩ := bd_e hD
    refine r_callV (As := [.int x1, .int x5]) (st := []) (stk2 := [.int v5]) hK (C_X12_isReached  e3) d_X12_reach_56 mf_X12_isReached ml_RX12_461 im_X12_isReached rfl se_11_RX12_X12_isReached kd_78 rfl (Nat.le_of_ble_eq_true rfl) (by decide) ⟨Nat.zero_le _, Nat.zero_le _⟩ rfl rfl ?_
    refine r_if_ne (tgt := 65) hK d_X12_reach_59 (by decide) (fun h6 => ?_) (fun h6 => ?_)
    · have hD := if_f hD h6
      refine r_iload_n hK d_X12_reach_65 rfl rfl ?_
      refine r_iconst hK d_X12_reach_66 ci_1 ?_
      refine r_iload hK d_X12_reach_67 rfl ?_
      refine r_ishl hK d_X12_reach_69 ?_
      refine r_ior hK d_X12_reach_70 ?_
      refine r_lti hD (fun v7 hD => ?_)
      refine r_istore_n hK d_X12_reach_71 rfl (by decide) (ls2 := [.ref 78, .int x1, .int x2, .int v7, .int x4, .int x5]) rfl ?_
      refine r_iload hK d_X12_reach_72 rfl ?_
      refine r_iconst hK d_X12_reach_74 ci_m1 ?_
      refine r_icmp_eq (tgt := 95) hK d_X12_reach_75 (by decide) (fun h8 => ?_) (fun h8 => ?_)
      · have hD := if_t hD h8
        refine r_junk [true, true, true, true, false, true] (ls2 := [.ref 78, .int x1, .int x2, .int v7, gs_J, .int x5]) rfl ?_
        exact T_X12_reach_95 hK hq43  hD
      · have hD := if_f hD h8
        refine r_aload_n hK d_X12_reach_78 rfl rfl ?_
        refine r_getR hK d_X12_reach_79 fl_RX12_95_11 rfl kd_78 ?_
        refine r_ref (b := 97) R0_78_47 ?_
        refine r_iload hK d_X12_reach_82 rfl ?_
        obtain ⟨h9, hD⟩ := ck_e hD
        refine r_iald hK d_X12_reach_84 kd_97 ln_97 (inb_in h9) ?_
        refine r_aload_n hK d_X12_reach_85 rfl rfl ?_
        refine r_getR hK d_X12_reach_86 fl_RX12_95_11 rfl kd_78 ?_
        refine r_ref (b := 97) R0_78_47 ?_
        refine r_iload hK d_X12_reach_89 rfl ?_
        obtain ⟨h10, hD⟩ := ck_e hD
        refine r_iald hK d_X12_reach_91 kd_97 ln_97 (inb_in h10) ?_
        refine r_icmp_le (tgt := 99) hK d_X12_reach_92 (by decide) (fun h11 => ?_) (fun h11 => ?_)
        · have hD := if_t hD h11
          refine r_iinc hK d_X12_reach_99 rfl (v := x5 + (1 : Int32)) (by rw [ci_1]) (by decide) (ls2 := [.ref 78, .int x1, .int x2, .int v7, .int x4, .int (x5 + (1 : Int32))]) rfl ?_
          refine r_goto (tgt := 43) hK d_X12_reach_102 (by decide) ?_
          exact hq43 _ _ _ _ _ _  hD
        · have hD := if_f hD h11
          refine r_junk [true, true, true, true, false, true] (ls2 := [.ref 78, .int x1, .int x2, .int v7, gs_J, .int x5]) rfl ?_
          exact T_X12_reach_95 hK hq43  hD
    · have hD := if_t hD h6
      refine r_goto (tgt := 99) hK d_X12_reach_62 (by decide) ?_
      refine r_iinc hK d_X12_reach_99 rfl (v := x5 + (1 : Int32)) (by rw [ci_1]) (by decide) (ls2 := [.ref 78, .int x1, .int x2, .int x3, .int x4, .int (x5 + (1 : Int32))]) rfl ?_
      refine r_goto (tgt := 43) hK d_X12_reach_102 (by decide) ?_
      exact hq43 _ _ _ _ _ _  hD
set_option maxRecDepth 20000 in
theorem TL_X12_reach_43  (hK : KC p R s m args meth c ad g tyc RX12 cX12_reach 6 (some .int) 9) {r : Int32} {μ2 : gs_M}   : ∀ (n : Nat) (x1 : Int32) (x2 : Int32) (x3 : Int32) (x4 : Int32) (x5 : Int32) (μ : gs_M), L_X12_reach_43  n x1 x2 x3 x4 x5 μ = some (r, μ2) → WJ p l e R s m args below meth c 0 0 (MQ below (gs_Q ad g tyc (some (.int r)) μ2) args s 0 0 (gs_A ad)) ad g tyc 6 43 [.ref 78, .int x1, .int x2, .int x3, .int x4, .int x5] [] μ := by
  intro n
  induction n with
  | zero => intro x1 x2 x3 x4 x5 μ  hD; cases hD
  | succ n ih => intro x1 x2 x3 x4 x5 μ  hD; exact To_X12_reach_43 hK  ih  hD
set_option maxRecDepth 20000 in
theorem C_X12_reach  {x1 : Int32} {x2 : Int32} {μ : gs_M} {r : Int32} {μ2 : gs_M}  (hD : D_X12_reach x1 x2 μ = some (r, μ2)) : CALL yX12_reach cX12_reach 6 (some .int) 9 [.ref 78, .int x1, .int x2] μ (some (.int r)) μ2 := by
  unfold D_X12_reach at hD
  refine gs_enter mf_X12_reach (Nat.le_of_ble_eq_true rfl) (ls := [.ref 78, .int x1, .int x2, gs_J, gs_J, gs_J]) rfl (fun p l e R s m args below meth c ad g tyc hK => ?_)
  have hK : KC p R s m args meth c ad g tyc RX12 cX12_reach 6 (some .int) 9 := hK
  refine r_aload_n hK d_X12_reach_0 rfl rfl ?_
  refine r_iconst hK d_X12_reach_1 ci_0 ?_
  refine r_putI hK d_X12_reach_2 fl_RX12_98_11 rfl rfl kd_78 ?_
  refine r_ltm hD (fun u1 hD => ?_)
  refine r_aload_n hK d_X12_reach_5 rfl rfl ?_
  obtain ⟨v4, u3, e2, hD⟩ := bd_e hD
  refine r_callV (As := []) (st := []) (stk2 := [.int v4]) hK (C_X12_isAfloat  e2) d_X12_reach_6 mf_X12_isAfloat ml_RX12_373 im_X12_isAfloat rfl se_11_RX12_X12_isAfloat kd_78 rfl (Nat.le_of_ble_eq_true rfl) (by decide) ⟨Nat.zero_le _, Nat.zero_le _⟩ rfl rfl ?_
  refine r_if_eq (tgt := 31) hK d_X12_reach_9 (by decide) (fun h5 => ?_) (fun h5 => ?_)
  · have hD := if_t hD h5
    refine r_ldcw hK d_X12_reach_31 kc_RX12_394 ?_
    cases hD
    exact r_iret hK d_X12_reach_34
  · have hD := if_f hD h5
    refine r_iload_n hK d_X12_reach_12 rfl rfl ?_
    refine r_iconst hK d_X12_reach_13 ci_0 ?_
    refine r_bipush hK d_X12_reach_14 cb_30 ?_
    obtain ⟨v8, u7, e6, hD⟩ := bd_e hD
    refine r_callS (As := [.int x1, .int (0 : Int32), .int (30 : Int32)]) (st := []) (stk2 := [.int v8]) hK (C_X12_isIn  e6) d_X12_reach_16 mf_X12_isIn ml_RX12_217 ss_X12_isIn rfl (Nat.le_of_ble_eq_true rfl) (by decide) ⟨Nat.zero_le _, Nat.zero_le _⟩ rfl rfl ?_
    refine r_if_eq (tgt := 31) hK d_X12_reach_19 (by decide) (fun h9 => ?_) (fun h9 => ?_)
    · have hD := if_t hD h9
      refine r_ldcw hK d_X12_reach_31 kc_RX12_394 ?_
      cases hD
      exact r_iret hK d_X12_reach_34
    · have hD := if_f hD h9
      refine r_iload_n hK d_X12_reach_22 rfl rfl ?_
      refine r_iconst hK d_X12_reach_23 ci_0 ?_
      refine r_iconst hK d_X12_reach_24 ci_1 ?_
      obtain ⟨v12, u11, e10, hD⟩ := bd_e hD
      refine r_callS (As := [.int x2, .int (0 : Int32), .int (1 : Int32)]) (st := []) (stk2 := [.int v12]) hK (C_X12_isIn  e10) d_X12_reach_25 mf_X12_isIn ml_RX12_217 ss_X12_isIn rfl (Nat.le_of_ble_eq_true rfl) (by decide) ⟨Nat.zero_le _, Nat.zero_le _⟩ rfl rfl ?_
      refine r_if_ne (tgt := 35) hK d_X12_reach_28 (by decide) (fun h13 => ?_) (fun h13 => ?_)
      · have hD := if_f hD h13
        refine r_iconst hK d_X12_reach_35 ci_0 ?_
        refine r_istore_n hK d_X12_reach_36 rfl (by decide) (ls2 := [.ref 78, .int x1, .int x2, .int (0 : Int32), gs_J, gs_J]) rfl ?_
        refine r_iconst hK d_X12_reach_37 ci_m1 ?_
        refine r_istore hK d_X12_reach_38 (by decide) (ls2 := [.ref 78, .int x1, .int x2, .int (0 : Int32), .int (-1 : Int32), gs_J]) rfl ?_
        refine r_iconst hK d_X12_reach_40 ci_0 ?_
        refine r_istore hK d_X12_reach_41 (by decide) (ls2 := [.ref 78, .int x1, .int x2, .int (0 : Int32), .int (-1 : Int32), .int (0 : Int32)]) rfl ?_
        exact TL_X12_reach_43 hK  _ _ _ _ _ _ _  hD
      · have hD := if_t hD h13
        refine r_ldcw hK d_X12_reach_31 kc_RX12_394 ?_
        cases hD
        exact r_iret hK d_X12_reach_34
end S_X12_reach
theorem d_X12_over_0 : gd cX12_over 0 (.aload_n 0) 1 1 := ⟨by decide +kernel, rfl⟩
theorem d_X12_over_1 : gd cX12_over 1 (.iconst 0) 1 2 := ⟨by decide +kernel, rfl⟩
theorem d_X12_over_2 : gd cX12_over 2 (.putfield 98) 3 5 := ⟨by decide +kernel, rfl⟩
theorem d_X12_over_5 : gd cX12_over 5 (.aload_n 0) 1 6 := ⟨by decide +kernel, rfl⟩
theorem d_X12_over_6 : gd cX12_over 6 (.invokevirtual 373) 3 9 := ⟨by decide +kernel, rfl⟩
theorem d_X12_over_9 : gd cX12_over 9 (.ifCond .eq 43) 3 12 := ⟨by decide +kernel, rfl⟩
theorem d_X12_over_12 : gd cX12_over 12 (.iload_n 1) 1 13 := ⟨by decide +kernel, rfl⟩
theorem d_X12_over_13 : gd cX12_over 13 (.iconst 0) 1 14 := ⟨by decide +kernel, rfl⟩
theorem d_X12_over_14 : gd cX12_over 14 (.bipush 30) 2 16 := ⟨by decide +kernel, rfl⟩
theorem d_X12_over_16 : gd cX12_over 16 (.invokestatic 217) 3 19 := ⟨by decide +kernel, rfl⟩
theorem d_X12_over_19 : gd cX12_over 19 (.ifCond .eq 33) 3 22 := ⟨by decide +kernel, rfl⟩
theorem d_X12_over_22 : gd cX12_over 22 (.iload_n 2) 1 23 := ⟨by decide +kernel, rfl⟩
theorem d_X12_over_23 : gd cX12_over 23 (.iconst 1) 1 24 := ⟨by decide +kernel, rfl⟩
theorem d_X12_over_24 : gd cX12_over 24 (.bipush 9) 2 26 := ⟨by decide +kernel, rfl⟩
theorem d_X12_over_26 : gd cX12_over 26 (.invokestatic 217) 3 29 := ⟨by decide +kernel, rfl⟩
theorem d_X12_over_29 : gd cX12_over 29 (.ifCond .eq 23) 3 32 := ⟨by decide +kernel, rfl⟩
theorem d_X12_over_32 : gd cX12_over 32 (.iload_n 3) 1 33 := ⟨by decide +kernel, rfl⟩
theorem d_X12_over_33 : gd cX12_over 33 (.iconst 1) 1 34 := ⟨by decide +kernel, rfl⟩
theorem d_X12_over_34 : gd cX12_over 34 (.bipush 20) 2 36 := ⟨by decide +kernel, rfl⟩
theorem d_X12_over_36 : gd cX12_over 36 (.invokestatic 217) 3 39 := ⟨by decide +kernel, rfl⟩
theorem d_X12_over_39 : gd cX12_over 39 (.ifCond .eq 13) 3 42 := ⟨by decide +kernel, rfl⟩
theorem d_X12_over_42 : gd cX12_over 42 (.iload 4) 2 44 := ⟨by decide +kernel, rfl⟩
theorem d_X12_over_44 : gd cX12_over 44 (.iconst 0) 1 45 := ⟨by decide +kernel, rfl⟩
theorem d_X12_over_45 : gd cX12_over 45 (.iconst 2) 1 46 := ⟨by decide +kernel, rfl⟩
theorem d_X12_over_46 : gd cX12_over 46 (.invokestatic 217) 3 49 := ⟨by decide +kernel, rfl⟩
theorem d_X12_over_49 : gd cX12_over 49 (.ifCond .ne 7) 3 52 := ⟨by decide +kernel, rfl⟩
theorem d_X12_over_52 : gd cX12_over 52 (.ldc_w 394) 3 55 := ⟨by decide +kernel, rfl⟩
theorem d_X12_over_55 : gd cX12_over 55 .ireturn 1 56 := ⟨by decide +kernel, rfl⟩
theorem d_X12_over_56 : gd cX12_over 56 (.iconst 0) 1 57 := ⟨by decide +kernel, rfl⟩
theorem d_X12_over_57 : gd cX12_over 57 (.istore 5) 2 59 := ⟨by decide +kernel, rfl⟩
theorem d_X12_over_59 : gd cX12_over 59 (.iconst 0) 1 60 := ⟨by decide +kernel, rfl⟩
theorem d_X12_over_60 : gd cX12_over 60 (.istore 6) 2 62 := ⟨by decide +kernel, rfl⟩
theorem d_X12_over_62 : gd cX12_over 62 (.iconst 0) 1 63 := ⟨by decide +kernel, rfl⟩
theorem d_X12_over_63 : gd cX12_over 63 (.istore 7) 2 65 := ⟨by decide +kernel, rfl⟩
theorem d_X12_over_65 : gd cX12_over 65 (.iconst 0) 1 66 := ⟨by decide +kernel, rfl⟩
theorem d_X12_over_66 : gd cX12_over 66 (.istore 8) 2 68 := ⟨by decide +kernel, rfl⟩
theorem d_X12_over_68 : gd cX12_over 68 (.iload 8) 2 70 := ⟨by decide +kernel, rfl⟩
theorem d_X12_over_70 : gd cX12_over 70 (.iload_n 3) 1 71 := ⟨by decide +kernel, rfl⟩
theorem d_X12_over_71 : gd cX12_over 71 (.if_icmp .ge 64) 3 74 := ⟨by decide +kernel, rfl⟩
theorem d_X12_over_74 : gd cX12_over 74 (.aload_n 0) 1 75 := ⟨by decide +kernel, rfl⟩
theorem d_X12_over_75 : gd cX12_over 75 (.invokevirtual 402) 3 78 := ⟨by decide +kernel, rfl⟩
theorem d_X12_over_78 : gd cX12_over 78 (.aload_n 0) 1 79 := ⟨by decide +kernel, rfl⟩
theorem d_X12_over_79 : gd cX12_over 79 (.iload 8) 2 81 := ⟨by decide +kernel, rfl⟩
theorem d_X12_over_81 : gd cX12_over 81 .i2l 1 82 := ⟨by decide +kernel, rfl⟩
theorem d_X12_over_82 : gd cX12_over 82 (.putfield 352) 3 85 := ⟨by decide +kernel, rfl⟩
theorem d_X12_over_85 : gd cX12_over 85 (.aload_n 0) 1 86 := ⟨by decide +kernel, rfl⟩
theorem d_X12_over_86 : gd cX12_over 86 (.iload_n 1) 1 87 := ⟨by decide +kernel, rfl⟩
theorem d_X12_over_87 : gd cX12_over 87 (.iload_n 2) 1 88 := ⟨by decide +kernel, rfl⟩
theorem d_X12_over_88 : gd cX12_over 88 (.invokevirtual 417) 3 91 := ⟨by decide +kernel, rfl⟩
theorem d_X12_over_91 : gd cX12_over 91 (.iload 5) 2 93 := ⟨by decide +kernel, rfl⟩
theorem d_X12_over_93 : gd cX12_over 93 (.aload_n 0) 1 94 := ⟨by decide +kernel, rfl⟩
theorem d_X12_over_94 : gd cX12_over 94 (.bipush 79) 2 96 := ⟨by decide +kernel, rfl⟩
theorem d_X12_over_96 : gd cX12_over 96 (.invokevirtual 337) 3 99 := ⟨by decide +kernel, rfl⟩
theorem d_X12_over_99 : gd cX12_over 99 .iadd 1 100 := ⟨by decide +kernel, rfl⟩
theorem d_X12_over_100 : gd cX12_over 100 (.istore 5) 2 102 := ⟨by decide +kernel, rfl⟩
theorem d_X12_over_102 : gd cX12_over 102 (.iload 6) 2 104 := ⟨by decide +kernel, rfl⟩
theorem d_X12_over_104 : gd cX12_over 104 (.aload_n 0) 1 105 := ⟨by decide +kernel, rfl⟩
theorem d_X12_over_105 : gd cX12_over 105 (.invokevirtual 367) 3 108 := ⟨by decide +kernel, rfl⟩
theorem d_X12_over_108 : gd cX12_over 108 .iadd 1 109 := ⟨by decide +kernel, rfl⟩
theorem d_X12_over_109 : gd cX12_over 109 (.istore 6) 2 111 := ⟨by decide +kernel, rfl⟩
theorem d_X12_over_111 : gd cX12_over 111 (.iload 7) 2 113 := ⟨by decide +kernel, rfl⟩
theorem d_X12_over_113 : gd cX12_over 113 (.aload_n 0) 1 114 := ⟨by decide +kernel, rfl⟩
theorem d_X12_over_114 : gd cX12_over 114 (.invokevirtual 367) 3 117 := ⟨by decide +kernel, rfl⟩
theorem d_X12_over_117 : gd cX12_over 117 (.invokestatic 370) 3 120 := ⟨by decide +kernel, rfl⟩
theorem d_X12_over_120 : gd cX12_over 120 (.invokestatic 316) 3 123 := ⟨by decide +kernel, rfl⟩
theorem d_X12_over_123 : gd cX12_over 123 (.istore 7) 2 125 := ⟨by decide +kernel, rfl⟩
theorem d_X12_over_125 : gd cX12_over 125 (.aload_n 0) 1 126 := ⟨by decide +kernel, rfl⟩
theorem d_X12_over_126 : gd cX12_over 126 (.invokevirtual 405) 3 129 := ⟨by decide +kernel, rfl⟩
theorem d_X12_over_129 : gd cX12_over 129 (.iinc 8 1) 3 132 := ⟨by decide +kernel, rfl⟩
theorem d_X12_over_132 : gd cX12_over 132 (.goto (-64)) 3 135 := ⟨by decide +kernel, rfl⟩
theorem d_X12_over_135 : gd cX12_over 135 (.iload 4) 2 137 := ⟨by decide +kernel, rfl⟩
theorem d_X12_over_137 : gd cX12_over 137 (.ifCond .ne 8) 3 140 := ⟨by decide +kernel, rfl⟩
theorem d_X12_over_140 : gd cX12_over 140 (.iload 5) 2 142 := ⟨by decide +kernel, rfl⟩
theorem d_X12_over_142 : gd cX12_over 142 (.goto 16) 3 145 := ⟨by decide +kernel, rfl⟩
theorem d_X12_over_145 : gd cX12_over 145 (.iload 4) 2 147 := ⟨by decide +kernel, rfl⟩
theorem d_X12_over_147 : gd cX12_over 147 (.iconst 1) 1 148 := ⟨by decide +kernel, rfl⟩
theorem d_X12_over_148 : gd cX12_over 148 (.if_icmp .ne 8) 3 151 := ⟨by decide +kernel, rfl⟩
theorem d_X12_over_151 : gd cX12_over 151 (.iload 6) 2 153 := ⟨by decide +kernel, rfl⟩
theorem d_X12_over_153 : gd cX12_over 153 (.goto 5) 3 156 := ⟨by decide +kernel, rfl⟩
theorem d_X12_over_156 : gd cX12_over 156 (.iload 7) 2 158 := ⟨by decide +kernel, rfl⟩
theorem d_X12_over_158 : gd cX12_over 158 .ireturn 1 159 := ⟨by decide +kernel, rfl⟩
def Bo_X12_over_68 (q68 : Int32 → Int32 → Int32 → Int32 → Int32 → Int32 → Int32 → Int32 → gs_M → Option (Int32 × gs_M)) (x1 : Int32) (x2 : Int32) (x3 : Int32) (x4 : Int32) (x5 : Int32) (x6 : Int32) (x7 : Int32) (x8 : Int32) (μ : gs_M) : Option (Int32 × gs_M) :=
  if x3 ≤ x8 then (if x4 = 0 then (some (x5, μ)) else (if x4 = (1 : Int32) then (some (x6, μ)) else (some (x7, μ)))) else (bd0 (D_X12_keeps μ) (fun u5 => lt1 (sL u5 78 33 (Int32.toInt64 x8)) (fun u6 => bd0 (D_X12_voyage x1 x2 u6) (fun u8 => bd (D_X12_now (79 : Int32) u8) (fun v11 u10 => lt1 (x5 + v11) (fun v12 => bd (D_X12_lean u10) (fun v15 u14 => lt1 (x6 + v15) (fun v16 => bd (D_X12_lean u14) (fun v19 u18 => lt1 (if 0 ≤ v19 then v19 else 0 - v19) (fun v20 => lt1 (if x7 < v20 then v20 else x7) (fun v21 => bd0 (D_X12_putBack u18) (fun u23 => q68 x1 x2 x3 x4 v12 v16 v21 (x8 + (1 : Int32)) u23))))))))))))
def L_X12_over_68  : Nat → Int32 → Int32 → Int32 → Int32 → Int32 → Int32 → Int32 → Int32 → gs_M → Option (Int32 × gs_M)
  | 0 => fun _ _ _ _ _ _ _ _ _ => none
  | n + 1 => fun x1 x2 x3 x4 x5 x6 x7 x8 μ => Bo_X12_over_68  (L_X12_over_68  n) x1 x2 x3 x4 x5 x6 x7 x8 μ
def D_X12_over (x1 : Int32) (x2 : Int32) (x3 : Int32) (x4 : Int32) (μ : gs_M) : Option (Int32 × gs_M) :=
  lt1 (sI μ 78 0 (0 : Int32)) (fun u1 => bd (D_X12_isAfloat u1) (fun v4 u3 => if v4 = 0 then (some ((-1000000 : Int32), u3)) else (bd (D_X12_isIn x1 (0 : Int32) (30 : Int32) u3) (fun v8 u7 => if v8 = 0 then (some ((-1000000 : Int32), u7)) else (bd (D_X12_isIn x2 (1 : Int32) (9 : Int32) u7) (fun v12 u11 => if v12 = 0 then (some ((-1000000 : Int32), u11)) else (bd (D_X12_isIn x3 (1 : Int32) (20 : Int32) u11) (fun v16 u15 => if v16 = 0 then (some ((-1000000 : Int32), u15)) else (bd (D_X12_isIn x4 (0 : Int32) (2 : Int32) u15) (fun v20 u19 => if v20 = 0 then (some ((-1000000 : Int32), u19)) else (L_X12_over_68 4096 x1 x2 x3 x4 (0 : Int32) (0 : Int32) (0 : Int32) (0 : Int32) u19)))))))))))
section S_X12_over
variable {p : Program} {l : Launch} {e : Env} {R : Room} {s : State} {m : MethodId} {args : Array Value} {below : List Frame} {meth : Method} {c : Code} {ad : Nat → Nat} {g : va_G} {tyc : Nat → ClassId}
set_option maxRecDepth 20000 in
theorem To_X12_over_68  (hK : KC p R s m args meth c ad g tyc RX12 cX12_over 9 (some .int) 8) {r : Int32} {μ2 : gs_M} {q68 : Int32 → Int32 → Int32 → Int32 → Int32 → Int32 → Int32 → Int32 → gs_M → Option (Int32 × gs_M)} (hq68 : ∀ (x1 : Int32) (x2 : Int32) (x3 : Int32) (x4 : Int32) (x5 : Int32) (x6 : Int32) (x7 : Int32) (x8 : Int32) (μ : gs_M), q68 x1 x2 x3 x4 x5 x6 x7 x8 μ = some (r, μ2) → WJ p l e R s m args below meth c 0 0 (MQ below (gs_Q ad g tyc (some (.int r)) μ2) args s 0 0 (gs_A ad)) ad g tyc 9 68 [.ref 78, .int x1, .int x2, .int x3, .int x4, .int x5, .int x6, .int x7, .int x8] [] μ) {x1 : Int32} {x2 : Int32} {x3 : Int32} {x4 : Int32} {x5 : Int32} {x6 : Int32} {x7 : Int32} {x8 : Int32} {μ : gs_M}  (hD : Bo_X12_over_68 q68 x1 x2 x3 x4 x5 x6 x7 x8 μ = some (r, μ2)) : WJ p l e R s m args below meth c 0 0 (MQ below (gs_Q ad g tyc (some (.int r)) μ2) args s 0 0 (gs_A ad)) ad g tyc 9 68 [.ref 78, .int x1, .int x2, .int x3, .int x4, .int x5, .int x6, .int x7, .int x8] [] μ := by
  unfold Bo_X12_over_68 at hD
  refine r_iload hK d_X12_over_68 rfl ?_
  refine r_iload_n hK d_X12_over_70 rfl rfl ?_
  refine r_icmp_ge (tgt := 135) hK d_X12_over_71 (by decide) (fun h1 => ?_) (fun h1 => ?_)
  · have hD := if_t hD h1
    refine r_iload hK d_X12_over_135 rfl ?_
    refine r_if_ne (tgt := 145) hK d_X12_over_137 (by decide) (fun h2 => ?_) (fun h2 => ?_)
    · have hD := if_f hD h2
      refine r_iload hK d_X12_over_145 rfl ?_
      refine r_iconst hK d_X12_over_147 ci_1 ?_
      refine r_icmp_ne (tgt := 156) hK d_X12_over_148 (by decide) (fun h3 => ?_) (fun h3 => ?_)
      · have hD := if_f hD h3
        refine r_iload hK d_X12_over_156 rfl ?_
        cases hD
        exact r_iret hK d_X12_over_158
      · have hD := if_t hD h3
        refine r_iload hK d_X12_over_151 rfl ?_
        refine r_goto (tgt := 158) hK d_X12_over_153 (by decide) ?_
        cases hD
        exact r_iret hK d_X12_over_158
    · have hD := if_t hD h2
      refine r_iload hK d_X12_over_140 rfl ?_
      refine r_goto (tgt := 158) hK d_X12_over_142 (by decide) ?_
      cases hD
      exact r_iret hK d_X12_over_158
  · have hD := if_f hD h1
    refine r_aload_n hK d_X12_over_74 rfl rfl ?_
    obtain ⟨u5, e4, hD⟩ := bd0_e hD
    refine r_callV (As := []) (st := []) (stk2 := []) hK (C_X12_keeps  e4) d_X12_over_75 mf_X12_keeps ml_RX12_402 im_X12_keeps rfl se_11_RX12_X12_keeps kd_78 rfl (Nat.le_of_ble_eq_true rfl) (by decide) ⟨Nat.zero_le _, Nat.zero_le _⟩ rfl rfl ?_
    refine r_aload_n hK d_X12_over_78 rfl rfl ?_
    refine r_iload hK d_X12_over_79 rfl ?_
    refine r_i2l hK d_X12_over_81 ?_
    refine r_putL hK d_X12_over_82 fl_RX12_352_11 rfl rfl kd_78 ?_
    refine r_ltm hD (fun u6 hD => ?_)
    refine r_aload_n hK d_X12_over_85 rfl rfl ?_
    refine r_iload_n hK d_X12_over_86 rfl rfl ?_
    refine r_iload_n hK d_X12_over_87 rfl rfl ?_
    obtain ⟨u8, e7, hD⟩ := bd0_e hD
    refine r_callV (As := [.int x1, .int x2]) (st := []) (stk2 := []) hK (C_X12_voyage  e7) d_X12_over_88 mf_X12_voyage ml_RX12_417 im_X12_voyage rfl se_11_RX12_X12_voyage kd_78 rfl (Nat.le_of_ble_eq_true rfl) (by decide) ⟨Nat.zero_le _, Nat.zero_le _⟩ rfl rfl ?_
    refine r_iload hK d_X12_over_91 rfl ?_
    refine r_aload_n hK d_X12_over_93 rfl rfl ?_
    refine r_bipush hK d_X12_over_94 cb_79 ?_
    obtain ⟨v11, u10, e9, hD⟩ := bd_e hD
    refine r_callV (As := [.int (79 : Int32)]) (st := [.int x5]) (stk2 := [.int v11, .int x5]) hK (C_X12_now  e9) d_X12_over_96 mf_X12_now ml_RX12_337 im_X12_now rfl se_11_RX12_X12_now kd_78 rfl (Nat.le_of_ble_eq_true rfl) (by decide) ⟨Nat.zero_le _, Nat.zero_le _⟩ rfl rfl ?_
    refine r_iadd hK d_X12_over_99 ?_
    refine r_lti hD (fun v12 hD => ?_)
    refine r_istore hK d_X12_over_100 (by decide) (ls2 := [.ref 78, .int x1, .int x2, .int x3, .int x4, .int v12, .int x6, .int x7, .int x8]) rfl ?_
    refine r_iload hK d_X12_over_102 rfl ?_
    refine r_aload_n hK d_X12_over_104 rfl rfl ?_
    obtain ⟨v15, u14, e13, hD⟩ := bd_e hD
    refine r_callV (As := []) (st := [.int x6]) (stk2 := [.int v15, .int x6]) hK (C_X12_lean  e13) d_X12_over_105 mf_X12_lean ml_RX12_367 im_X12_lean rfl se_11_RX12_X12_lean kd_78 rfl (Nat.le_of_ble_eq_true rfl) (by decide) ⟨Nat.zero_le _, Nat.zero_le _⟩ rfl rfl ?_
    refine r_iadd hK d_X12_over_108 ?_
    refine r_lti hD (fun v16 hD => ?_)
    refine r_istore hK d_X12_over_109 (by decide) (ls2 := [.ref 78, .int x1, .int x2, .int x3, .int x4, .int v12, .int v16, .int x7, .int x8]) rfl ?_
    refine r_iload hK d_X12_over_111 rfl ?_
    refine r_aload_n hK d_X12_over_113 rfl rfl ?_
    obtain ⟨v19, u18, e17, hD⟩ := bd_e hD
    refine r_callV (As := []) (st := [.int x7]) (stk2 := [.int v19, .int x7]) hK (C_X12_lean  e17) d_X12_over_114 mf_X12_lean ml_RX12_367 im_X12_lean rfl se_11_RX12_X12_lean kd_78 rfl (Nat.le_of_ble_eq_true rfl) (by decide) ⟨Nat.zero_le _, Nat.zero_le _⟩ rfl rfl ?_
    refine r_mabs hK d_X12_over_117 mm_RX12_370 ms_abs mi_0 mc_abs (Nat.le_of_ble_eq_true rfl) (by decide) ⟨Nat.zero_le _, Nat.zero_le _⟩ ?_
    refine r_lti hD (fun v20 hD => ?_)
    refine r_mmax hK d_X12_over_120 mm_RX12_316 ms_max mi_0 mc_max (Nat.le_of_ble_eq_true rfl) (by decide) ⟨Nat.zero_le _, Nat.zero_le _⟩ ?_
    refine r_lti hD (fun v21 hD => ?_)
    refine r_istore hK d_X12_over_123 (by decide) (ls2 := [.ref 78, .int x1, .int x2, .int x3, .int x4, .int v12, .int v16, .int v21, .int x8]) rfl ?_
    refine r_aload_n hK d_X12_over_125 rfl rfl ?_
    obtain ⟨u23, e22, hD⟩ := bd0_e hD
    refine r_callV (As := []) (st := []) (stk2 := []) hK (C_X12_putBack  e22) d_X12_over_126 mf_X12_putBack ml_RX12_405 im_X12_putBack rfl se_11_RX12_X12_putBack kd_78 rfl (Nat.le_of_ble_eq_true rfl) (by decide) ⟨Nat.zero_le _, Nat.zero_le _⟩ rfl rfl ?_
    refine r_iinc hK d_X12_over_129 rfl (v := x8 + (1 : Int32)) (by rw [ci_1]) (by decide) (ls2 := [.ref 78, .int x1, .int x2, .int x3, .int x4, .int v12, .int v16, .int v21, .int (x8 + (1 : Int32))]) rfl ?_
    refine r_goto (tgt := 68) hK d_X12_over_132 (by decide) ?_
    exact hq68 _ _ _ _ _ _ _ _ _  hD
set_option maxRecDepth 20000 in
theorem TL_X12_over_68  (hK : KC p R s m args meth c ad g tyc RX12 cX12_over 9 (some .int) 8) {r : Int32} {μ2 : gs_M}   : ∀ (n : Nat) (x1 : Int32) (x2 : Int32) (x3 : Int32) (x4 : Int32) (x5 : Int32) (x6 : Int32) (x7 : Int32) (x8 : Int32) (μ : gs_M), L_X12_over_68  n x1 x2 x3 x4 x5 x6 x7 x8 μ = some (r, μ2) → WJ p l e R s m args below meth c 0 0 (MQ below (gs_Q ad g tyc (some (.int r)) μ2) args s 0 0 (gs_A ad)) ad g tyc 9 68 [.ref 78, .int x1, .int x2, .int x3, .int x4, .int x5, .int x6, .int x7, .int x8] [] μ := by
  intro n
  induction n with
  | zero => intro x1 x2 x3 x4 x5 x6 x7 x8 μ  hD; cases hD
  | succ n ih => intro x1 x2 x3 x4 x5 x6 x7 x8 μ  hD; exact To_X12_over_68 hK  ih  hD
set_option maxRecDepth 20000 in
theorem C_X12_over  {x1 : Int32} {x2 : Int32} {x3 : Int32} {x4 : Int32} {μ : gs_M} {r : Int32} {μ2 : gs_M}  (hD : D_X12_over x1 x2 x3 x4 μ = some (r, μ2)) : CALL yX12_over cX12_over 9 (some .int) 8 [.ref 78, .int x1, .int x2, .int x3, .int x4] μ (some (.int r)) μ2 := by
  unfold D_X12_over at hD
  refine gs_enter mf_X12_over (Nat.le_of_ble_eq_true rfl) (ls := [.ref 78, .int x1, .int x2, .int x3, .int x4, gs_J, gs_J, gs_J, gs_J]) rfl (fun p l e R s m args below meth c ad g tyc hK => ?_)
  have hK : KC p R s m args meth c ad g tyc RX12 cX12_over 9 (some .int) 8 := hK
  refine r_aload_n hK d_X12_over_0 rfl rfl ?_
  refine r_iconst hK d_X12_over_1 ci_0 ?_
  refine r_putI hK d_X12_over_2 fl_RX12_98_11 rfl rfl kd_78 ?_
  refine r_ltm hD (fun u1 hD => ?_)
  refine r_aload_n hK d_X12_over_5 rfl rfl ?_
  obtain ⟨v4, u3, e2, hD⟩ := bd_e hD
  refine r_callV (As := []) (st := []) (stk2 := [.int v4]) hK (C_X12_isAfloat  e2) d_X12_over_6 mf_X12_isAfloat ml_RX12_373 im_X12_isAfloat rfl se_11_RX12_X12_isAfloat kd_78 rfl (Nat.le_of_ble_eq_true rfl) (by decide) ⟨Nat.zero_le _, Nat.zero_le _⟩ rfl rfl ?_
  refine r_if_eq (tgt := 52) hK d_X12_over_9 (by decide) (fun h5 => ?_) (fun h5 => ?_)
  · have hD := if_t hD h5
    refine r_ldcw hK d_X12_over_52 kc_RX12_394 ?_
    cases hD
    exact r_iret hK d_X12_over_55
  · have hD := if_f hD h5
    refine r_iload_n hK d_X12_over_12 rfl rfl ?_
    refine r_iconst hK d_X12_over_13 ci_0 ?_
    refine r_bipush hK d_X12_over_14 cb_30 ?_
    obtain ⟨v8, u7, e6, hD⟩ := bd_e hD
    refine r_callS (As := [.int x1, .int (0 : Int32), .int (30 : Int32)]) (st := []) (stk2 := [.int v8]) hK (C_X12_isIn  e6) d_X12_over_16 mf_X12_isIn ml_RX12_217 ss_X12_isIn rfl (Nat.le_of_ble_eq_true rfl) (by decide) ⟨Nat.zero_le _, Nat.zero_le _⟩ rfl rfl ?_
    refine r_if_eq (tgt := 52) hK d_X12_over_19 (by decide) (fun h9 => ?_) (fun h9 => ?_)
    · have hD := if_t hD h9
      refine r_ldcw hK d_X12_over_52 kc_RX12_394 ?_
      cases hD
      exact r_iret hK d_X12_over_55
    · have hD := if_f hD h9
      refine r_iload_n hK d_X12_over_22 rfl rfl ?_
      refine r_iconst hK d_X12_over_23 ci_1 ?_
      refine r_bipush hK d_X12_over_24 cb_9 ?_
      obtain ⟨v12, u11, e10, hD⟩ := bd_e hD
      refine r_callS (As := [.int x2, .int (1 : Int32), .int (9 : Int32)]) (st := []) (stk2 := [.int v12]) hK (C_X12_isIn  e10) d_X12_over_26 mf_X12_isIn ml_RX12_217 ss_X12_isIn rfl (Nat.le_of_ble_eq_true rfl) (by decide) ⟨Nat.zero_le _, Nat.zero_le _⟩ rfl rfl ?_
      refine r_if_eq (tgt := 52) hK d_X12_over_29 (by decide) (fun h13 => ?_) (fun h13 => ?_)
      · have hD := if_t hD h13
        refine r_ldcw hK d_X12_over_52 kc_RX12_394 ?_
        cases hD
        exact r_iret hK d_X12_over_55
      · have hD := if_f hD h13
        refine r_iload_n hK d_X12_over_32 rfl rfl ?_
        refine r_iconst hK d_X12_over_33 ci_1 ?_
        refine r_bipush hK d_X12_over_34 cb_20 ?_
        obtain ⟨v16, u15, e14, hD⟩ := bd_e hD
        refine r_callS (As := [.int x3, .int (1 : Int32), .int (20 : Int32)]) (st := []) (stk2 := [.int v16]) hK (C_X12_isIn  e14) d_X12_over_36 mf_X12_isIn ml_RX12_217 ss_X12_isIn rfl (Nat.le_of_ble_eq_true rfl) (by decide) ⟨Nat.zero_le _, Nat.zero_le _⟩ rfl rfl ?_
        refine r_if_eq (tgt := 52) hK d_X12_over_39 (by decide) (fun h17 => ?_) (fun h17 => ?_)
        · have hD := if_t hD h17
          refine r_ldcw hK d_X12_over_52 kc_RX12_394 ?_
          cases hD
          exact r_iret hK d_X12_over_55
        · have hD := if_f hD h17
          refine r_iload hK d_X12_over_42 rfl ?_
          refine r_iconst hK d_X12_over_44 ci_0 ?_
          refine r_iconst hK d_X12_over_45 ci_2 ?_
          obtain ⟨v20, u19, e18, hD⟩ := bd_e hD
          refine r_callS (As := [.int x4, .int (0 : Int32), .int (2 : Int32)]) (st := []) (stk2 := [.int v20]) hK (C_X12_isIn  e18) d_X12_over_46 mf_X12_isIn ml_RX12_217 ss_X12_isIn rfl (Nat.le_of_ble_eq_true rfl) (by decide) ⟨Nat.zero_le _, Nat.zero_le _⟩ rfl rfl ?_
          refine r_if_ne (tgt := 56) hK d_X12_over_49 (by decide) (fun h21 => ?_) (fun h21 => ?_)
          · have hD := if_f hD h21
            refine r_iconst hK d_X12_over_56 ci_0 ?_
            refine r_istore hK d_X12_over_57 (by decide) (ls2 := [.ref 78, .int x1, .int x2, .int x3, .int x4, .int (0 : Int32), gs_J, gs_J, gs_J]) rfl ?_
            refine r_iconst hK d_X12_over_59 ci_0 ?_
            refine r_istore hK d_X12_over_60 (by decide) (ls2 := [.ref 78, .int x1, .int x2, .int x3, .int x4, .int (0 : Int32), .int (0 : Int32), gs_J, gs_J]) rfl ?_
            refine r_iconst hK d_X12_over_62 ci_0 ?_
            refine r_istore hK d_X12_over_63 (by decide) (ls2 := [.ref 78, .int x1, .int x2, .int x3, .int x4, .int (0 : Int32), .int (0 : Int32), .int (0 : Int32), gs_J]) rfl ?_
            refine r_iconst hK d_X12_over_65 ci_0 ?_
            refine r_istore hK d_X12_over_66 (by decide) (ls2 := [.ref 78, .int x1, .int x2, .int x3, .int x4, .int (0 : Int32), .int (0 : Int32), .int (0 : Int32), .int (0 : Int32)]) rfl ?_
            exact TL_X12_over_68 hK  _ _ _ _ _ _ _ _ _ _  hD
          · have hD := if_t hD h21
            refine r_ldcw hK d_X12_over_52 kc_RX12_394 ?_
            cases hD
            exact r_iret hK d_X12_over_55
end S_X12_over
theorem d_X12_soonest_0 : gd cX12_soonest 0 (.aload_n 0) 1 1 := ⟨by decide +kernel, rfl⟩
theorem d_X12_soonest_1 : gd cX12_soonest 1 (.iconst 0) 1 2 := ⟨by decide +kernel, rfl⟩
theorem d_X12_soonest_2 : gd cX12_soonest 2 (.putfield 98) 3 5 := ⟨by decide +kernel, rfl⟩
theorem d_X12_soonest_5 : gd cX12_soonest 5 (.aload_n 0) 1 6 := ⟨by decide +kernel, rfl⟩
theorem d_X12_soonest_6 : gd cX12_soonest 6 (.invokevirtual 373) 3 9 := ⟨by decide +kernel, rfl⟩
theorem d_X12_soonest_9 : gd cX12_soonest 9 (.ifCond .eq 13) 3 12 := ⟨by decide +kernel, rfl⟩
theorem d_X12_soonest_12 : gd cX12_soonest 12 (.iload_n 1) 1 13 := ⟨by decide +kernel, rfl⟩
theorem d_X12_soonest_13 : gd cX12_soonest 13 (.iconst 0) 1 14 := ⟨by decide +kernel, rfl⟩
theorem d_X12_soonest_14 : gd cX12_soonest 14 (.bipush 30) 2 16 := ⟨by decide +kernel, rfl⟩
theorem d_X12_soonest_16 : gd cX12_soonest 16 (.invokestatic 217) 3 19 := ⟨by decide +kernel, rfl⟩
theorem d_X12_soonest_19 : gd cX12_soonest 19 (.ifCond .ne 5) 3 22 := ⟨by decide +kernel, rfl⟩
theorem d_X12_soonest_22 : gd cX12_soonest 22 (.iconst (-1)) 1 23 := ⟨by decide +kernel, rfl⟩
theorem d_X12_soonest_23 : gd cX12_soonest 23 .ireturn 1 24 := ⟨by decide +kernel, rfl⟩
theorem d_X12_soonest_24 : gd cX12_soonest 24 (.iconst (-1)) 1 25 := ⟨by decide +kernel, rfl⟩
theorem d_X12_soonest_25 : gd cX12_soonest 25 (.istore_n 2) 1 26 := ⟨by decide +kernel, rfl⟩
theorem d_X12_soonest_26 : gd cX12_soonest 26 (.aload_n 0) 1 27 := ⟨by decide +kernel, rfl⟩
theorem d_X12_soonest_27 : gd cX12_soonest 27 (.invokevirtual 402) 3 30 := ⟨by decide +kernel, rfl⟩
theorem d_X12_soonest_30 : gd cX12_soonest 30 (.iconst 1) 1 31 := ⟨by decide +kernel, rfl⟩
theorem d_X12_soonest_31 : gd cX12_soonest 31 (.istore_n 3) 1 32 := ⟨by decide +kernel, rfl⟩
theorem d_X12_soonest_32 : gd cX12_soonest 32 (.iload_n 3) 1 33 := ⟨by decide +kernel, rfl⟩
theorem d_X12_soonest_33 : gd cX12_soonest 33 (.bipush 30) 2 35 := ⟨by decide +kernel, rfl⟩
theorem d_X12_soonest_35 : gd cX12_soonest 35 (.if_icmp .gt 35) 3 38 := ⟨by decide +kernel, rfl⟩
theorem d_X12_soonest_38 : gd cX12_soonest 38 (.iload_n 2) 1 39 := ⟨by decide +kernel, rfl⟩
theorem d_X12_soonest_39 : gd cX12_soonest 39 (.iconst (-1)) 1 40 := ⟨by decide +kernel, rfl⟩
theorem d_X12_soonest_40 : gd cX12_soonest 40 (.if_icmp .ne 30) 3 43 := ⟨by decide +kernel, rfl⟩
theorem d_X12_soonest_43 : gd cX12_soonest 43 (.aload_n 0) 1 44 := ⟨by decide +kernel, rfl⟩
theorem d_X12_soonest_44 : gd cX12_soonest 44 (.iload_n 1) 1 45 := ⟨by decide +kernel, rfl⟩
theorem d_X12_soonest_45 : gd cX12_soonest 45 (.invokevirtual 388) 3 48 := ⟨by decide +kernel, rfl⟩
theorem d_X12_soonest_48 : gd cX12_soonest 48 (.aload_n 0) 1 49 := ⟨by decide +kernel, rfl⟩
theorem d_X12_soonest_49 : gd cX12_soonest 49 (.bipush 79) 2 51 := ⟨by decide +kernel, rfl⟩
theorem d_X12_soonest_51 : gd cX12_soonest 51 (.invokevirtual 337) 3 54 := ⟨by decide +kernel, rfl⟩
theorem d_X12_soonest_54 : gd cX12_soonest 54 (.iconst 1) 1 55 := ⟨by decide +kernel, rfl⟩
theorem d_X12_soonest_55 : gd cX12_soonest 55 (.if_icmp .ne 7) 3 58 := ⟨by decide +kernel, rfl⟩
theorem d_X12_soonest_58 : gd cX12_soonest 58 (.iload_n 3) 1 59 := ⟨by decide +kernel, rfl⟩
theorem d_X12_soonest_59 : gd cX12_soonest 59 (.goto 4) 3 62 := ⟨by decide +kernel, rfl⟩
theorem d_X12_soonest_62 : gd cX12_soonest 62 (.iconst (-1)) 1 63 := ⟨by decide +kernel, rfl⟩
theorem d_X12_soonest_63 : gd cX12_soonest 63 (.istore_n 2) 1 64 := ⟨by decide +kernel, rfl⟩
theorem d_X12_soonest_64 : gd cX12_soonest 64 (.iinc 3 1) 3 67 := ⟨by decide +kernel, rfl⟩
theorem d_X12_soonest_67 : gd cX12_soonest 67 (.goto (-35)) 3 70 := ⟨by decide +kernel, rfl⟩
theorem d_X12_soonest_70 : gd cX12_soonest 70 (.aload_n 0) 1 71 := ⟨by decide +kernel, rfl⟩
theorem d_X12_soonest_71 : gd cX12_soonest 71 (.invokevirtual 405) 3 74 := ⟨by decide +kernel, rfl⟩
theorem d_X12_soonest_74 : gd cX12_soonest 74 (.iload_n 2) 1 75 := ⟨by decide +kernel, rfl⟩
theorem d_X12_soonest_75 : gd cX12_soonest 75 .ireturn 1 76 := ⟨by decide +kernel, rfl⟩
def B_X12_soonest_70  (x2 : Int32) (μ : gs_M) : Option (Int32 × gs_M) :=
  bd0 (D_X12_putBack μ) (fun u2 => some (x2, u2))
def Bo_X12_soonest_32 (q32 : Int32 → Int32 → Int32 → gs_M → Option (Int32 × gs_M)) (x1 : Int32) (x2 : Int32) (x3 : Int32) (μ : gs_M) : Option (Int32 × gs_M) :=
  if (30 : Int32) < x3 then (B_X12_soonest_70 x2 μ) else (if x2 = (-1 : Int32) then (bd0 (D_X12_days x1 μ) (fun u4 => bd (D_X12_now (79 : Int32) u4) (fun v7 u6 => if v7 = (1 : Int32) then (q32 x1 x3 (x3 + (1 : Int32)) u6) else (q32 x1 (-1 : Int32) (x3 + (1 : Int32)) u6)))) else (B_X12_soonest_70 x2 μ))
def L_X12_soonest_32  : Nat → Int32 → Int32 → Int32 → gs_M → Option (Int32 × gs_M)
  | 0 => fun _ _ _ _ => none
  | n + 1 => fun x1 x2 x3 μ => Bo_X12_soonest_32  (L_X12_soonest_32  n) x1 x2 x3 μ
def D_X12_soonest (x1 : Int32) (μ : gs_M) : Option (Int32 × gs_M) :=
  lt1 (sI μ 78 0 (0 : Int32)) (fun u1 => bd (D_X12_isAfloat u1) (fun v4 u3 => if v4 = 0 then (some ((-1 : Int32), u3)) else (bd (D_X12_isIn x1 (0 : Int32) (30 : Int32) u3) (fun v8 u7 => if v8 = 0 then (some ((-1 : Int32), u7)) else (bd0 (D_X12_keeps u7) (fun u11 => L_X12_soonest_32 4096 x1 (-1 : Int32) (1 : Int32) u11))))))
section S_X12_soonest
variable {p : Program} {l : Launch} {e : Env} {R : Room} {s : State} {m : MethodId} {args : Array Value} {below : List Frame} {meth : Method} {c : Code} {ad : Nat → Nat} {g : va_G} {tyc : Nat → ClassId}
set_option maxRecDepth 20000 in
theorem T_X12_soonest_70  (hK : KC p R s m args meth c ad g tyc RX12 cX12_soonest 4 (some .int) 7) {r : Int32} {μ2 : gs_M}   {x2 : Int32} {μ : gs_M}  (hD : B_X12_soonest_70  x2 μ = some (r, μ2)) : WJ p l e R s m args below meth c 0 0 (MQ below (gs_Q ad g tyc (some (.int r)) μ2) args s 0 0 (gs_A ad)) ad g tyc 4 70 [.ref 78, gs_J, .int x2, gs_J] [] μ := by
  unfold B_X12_soonest_70 at hD
  refine r_aload_n hK d_X12_soonest_70 rfl rfl ?_
  obtain ⟨u2, e1, hD⟩ := bd0_e hD
  refine r_callV (As := []) (st := []) (stk2 := []) hK (C_X12_putBack  e1) d_X12_soonest_71 mf_X12_putBack ml_RX12_405 im_X12_putBack rfl se_11_RX12_X12_putBack kd_78 rfl (Nat.le_of_ble_eq_true rfl) (by decide) ⟨Nat.zero_le _, Nat.zero_le _⟩ rfl rfl ?_
  refine r_iload_n hK d_X12_soonest_74 rfl rfl ?_
  cases hD
  exact r_iret hK d_X12_soonest_75
set_option maxRecDepth 20000 in
theorem To_X12_soonest_32  (hK : KC p R s m args meth c ad g tyc RX12 cX12_soonest 4 (some .int) 7) {r : Int32} {μ2 : gs_M} {q32 : Int32 → Int32 → Int32 → gs_M → Option (Int32 × gs_M)} (hq32 : ∀ (x1 : Int32) (x2 : Int32) (x3 : Int32) (μ : gs_M), q32 x1 x2 x3 μ = some (r, μ2) → WJ p l e R s m args below meth c 0 0 (MQ below (gs_Q ad g tyc (some (.int r)) μ2) args s 0 0 (gs_A ad)) ad g tyc 4 32 [.ref 78, .int x1, .int x2, .int x3] [] μ) {x1 : Int32} {x2 : Int32} {x3 : Int32} {μ : gs_M}  (hD : Bo_X12_soonest_32 q32 x1 x2 x3 μ = some (r, μ2)) : WJ p l e R s m args below meth c 0 0 (MQ below (gs_Q ad g tyc (some (.int r)) μ2) args s 0 0 (gs_A ad)) ad g tyc 4 32 [.ref 78, .int x1, .int x2, .int x3] [] μ := by
  unfold Bo_X12_soonest_32 at hD
  refine r_iload_n hK d_X12_soonest_32 rfl rfl ?_
  refine r_bipush hK d_X12_soonest_33 cb_30 ?_
  refine r_icmp_gt (tgt := 70) hK d_X12_soonest_35 (by decide) (fun h1 => ?_) (fun h1 => ?_)
  · have hD := if_t hD h1
    refine r_junk [true, false, true, false] (ls2 := [.ref 78, gs_J, .int x2, gs_J]) rfl ?_
    exact T_X12_soonest_70 hK   hD
  · have hD := if_f hD h1
    refine r_iload_n hK d_X12_soonest_38 rfl rfl ?_
    refine r_iconst hK d_X12_soonest_39 ci_m1 ?_
    refine r_icmp_ne (tgt := 70) hK d_X12_soonest_40 (by decide) (fun h2 => ?_) (fun h2 => ?_)
    · have hD := if_f hD h2
      refine r_junk [true, false, true, false] (ls2 := [.ref 78, gs_J, .int x2, gs_J]) rfl ?_
      exact T_X12_soonest_70 hK   hD
    · have hD := if_t hD h2
      refine r_aload_n hK d_X12_soonest_43 rfl rfl ?_
      refine r_iload_n hK d_X12_soonest_44 rfl rfl ?_
      obtain ⟨u4, e3, hD⟩ := bd0_e hD
      refine r_callV (As := [.int x1]) (st := []) (stk2 := []) hK (C_X12_days  e3) d_X12_soonest_45 mf_X12_days ml_RX12_388 im_X12_days rfl se_11_RX12_X12_days kd_78 rfl (Nat.le_of_ble_eq_true rfl) (by decide) ⟨Nat.zero_le _, Nat.zero_le _⟩ rfl rfl ?_
      refine r_aload_n hK d_X12_soonest_48 rfl rfl ?_
      refine r_bipush hK d_X12_soonest_49 cb_79 ?_
      obtain ⟨v7, u6, e5, hD⟩ := bd_e hD
      refine r_callV (As := [.int (79 : Int32)]) (st := []) (stk2 := [.int v7]) hK (C_X12_now  e5) d_X12_soonest_51 mf_X12_now ml_RX12_337 im_X12_now rfl se_11_RX12_X12_now kd_78 rfl (Nat.le_of_ble_eq_true rfl) (by decide) ⟨Nat.zero_le _, Nat.zero_le _⟩ rfl rfl ?_
      refine r_iconst hK d_X12_soonest_54 ci_1 ?_
      refine r_icmp_ne (tgt := 62) hK d_X12_soonest_55 (by decide) (fun h8 => ?_) (fun h8 => ?_)
      · have hD := if_f hD h8
        refine r_iconst hK d_X12_soonest_62 ci_m1 ?_
        refine r_istore_n hK d_X12_soonest_63 rfl (by decide) (ls2 := [.ref 78, .int x1, .int (-1 : Int32), .int x3]) rfl ?_
        refine r_iinc hK d_X12_soonest_64 rfl (v := x3 + (1 : Int32)) (by rw [ci_1]) (by decide) (ls2 := [.ref 78, .int x1, .int (-1 : Int32), .int (x3 + (1 : Int32))]) rfl ?_
        refine r_goto (tgt := 32) hK d_X12_soonest_67 (by decide) ?_
        exact hq32 _ _ _ _  hD
      · have hD := if_t hD h8
        refine r_iload_n hK d_X12_soonest_58 rfl rfl ?_
        refine r_goto (tgt := 63) hK d_X12_soonest_59 (by decide) ?_
        refine r_istore_n hK d_X12_soonest_63 rfl (by decide) (ls2 := [.ref 78, .int x1, .int x3, .int x3]) rfl ?_
        refine r_iinc hK d_X12_soonest_64 rfl (v := x3 + (1 : Int32)) (by rw [ci_1]) (by decide) (ls2 := [.ref 78, .int x1, .int x3, .int (x3 + (1 : Int32))]) rfl ?_
        refine r_goto (tgt := 32) hK d_X12_soonest_67 (by decide) ?_
        exact hq32 _ _ _ _  hD
set_option maxRecDepth 20000 in
theorem TL_X12_soonest_32  (hK : KC p R s m args meth c ad g tyc RX12 cX12_soonest 4 (some .int) 7) {r : Int32} {μ2 : gs_M}   : ∀ (n : Nat) (x1 : Int32) (x2 : Int32) (x3 : Int32) (μ : gs_M), L_X12_soonest_32  n x1 x2 x3 μ = some (r, μ2) → WJ p l e R s m args below meth c 0 0 (MQ below (gs_Q ad g tyc (some (.int r)) μ2) args s 0 0 (gs_A ad)) ad g tyc 4 32 [.ref 78, .int x1, .int x2, .int x3] [] μ := by
  intro n
  induction n with
  | zero => intro x1 x2 x3 μ  hD; cases hD
  | succ n ih => intro x1 x2 x3 μ  hD; exact To_X12_soonest_32 hK  ih  hD
set_option maxRecDepth 20000 in
theorem C_X12_soonest  {x1 : Int32} {μ : gs_M} {r : Int32} {μ2 : gs_M}  (hD : D_X12_soonest x1 μ = some (r, μ2)) : CALL yX12_soonest cX12_soonest 4 (some .int) 7 [.ref 78, .int x1] μ (some (.int r)) μ2 := by
  unfold D_X12_soonest at hD
  refine gs_enter mf_X12_soonest (Nat.le_of_ble_eq_true rfl) (ls := [.ref 78, .int x1, gs_J, gs_J]) rfl (fun p l e R s m args below meth c ad g tyc hK => ?_)
  have hK : KC p R s m args meth c ad g tyc RX12 cX12_soonest 4 (some .int) 7 := hK
  refine r_aload_n hK d_X12_soonest_0 rfl rfl ?_
  refine r_iconst hK d_X12_soonest_1 ci_0 ?_
  refine r_putI hK d_X12_soonest_2 fl_RX12_98_11 rfl rfl kd_78 ?_
  refine r_ltm hD (fun u1 hD => ?_)
  refine r_aload_n hK d_X12_soonest_5 rfl rfl ?_
  obtain ⟨v4, u3, e2, hD⟩ := bd_e hD
  refine r_callV (As := []) (st := []) (stk2 := [.int v4]) hK (C_X12_isAfloat  e2) d_X12_soonest_6 mf_X12_isAfloat ml_RX12_373 im_X12_isAfloat rfl se_11_RX12_X12_isAfloat kd_78 rfl (Nat.le_of_ble_eq_true rfl) (by decide) ⟨Nat.zero_le _, Nat.zero_le _⟩ rfl rfl ?_
  refine r_if_eq (tgt := 22) hK d_X12_soonest_9 (by decide) (fun h5 => ?_) (fun h5 => ?_)
  · have hD := if_t hD h5
    refine r_iconst hK d_X12_soonest_22 ci_m1 ?_
    cases hD
    exact r_iret hK d_X12_soonest_23
  · have hD := if_f hD h5
    refine r_iload_n hK d_X12_soonest_12 rfl rfl ?_
    refine r_iconst hK d_X12_soonest_13 ci_0 ?_
    refine r_bipush hK d_X12_soonest_14 cb_30 ?_
    obtain ⟨v8, u7, e6, hD⟩ := bd_e hD
    refine r_callS (As := [.int x1, .int (0 : Int32), .int (30 : Int32)]) (st := []) (stk2 := [.int v8]) hK (C_X12_isIn  e6) d_X12_soonest_16 mf_X12_isIn ml_RX12_217 ss_X12_isIn rfl (Nat.le_of_ble_eq_true rfl) (by decide) ⟨Nat.zero_le _, Nat.zero_le _⟩ rfl rfl ?_
    refine r_if_ne (tgt := 24) hK d_X12_soonest_19 (by decide) (fun h9 => ?_) (fun h9 => ?_)
    · have hD := if_f hD h9
      refine r_iconst hK d_X12_soonest_24 ci_m1 ?_
      refine r_istore_n hK d_X12_soonest_25 rfl (by decide) (ls2 := [.ref 78, .int x1, .int (-1 : Int32), gs_J]) rfl ?_
      refine r_aload_n hK d_X12_soonest_26 rfl rfl ?_
      obtain ⟨u11, e10, hD⟩ := bd0_e hD
      refine r_callV (As := []) (st := []) (stk2 := []) hK (C_X12_keeps  e10) d_X12_soonest_27 mf_X12_keeps ml_RX12_402 im_X12_keeps rfl se_11_RX12_X12_keeps kd_78 rfl (Nat.le_of_ble_eq_true rfl) (by decide) ⟨Nat.zero_le _, Nat.zero_le _⟩ rfl rfl ?_
      refine r_iconst hK d_X12_soonest_30 ci_1 ?_
      refine r_istore_n hK d_X12_soonest_31 rfl (by decide) (ls2 := [.ref 78, .int x1, .int (-1 : Int32), .int (1 : Int32)]) rfl ?_
      exact TL_X12_soonest_32 hK  _ _ _ _ _  hD
    · have hD := if_t hD h9
      refine r_iconst hK d_X12_soonest_22 ci_m1 ?_
      cases hD
      exact r_iret hK d_X12_soonest_23
end S_X12_soonest
theorem d_X12_offBy_0 : gd cX12_offBy 0 (.iconst 0) 1 1 := ⟨by decide +kernel, rfl⟩
theorem d_X12_offBy_1 : gd cX12_offBy 1 (.istore_n 2) 1 2 := ⟨by decide +kernel, rfl⟩
theorem d_X12_offBy_2 : gd cX12_offBy 2 (.iconst 5) 1 3 := ⟨by decide +kernel, rfl⟩
theorem d_X12_offBy_3 : gd cX12_offBy 3 (.istore_n 3) 1 4 := ⟨by decide +kernel, rfl⟩
theorem d_X12_offBy_4 : gd cX12_offBy 4 (.iload_n 3) 1 5 := ⟨by decide +kernel, rfl⟩
theorem d_X12_offBy_5 : gd cX12_offBy 5 (.bipush 40) 2 7 := ⟨by decide +kernel, rfl⟩
theorem d_X12_offBy_7 : gd cX12_offBy 7 (.if_icmp .gt 69) 3 10 := ⟨by decide +kernel, rfl⟩
theorem d_X12_offBy_10 : gd cX12_offBy 10 (.iload_n 1) 1 11 := ⟨by decide +kernel, rfl⟩
theorem d_X12_offBy_11 : gd cX12_offBy 11 (.iload_n 3) 1 12 := ⟨by decide +kernel, rfl⟩
theorem d_X12_offBy_12 : gd cX12_offBy 12 .imul 1 13 := ⟨by decide +kernel, rfl⟩
theorem d_X12_offBy_13 : gd cX12_offBy 13 (.bipush 10) 2 15 := ⟨by decide +kernel, rfl⟩
theorem d_X12_offBy_15 : gd cX12_offBy 15 .idiv 1 16 := ⟨by decide +kernel, rfl⟩
theorem d_X12_offBy_16 : gd cX12_offBy 16 (.istore 4) 2 18 := ⟨by decide +kernel, rfl⟩
theorem d_X12_offBy_18 : gd cX12_offBy 18 (.aload_n 0) 1 19 := ⟨by decide +kernel, rfl⟩
theorem d_X12_offBy_19 : gd cX12_offBy 19 (.invokevirtual 367) 3 22 := ⟨by decide +kernel, rfl⟩
theorem d_X12_offBy_22 : gd cX12_offBy 22 (.ifCond .ge 13) 3 25 := ⟨by decide +kernel, rfl⟩
theorem d_X12_offBy_25 : gd cX12_offBy 25 (.aload_n 0) 1 26 := ⟨by decide +kernel, rfl⟩
theorem d_X12_offBy_26 : gd cX12_offBy 26 (.invokevirtual 367) 3 29 := ⟨by decide +kernel, rfl⟩
theorem d_X12_offBy_29 : gd cX12_offBy 29 (.iload 4) 2 31 := ⟨by decide +kernel, rfl⟩
theorem d_X12_offBy_31 : gd cX12_offBy 31 .isub 1 32 := ⟨by decide +kernel, rfl⟩
theorem d_X12_offBy_32 : gd cX12_offBy 32 (.goto 10) 3 35 := ⟨by decide +kernel, rfl⟩
theorem d_X12_offBy_35 : gd cX12_offBy 35 (.aload_n 0) 1 36 := ⟨by decide +kernel, rfl⟩
theorem d_X12_offBy_36 : gd cX12_offBy 36 (.invokevirtual 367) 3 39 := ⟨by decide +kernel, rfl⟩
theorem d_X12_offBy_39 : gd cX12_offBy 39 (.iload 4) 2 41 := ⟨by decide +kernel, rfl⟩
theorem d_X12_offBy_41 : gd cX12_offBy 41 .iadd 1 42 := ⟨by decide +kernel, rfl⟩
theorem d_X12_offBy_42 : gd cX12_offBy 42 (.istore 5) 2 44 := ⟨by decide +kernel, rfl⟩
theorem d_X12_offBy_44 : gd cX12_offBy 44 (.aload_n 0) 1 45 := ⟨by decide +kernel, rfl⟩
theorem d_X12_offBy_45 : gd cX12_offBy 45 (.invokevirtual 402) 3 48 := ⟨by decide +kernel, rfl⟩
theorem d_X12_offBy_48 : gd cX12_offBy 48 (.aload_n 0) 1 49 := ⟨by decide +kernel, rfl⟩
theorem d_X12_offBy_49 : gd cX12_offBy 49 (.iload_n 3) 1 50 := ⟨by decide +kernel, rfl⟩
theorem d_X12_offBy_50 : gd cX12_offBy 50 (.invokevirtual 376) 3 53 := ⟨by decide +kernel, rfl⟩
theorem d_X12_offBy_53 : gd cX12_offBy 53 (.iload_n 2) 1 54 := ⟨by decide +kernel, rfl⟩
theorem d_X12_offBy_54 : gd cX12_offBy 54 (.iload 5) 2 56 := ⟨by decide +kernel, rfl⟩
theorem d_X12_offBy_56 : gd cX12_offBy 56 (.aload_n 0) 1 57 := ⟨by decide +kernel, rfl⟩
theorem d_X12_offBy_57 : gd cX12_offBy 57 (.invokevirtual 367) 3 60 := ⟨by decide +kernel, rfl⟩
theorem d_X12_offBy_60 : gd cX12_offBy 60 .isub 1 61 := ⟨by decide +kernel, rfl⟩
theorem d_X12_offBy_61 : gd cX12_offBy 61 (.invokestatic 370) 3 64 := ⟨by decide +kernel, rfl⟩
theorem d_X12_offBy_64 : gd cX12_offBy 64 .iadd 1 65 := ⟨by decide +kernel, rfl⟩
theorem d_X12_offBy_65 : gd cX12_offBy 65 (.istore_n 2) 1 66 := ⟨by decide +kernel, rfl⟩
theorem d_X12_offBy_66 : gd cX12_offBy 66 (.aload_n 0) 1 67 := ⟨by decide +kernel, rfl⟩
theorem d_X12_offBy_67 : gd cX12_offBy 67 (.invokevirtual 405) 3 70 := ⟨by decide +kernel, rfl⟩
theorem d_X12_offBy_70 : gd cX12_offBy 70 (.iinc 3 5) 3 73 := ⟨by decide +kernel, rfl⟩
theorem d_X12_offBy_73 : gd cX12_offBy 73 (.goto (-69)) 3 76 := ⟨by decide +kernel, rfl⟩
theorem d_X12_offBy_76 : gd cX12_offBy 76 (.iload_n 2) 1 77 := ⟨by decide +kernel, rfl⟩
theorem d_X12_offBy_77 : gd cX12_offBy 77 .ireturn 1 78 := ⟨by decide +kernel, rfl⟩
def B_X12_offBy_42 (q4 : Int32 → Int32 → Int32 → gs_M → Option (Int32 × gs_M)) (x1 : Int32) (x2 : Int32) (x3 : Int32) (xs0 : Int32) (μ : gs_M) : Option (Int32 × gs_M) :=
  bd0 (D_X12_keeps μ) (fun u2 => bd0 (D_X12_rolls x3 u2) (fun u4 => bd (D_X12_lean u4) (fun v7 u6 => lt1 (if 0 ≤ (xs0 - v7) then (xs0 - v7) else 0 - (xs0 - v7)) (fun v8 => lt1 (x2 + v8) (fun v9 => bd0 (D_X12_putBack u6) (fun u11 => q4 x1 v9 (x3 + (5 : Int32)) u11))))))
def Bo_X12_offBy_4 (q4 : Int32 → Int32 → Int32 → gs_M → Option (Int32 × gs_M)) (x1 : Int32) (x2 : Int32) (x3 : Int32) (μ : gs_M) : Option (Int32 × gs_M) :=
  if (40 : Int32) < x3 then (some (x2, μ)) else (lt1 ((x1 * x3) / (10 : Int32)) (fun v2 => bd (D_X12_lean μ) (fun v5 u4 => if 0 ≤ v5 then (bd (D_X12_lean u4) (fun v9 u8 => B_X12_offBy_42 q4 x1 x2 x3 (v9 + v2) u8)) else (bd (D_X12_lean u4) (fun v12 u11 => B_X12_offBy_42 q4 x1 x2 x3 (v12 - v2) u11)))))
def L_X12_offBy_4  : Nat → Int32 → Int32 → Int32 → gs_M → Option (Int32 × gs_M)
  | 0 => fun _ _ _ _ => none
  | n + 1 => fun x1 x2 x3 μ => Bo_X12_offBy_4  (L_X12_offBy_4  n) x1 x2 x3 μ
def D_X12_offBy (x1 : Int32) (μ : gs_M) : Option (Int32 × gs_M) :=
  L_X12_offBy_4 4096 x1 (0 : Int32) (5 : Int32) μ
section S_X12_offBy
variable {p : Program} {l : Launch} {e : Env} {R : Room} {s : State} {m : MethodId} {args : Array Value} {below : List Frame} {meth : Method} {c : Code} {ad : Nat → Nat} {g : va_G} {tyc : Nat → ClassId}
set_option maxRecDepth 20000 in
theorem T_X12_offBy_42  (hK : KC p R s m args meth c ad g tyc RX12 cX12_offBy 6 (some .int) 6) {r : Int32} {μ2 : gs_M} {q4 : Int32 → Int32 → Int32 → gs_M → Option (Int32 × gs_M)} (hq4 : ∀ (x1 : Int32) (x2 : Int32) (x3 : Int32) (μ : gs_M), q4 x1 x2 x3 μ = some (r, μ2) → WJ p l e R s m args below meth c 0 0 (MQ below (gs_Q ad g tyc (some (.int r)) μ2) args s 0 0 (gs_A ad)) ad g tyc 6 4 [.ref 78, .int x1, .int x2, .int x3, gs_J, gs_J] [] μ) {x1 : Int32} {x2 : Int32} {x3 : Int32} {xs0 : Int32} {μ : gs_M}  (hD : B_X12_offBy_42 q4 x1 x2 x3 xs0 μ = some (r, μ2)) : WJ p l e R s m args below meth c 0 0 (MQ below (gs_Q ad g tyc (some (.int r)) μ2) args s 0 0 (gs_A ad)) ad g tyc 6 42 [.ref 78, .int x1, .int x2, .int x3, gs_J, gs_J] [.int xs0] μ := by
  unfold B_X12_offBy_42 at hD
  refine r_istore hK d_X12_offBy_42 (by decide) (ls2 := [.ref 78, .int x1, .int x2, .int x3, gs_J, .int xs0]) rfl ?_
  refine r_aload_n hK d_X12_offBy_44 rfl rfl ?_
  obtain ⟨u2, e1, hD⟩ := bd0_e hD
  refine r_callV (As := []) (st := []) (stk2 := []) hK (C_X12_keeps  e1) d_X12_offBy_45 mf_X12_keeps ml_RX12_402 im_X12_keeps rfl se_11_RX12_X12_keeps kd_78 rfl (Nat.le_of_ble_eq_true rfl) (by decide) ⟨Nat.zero_le _, Nat.zero_le _⟩ rfl rfl ?_
  refine r_aload_n hK d_X12_offBy_48 rfl rfl ?_
  refine r_iload_n hK d_X12_offBy_49 rfl rfl ?_
  obtain ⟨u4, e3, hD⟩ := bd0_e hD
  refine r_callV (As := [.int x3]) (st := []) (stk2 := []) hK (C_X12_rolls  e3) d_X12_offBy_50 mf_X12_rolls ml_RX12_376 im_X12_rolls rfl se_11_RX12_X12_rolls kd_78 rfl (Nat.le_of_ble_eq_true rfl) (by decide) ⟨Nat.zero_le _, Nat.zero_le _⟩ rfl rfl ?_
  refine r_iload_n hK d_X12_offBy_53 rfl rfl ?_
  refine r_iload hK d_X12_offBy_54 rfl ?_
  refine r_aload_n hK d_X12_offBy_56 rfl rfl ?_
  obtain ⟨v7, u6, e5, hD⟩ := bd_e hD
  refine r_callV (As := []) (st := [.int xs0, .int x2]) (stk2 := [.int v7, .int xs0, .int x2]) hK (C_X12_lean  e5) d_X12_offBy_57 mf_X12_lean ml_RX12_367 im_X12_lean rfl se_11_RX12_X12_lean kd_78 rfl (Nat.le_of_ble_eq_true rfl) (by decide) ⟨Nat.zero_le _, Nat.zero_le _⟩ rfl rfl ?_
  refine r_isub hK d_X12_offBy_60 ?_
  refine r_mabs hK d_X12_offBy_61 mm_RX12_370 ms_abs mi_0 mc_abs (Nat.le_of_ble_eq_true rfl) (by decide) ⟨Nat.zero_le _, Nat.zero_le _⟩ ?_
  refine r_lti hD (fun v8 hD => ?_)
  refine r_iadd hK d_X12_offBy_64 ?_
  refine r_lti hD (fun v9 hD => ?_)
  refine r_istore_n hK d_X12_offBy_65 rfl (by decide) (ls2 := [.ref 78, .int x1, .int v9, .int x3, gs_J, .int xs0]) rfl ?_
  refine r_aload_n hK d_X12_offBy_66 rfl rfl ?_
  obtain ⟨u11, e10, hD⟩ := bd0_e hD
  refine r_callV (As := []) (st := []) (stk2 := []) hK (C_X12_putBack  e10) d_X12_offBy_67 mf_X12_putBack ml_RX12_405 im_X12_putBack rfl se_11_RX12_X12_putBack kd_78 rfl (Nat.le_of_ble_eq_true rfl) (by decide) ⟨Nat.zero_le _, Nat.zero_le _⟩ rfl rfl ?_
  refine r_iinc hK d_X12_offBy_70 rfl (v := x3 + (5 : Int32)) (by rw [ci_5]) (by decide) (ls2 := [.ref 78, .int x1, .int v9, .int (x3 + (5 : Int32)), gs_J, .int xs0]) rfl ?_
  refine r_goto (tgt := 4) hK d_X12_offBy_73 (by decide) ?_
  refine r_junk [true, true, true, true, false, false] (ls2 := [.ref 78, .int x1, .int v9, .int (x3 + (5 : Int32)), gs_J, gs_J]) rfl ?_
  exact hq4 _ _ _ _  hD
set_option maxRecDepth 20000 in
theorem To_X12_offBy_4  (hK : KC p R s m args meth c ad g tyc RX12 cX12_offBy 6 (some .int) 6) {r : Int32} {μ2 : gs_M} {q4 : Int32 → Int32 → Int32 → gs_M → Option (Int32 × gs_M)} (hq4 : ∀ (x1 : Int32) (x2 : Int32) (x3 : Int32) (μ : gs_M), q4 x1 x2 x3 μ = some (r, μ2) → WJ p l e R s m args below meth c 0 0 (MQ below (gs_Q ad g tyc (some (.int r)) μ2) args s 0 0 (gs_A ad)) ad g tyc 6 4 [.ref 78, .int x1, .int x2, .int x3, gs_J, gs_J] [] μ) {x1 : Int32} {x2 : Int32} {x3 : Int32} {μ : gs_M}  (hD : Bo_X12_offBy_4 q4 x1 x2 x3 μ = some (r, μ2)) : WJ p l e R s m args below meth c 0 0 (MQ below (gs_Q ad g tyc (some (.int r)) μ2) args s 0 0 (gs_A ad)) ad g tyc 6 4 [.ref 78, .int x1, .int x2, .int x3, gs_J, gs_J] [] μ := by
  unfold Bo_X12_offBy_4 at hD
  refine r_iload_n hK d_X12_offBy_4 rfl rfl ?_
  refine r_bipush hK d_X12_offBy_5 cb_40 ?_
  refine r_icmp_gt (tgt := 76) hK d_X12_offBy_7 (by decide) (fun h1 => ?_) (fun h1 => ?_)
  · have hD := if_t hD h1
    refine r_iload_n hK d_X12_offBy_76 rfl rfl ?_
    cases hD
    exact r_iret hK d_X12_offBy_77
  · have hD := if_f hD h1
    refine r_iload_n hK d_X12_offBy_10 rfl rfl ?_
    refine r_iload_n hK d_X12_offBy_11 rfl rfl ?_
    refine r_imul hK d_X12_offBy_12 ?_
    refine r_bipush hK d_X12_offBy_13 cb_10 ?_
    refine r_idiv hK d_X12_offBy_15 (by decide) ?_
    refine r_lti hD (fun v2 hD => ?_)
    refine r_istore hK d_X12_offBy_16 (by decide) (ls2 := [.ref 78, .int x1, .int x2, .int x3, .int v2, gs_J]) rfl ?_
    refine r_aload_n hK d_X12_offBy_18 rfl rfl ?_
    obtain ⟨v5, u4, e3, hD⟩ := bd_e hD
    refine r_callV (As := []) (st := []) (stk2 := [.int v5]) hK (C_X12_lean  e3) d_X12_offBy_19 mf_X12_lean ml_RX12_367 im_X12_lean rfl se_11_RX12_X12_lean kd_78 rfl (Nat.le_of_ble_eq_true rfl) (by decide) ⟨Nat.zero_le _, Nat.zero_le _⟩ rfl rfl ?_
    refine r_if_ge (tgt := 35) hK d_X12_offBy_22 (by decide) (fun h6 => ?_) (fun h6 => ?_)
    · have hD := if_t hD h6
      refine r_aload_n hK d_X12_offBy_35 rfl rfl ?_
      obtain ⟨v9, u8, e7, hD⟩ := bd_e hD
      refine r_callV (As := []) (st := []) (stk2 := [.int v9]) hK (C_X12_lean  e7) d_X12_offBy_36 mf_X12_lean ml_RX12_367 im_X12_lean rfl se_11_RX12_X12_lean kd_78 rfl (Nat.le_of_ble_eq_true rfl) (by decide) ⟨Nat.zero_le _, Nat.zero_le _⟩ rfl rfl ?_
      refine r_iload hK d_X12_offBy_39 rfl ?_
      refine r_iadd hK d_X12_offBy_41 ?_
      refine r_junk [true, true, true, true, false, false] (ls2 := [.ref 78, .int x1, .int x2, .int x3, gs_J, gs_J]) rfl ?_
      exact T_X12_offBy_42 hK hq4  hD
    · have hD := if_f hD h6
      refine r_aload_n hK d_X12_offBy_25 rfl rfl ?_
      obtain ⟨v12, u11, e10, hD⟩ := bd_e hD
      refine r_callV (As := []) (st := []) (stk2 := [.int v12]) hK (C_X12_lean  e10) d_X12_offBy_26 mf_X12_lean ml_RX12_367 im_X12_lean rfl se_11_RX12_X12_lean kd_78 rfl (Nat.le_of_ble_eq_true rfl) (by decide) ⟨Nat.zero_le _, Nat.zero_le _⟩ rfl rfl ?_
      refine r_iload hK d_X12_offBy_29 rfl ?_
      refine r_isub hK d_X12_offBy_31 ?_
      refine r_goto (tgt := 42) hK d_X12_offBy_32 (by decide) ?_
      refine r_junk [true, true, true, true, false, false] (ls2 := [.ref 78, .int x1, .int x2, .int x3, gs_J, gs_J]) rfl ?_
      exact T_X12_offBy_42 hK hq4  hD
set_option maxRecDepth 20000 in
theorem TL_X12_offBy_4  (hK : KC p R s m args meth c ad g tyc RX12 cX12_offBy 6 (some .int) 6) {r : Int32} {μ2 : gs_M}   : ∀ (n : Nat) (x1 : Int32) (x2 : Int32) (x3 : Int32) (μ : gs_M), L_X12_offBy_4  n x1 x2 x3 μ = some (r, μ2) → WJ p l e R s m args below meth c 0 0 (MQ below (gs_Q ad g tyc (some (.int r)) μ2) args s 0 0 (gs_A ad)) ad g tyc 6 4 [.ref 78, .int x1, .int x2, .int x3, gs_J, gs_J] [] μ := by
  intro n
  induction n with
  | zero => intro x1 x2 x3 μ  hD; cases hD
  | succ n ih => intro x1 x2 x3 μ  hD; exact To_X12_offBy_4 hK  ih  hD
set_option maxRecDepth 20000 in
theorem C_X12_offBy  {x1 : Int32} {μ : gs_M} {r : Int32} {μ2 : gs_M}  (hD : D_X12_offBy x1 μ = some (r, μ2)) : CALL yX12_offBy cX12_offBy 6 (some .int) 6 [.ref 78, .int x1] μ (some (.int r)) μ2 := by
  unfold D_X12_offBy at hD
  refine gs_enter mf_X12_offBy (Nat.le_of_ble_eq_true rfl) (ls := [.ref 78, .int x1, gs_J, gs_J, gs_J, gs_J]) rfl (fun p l e R s m args below meth c ad g tyc hK => ?_)
  have hK : KC p R s m args meth c ad g tyc RX12 cX12_offBy 6 (some .int) 6 := hK
  refine r_iconst hK d_X12_offBy_0 ci_0 ?_
  refine r_istore_n hK d_X12_offBy_1 rfl (by decide) (ls2 := [.ref 78, .int x1, .int (0 : Int32), gs_J, gs_J, gs_J]) rfl ?_
  refine r_iconst hK d_X12_offBy_2 ci_5 ?_
  refine r_istore_n hK d_X12_offBy_3 rfl (by decide) (ls2 := [.ref 78, .int x1, .int (0 : Int32), .int (5 : Int32), gs_J, gs_J]) rfl ?_
  exact TL_X12_offBy_4 hK  _ _ _ _ _  hD
end S_X12_offBy
theorem d_X12_book_0 : gd cX12_book 0 (.aload_n 0) 1 1 := ⟨by decide +kernel, rfl⟩
theorem d_X12_book_1 : gd cX12_book 1 (.iconst 0) 1 2 := ⟨by decide +kernel, rfl⟩
theorem d_X12_book_2 : gd cX12_book 2 (.putfield 98) 3 5 := ⟨by decide +kernel, rfl⟩
theorem d_X12_book_5 : gd cX12_book 5 (.aload_n 0) 1 6 := ⟨by decide +kernel, rfl⟩
theorem d_X12_book_6 : gd cX12_book 6 (.invokevirtual 373) 3 9 := ⟨by decide +kernel, rfl⟩
theorem d_X12_book_9 : gd cX12_book 9 (.ifCond .eq 18) 3 12 := ⟨by decide +kernel, rfl⟩
theorem d_X12_book_12 : gd cX12_book 12 (.iload_n 1) 1 13 := ⟨by decide +kernel, rfl⟩
theorem d_X12_book_13 : gd cX12_book 13 (.iconst (-1)) 1 14 := ⟨by decide +kernel, rfl⟩
theorem d_X12_book_14 : gd cX12_book 14 (.if_icmp .eq 15) 3 17 := ⟨by decide +kernel, rfl⟩
theorem d_X12_book_17 : gd cX12_book 17 (.iload_n 1) 1 18 := ⟨by decide +kernel, rfl⟩
theorem d_X12_book_18 : gd cX12_book 18 (.iconst 0) 1 19 := ⟨by decide +kernel, rfl⟩
theorem d_X12_book_19 : gd cX12_book 19 (.bipush 99) 2 21 := ⟨by decide +kernel, rfl⟩
theorem d_X12_book_21 : gd cX12_book 21 (.invokestatic 217) 3 24 := ⟨by decide +kernel, rfl⟩
theorem d_X12_book_24 : gd cX12_book 24 (.ifCond .ne 5) 3 27 := ⟨by decide +kernel, rfl⟩
theorem d_X12_book_27 : gd cX12_book 27 (.iconst (-1)) 1 28 := ⟨by decide +kernel, rfl⟩
theorem d_X12_book_28 : gd cX12_book 28 .ireturn 1 29 := ⟨by decide +kernel, rfl⟩
theorem d_X12_book_29 : gd cX12_book 29 (.iload_n 1) 1 30 := ⟨by decide +kernel, rfl⟩
theorem d_X12_book_30 : gd cX12_book 30 (.iconst (-1)) 1 31 := ⟨by decide +kernel, rfl⟩
theorem d_X12_book_31 : gd cX12_book 31 (.if_icmp .eq 9) 3 34 := ⟨by decide +kernel, rfl⟩
theorem d_X12_book_34 : gd cX12_book 34 (.aload_n 0) 1 35 := ⟨by decide +kernel, rfl⟩
theorem d_X12_book_35 : gd cX12_book 35 (.iload_n 1) 1 36 := ⟨by decide +kernel, rfl⟩
theorem d_X12_book_36 : gd cX12_book 36 (.invokevirtual 464) 3 39 := ⟨by decide +kernel, rfl⟩
theorem d_X12_book_39 : gd cX12_book 39 .ireturn 1 40 := ⟨by decide +kernel, rfl⟩
theorem d_X12_book_40 : gd cX12_book 40 (.iconst 0) 1 41 := ⟨by decide +kernel, rfl⟩
theorem d_X12_book_41 : gd cX12_book 41 (.istore_n 2) 1 42 := ⟨by decide +kernel, rfl⟩
theorem d_X12_book_42 : gd cX12_book 42 (.aload_n 0) 1 43 := ⟨by decide +kernel, rfl⟩
theorem d_X12_book_43 : gd cX12_book 43 (.iconst 0) 1 44 := ⟨by decide +kernel, rfl⟩
theorem d_X12_book_44 : gd cX12_book 44 (.invokevirtual 464) 3 47 := ⟨by decide +kernel, rfl⟩
theorem d_X12_book_47 : gd cX12_book 47 (.istore_n 3) 1 48 := ⟨by decide +kernel, rfl⟩
theorem d_X12_book_48 : gd cX12_book 48 (.iconst 1) 1 49 := ⟨by decide +kernel, rfl⟩
theorem d_X12_book_49 : gd cX12_book 49 (.istore 4) 2 51 := ⟨by decide +kernel, rfl⟩
theorem d_X12_book_51 : gd cX12_book 51 (.iload 4) 2 53 := ⟨by decide +kernel, rfl⟩
theorem d_X12_book_53 : gd cX12_book 53 (.bipush 99) 2 55 := ⟨by decide +kernel, rfl⟩
theorem d_X12_book_55 : gd cX12_book 55 (.if_icmp .gt 32) 3 58 := ⟨by decide +kernel, rfl⟩
theorem d_X12_book_58 : gd cX12_book 58 (.aload_n 0) 1 59 := ⟨by decide +kernel, rfl⟩
theorem d_X12_book_59 : gd cX12_book 59 (.iload 4) 2 61 := ⟨by decide +kernel, rfl⟩
theorem d_X12_book_61 : gd cX12_book 61 (.invokevirtual 464) 3 64 := ⟨by decide +kernel, rfl⟩
theorem d_X12_book_64 : gd cX12_book 64 (.istore 5) 2 66 := ⟨by decide +kernel, rfl⟩
theorem d_X12_book_66 : gd cX12_book 66 (.iload 5) 2 68 := ⟨by decide +kernel, rfl⟩
theorem d_X12_book_68 : gd cX12_book 68 (.iload_n 3) 1 69 := ⟨by decide +kernel, rfl⟩
theorem d_X12_book_69 : gd cX12_book 69 (.if_icmp .lt 6) 3 72 := ⟨by decide +kernel, rfl⟩
theorem d_X12_book_72 : gd cX12_book 72 (.goto 9) 3 75 := ⟨by decide +kernel, rfl⟩
theorem d_X12_book_75 : gd cX12_book 75 (.iload 4) 2 77 := ⟨by decide +kernel, rfl⟩
theorem d_X12_book_77 : gd cX12_book 77 (.istore_n 2) 1 78 := ⟨by decide +kernel, rfl⟩
theorem d_X12_book_78 : gd cX12_book 78 (.iload 5) 2 80 := ⟨by decide +kernel, rfl⟩
theorem d_X12_book_80 : gd cX12_book 80 (.istore_n 3) 1 81 := ⟨by decide +kernel, rfl⟩
theorem d_X12_book_81 : gd cX12_book 81 (.iinc 4 1) 3 84 := ⟨by decide +kernel, rfl⟩
theorem d_X12_book_84 : gd cX12_book 84 (.goto (-33)) 3 87 := ⟨by decide +kernel, rfl⟩
theorem d_X12_book_87 : gd cX12_book 87 (.iload_n 2) 1 88 := ⟨by decide +kernel, rfl⟩
theorem d_X12_book_88 : gd cX12_book 88 .ireturn 1 89 := ⟨by decide +kernel, rfl⟩
def Bo_X12_book_51 (q51 : Int32 → Int32 → Int32 → gs_M → Option (Int32 × gs_M)) (x2 : Int32) (x3 : Int32) (x4 : Int32) (μ : gs_M) : Option (Int32 × gs_M) :=
  if (99 : Int32) < x4 then (some (x2, μ)) else (bd (D_X12_offBy x4 μ) (fun v4 u3 => if v4 < x3 then (q51 x4 v4 (x4 + (1 : Int32)) u3) else (q51 x2 x3 (x4 + (1 : Int32)) u3)))
def L_X12_book_51  : Nat → Int32 → Int32 → Int32 → gs_M → Option (Int32 × gs_M)
  | 0 => fun _ _ _ _ => none
  | n + 1 => fun x2 x3 x4 μ => Bo_X12_book_51  (L_X12_book_51  n) x2 x3 x4 μ
def B_X12_book_29  (x1 : Int32) (μ : gs_M) : Option (Int32 × gs_M) :=
  if x1 = (-1 : Int32) then (bd (D_X12_offBy (0 : Int32) μ) (fun v4 u3 => L_X12_book_51 4096 (0 : Int32) v4 (1 : Int32) u3)) else (bd (D_X12_offBy x1 μ) (fun v7 u6 => some (v7, u6)))
def D_X12_book (x1 : Int32) (μ : gs_M) : Option (Int32 × gs_M) :=
  lt1 (sI μ 78 0 (0 : Int32)) (fun u1 => bd (D_X12_isAfloat u1) (fun v4 u3 => if v4 = 0 then (some ((-1 : Int32), u3)) else (if x1 = (-1 : Int32) then (B_X12_book_29 x1 u3) else (bd (D_X12_isIn x1 (0 : Int32) (99 : Int32) u3) (fun v9 u8 => if v9 = 0 then (some ((-1 : Int32), u8)) else (B_X12_book_29 x1 u8))))))
section S_X12_book
variable {p : Program} {l : Launch} {e : Env} {R : Room} {s : State} {m : MethodId} {args : Array Value} {below : List Frame} {meth : Method} {c : Code} {ad : Nat → Nat} {g : va_G} {tyc : Nat → ClassId}
set_option maxRecDepth 20000 in
theorem To_X12_book_51  (hK : KC p R s m args meth c ad g tyc RX12 cX12_book 6 (some .int) 7) {r : Int32} {μ2 : gs_M} {q51 : Int32 → Int32 → Int32 → gs_M → Option (Int32 × gs_M)} (hq51 : ∀ (x2 : Int32) (x3 : Int32) (x4 : Int32) (μ : gs_M), q51 x2 x3 x4 μ = some (r, μ2) → WJ p l e R s m args below meth c 0 0 (MQ below (gs_Q ad g tyc (some (.int r)) μ2) args s 0 0 (gs_A ad)) ad g tyc 6 51 [.ref 78, gs_J, .int x2, .int x3, .int x4, gs_J] [] μ) {x2 : Int32} {x3 : Int32} {x4 : Int32} {μ : gs_M}  (hD : Bo_X12_book_51 q51 x2 x3 x4 μ = some (r, μ2)) : WJ p l e R s m args below meth c 0 0 (MQ below (gs_Q ad g tyc (some (.int r)) μ2) args s 0 0 (gs_A ad)) ad g tyc 6 51 [.ref 78, gs_J, .int x2, .int x3, .int x4, gs_J] [] μ := by
  unfold Bo_X12_book_51 at hD
  refine r_iload hK d_X12_book_51 rfl ?_
  refine r_bipush hK d_X12_book_53 cb_99 ?_
  refine r_icmp_gt (tgt := 87) hK d_X12_book_55 (by decide) (fun h1 => ?_) (fun h1 => ?_)
  · have hD := if_t hD h1
    refine r_iload_n hK d_X12_book_87 rfl rfl ?_
    cases hD
    exact r_iret hK d_X12_book_88
  · have hD := if_f hD h1
    refine r_aload_n hK d_X12_book_58 rfl rfl ?_
    refine r_iload hK d_X12_book_59 rfl ?_
    obtain ⟨v4, u3, e2, hD⟩ := bd_e hD
    refine r_callV (As := [.int x4]) (st := []) (stk2 := [.int v4]) hK (C_X12_offBy  e2) d_X12_book_61 mf_X12_offBy ml_RX12_464 im_X12_offBy rfl se_11_RX12_X12_offBy kd_78 rfl (Nat.le_of_ble_eq_true rfl) (by decide) ⟨Nat.zero_le _, Nat.zero_le _⟩ rfl rfl ?_
    refine r_istore hK d_X12_book_64 (by decide) (ls2 := [.ref 78, gs_J, .int x2, .int x3, .int x4, .int v4]) rfl ?_
    refine r_iload hK d_X12_book_66 rfl ?_
    refine r_iload_n hK d_X12_book_68 rfl rfl ?_
    refine r_icmp_lt (tgt := 75) hK d_X12_book_69 (by decide) (fun h5 => ?_) (fun h5 => ?_)
    · have hD := if_t hD h5
      refine r_iload hK d_X12_book_75 rfl ?_
      refine r_istore_n hK d_X12_book_77 rfl (by decide) (ls2 := [.ref 78, gs_J, .int x4, .int x3, .int x4, .int v4]) rfl ?_
      refine r_iload hK d_X12_book_78 rfl ?_
      refine r_istore_n hK d_X12_book_80 rfl (by decide) (ls2 := [.ref 78, gs_J, .int x4, .int v4, .int x4, .int v4]) rfl ?_
      refine r_iinc hK d_X12_book_81 rfl (v := x4 + (1 : Int32)) (by rw [ci_1]) (by decide) (ls2 := [.ref 78, gs_J, .int x4, .int v4, .int (x4 + (1 : Int32)), .int v4]) rfl ?_
      refine r_goto (tgt := 51) hK d_X12_book_84 (by decide) ?_
      refine r_junk [true, false, true, true, true, false] (ls2 := [.ref 78, gs_J, .int x4, .int v4, .int (x4 + (1 : Int32)), gs_J]) rfl ?_
      exact hq51 _ _ _ _  hD
    · have hD := if_f hD h5
      refine r_goto (tgt := 81) hK d_X12_book_72 (by decide) ?_
      refine r_iinc hK d_X12_book_81 rfl (v := x4 + (1 : Int32)) (by rw [ci_1]) (by decide) (ls2 := [.ref 78, gs_J, .int x2, .int x3, .int (x4 + (1 : Int32)), .int v4]) rfl ?_
      refine r_goto (tgt := 51) hK d_X12_book_84 (by decide) ?_
      refine r_junk [true, false, true, true, true, false] (ls2 := [.ref 78, gs_J, .int x2, .int x3, .int (x4 + (1 : Int32)), gs_J]) rfl ?_
      exact hq51 _ _ _ _  hD
set_option maxRecDepth 20000 in
theorem TL_X12_book_51  (hK : KC p R s m args meth c ad g tyc RX12 cX12_book 6 (some .int) 7) {r : Int32} {μ2 : gs_M}   : ∀ (n : Nat) (x2 : Int32) (x3 : Int32) (x4 : Int32) (μ : gs_M), L_X12_book_51  n x2 x3 x4 μ = some (r, μ2) → WJ p l e R s m args below meth c 0 0 (MQ below (gs_Q ad g tyc (some (.int r)) μ2) args s 0 0 (gs_A ad)) ad g tyc 6 51 [.ref 78, gs_J, .int x2, .int x3, .int x4, gs_J] [] μ := by
  intro n
  induction n with
  | zero => intro x2 x3 x4 μ  hD; cases hD
  | succ n ih => intro x2 x3 x4 μ  hD; exact To_X12_book_51 hK  ih  hD
set_option maxRecDepth 20000 in
theorem T_X12_book_29  (hK : KC p R s m args meth c ad g tyc RX12 cX12_book 6 (some .int) 7) {r : Int32} {μ2 : gs_M}   {x1 : Int32} {μ : gs_M}  (hD : B_X12_book_29  x1 μ = some (r, μ2)) : WJ p l e R s m args below meth c 0 0 (MQ below (gs_Q ad g tyc (some (.int r)) μ2) args s 0 0 (gs_A ad)) ad g tyc 6 29 [.ref 78, .int x1, gs_J, gs_J, gs_J, gs_J] [] μ := by
  unfold B_X12_book_29 at hD
  refine r_iload_n hK d_X12_book_29 rfl rfl ?_
  refine r_iconst hK d_X12_book_30 ci_m1 ?_
  refine r_icmp_eq (tgt := 40) hK d_X12_book_31 (by decide) (fun h1 => ?_) (fun h1 => ?_)
  · have hD := if_t hD h1
    refine r_iconst hK d_X12_book_40 ci_0 ?_
    refine r_istore_n hK d_X12_book_41 rfl (by decide) (ls2 := [.ref 78, .int x1, .int (0 : Int32), gs_J, gs_J, gs_J]) rfl ?_
    refine r_aload_n hK d_X12_book_42 rfl rfl ?_
    refine r_iconst hK d_X12_book_43 ci_0 ?_
    obtain ⟨v4, u3, e2, hD⟩ := bd_e hD
    refine r_callV (As := [.int (0 : Int32)]) (st := []) (stk2 := [.int v4]) hK (C_X12_offBy  e2) d_X12_book_44 mf_X12_offBy ml_RX12_464 im_X12_offBy rfl se_11_RX12_X12_offBy kd_78 rfl (Nat.le_of_ble_eq_true rfl) (by decide) ⟨Nat.zero_le _, Nat.zero_le _⟩ rfl rfl ?_
    refine r_istore_n hK d_X12_book_47 rfl (by decide) (ls2 := [.ref 78, .int x1, .int (0 : Int32), .int v4, gs_J, gs_J]) rfl ?_
    refine r_iconst hK d_X12_book_48 ci_1 ?_
    refine r_istore hK d_X12_book_49 (by decide) (ls2 := [.ref 78, .int x1, .int (0 : Int32), .int v4, .int (1 : Int32), gs_J]) rfl ?_
    refine r_junk [true, false, true, true, true, false] (ls2 := [.ref 78, gs_J, .int (0 : Int32), .int v4, .int (1 : Int32), gs_J]) rfl ?_
    exact TL_X12_book_51 hK  _ _ _ _ _  hD
  · have hD := if_f hD h1
    refine r_aload_n hK d_X12_book_34 rfl rfl ?_
    refine r_iload_n hK d_X12_book_35 rfl rfl ?_
    obtain ⟨v7, u6, e5, hD⟩ := bd_e hD
    refine r_callV (As := [.int x1]) (st := []) (stk2 := [.int v7]) hK (C_X12_offBy  e5) d_X12_book_36 mf_X12_offBy ml_RX12_464 im_X12_offBy rfl se_11_RX12_X12_offBy kd_78 rfl (Nat.le_of_ble_eq_true rfl) (by decide) ⟨Nat.zero_le _, Nat.zero_le _⟩ rfl rfl ?_
    cases hD
    exact r_iret hK d_X12_book_39
set_option maxRecDepth 20000 in
theorem C_X12_book  {x1 : Int32} {μ : gs_M} {r : Int32} {μ2 : gs_M}  (hD : D_X12_book x1 μ = some (r, μ2)) : CALL yX12_book cX12_book 6 (some .int) 7 [.ref 78, .int x1] μ (some (.int r)) μ2 := by
  unfold D_X12_book at hD
  refine gs_enter mf_X12_book (Nat.le_of_ble_eq_true rfl) (ls := [.ref 78, .int x1, gs_J, gs_J, gs_J, gs_J]) rfl (fun p l e R s m args below meth c ad g tyc hK => ?_)
  have hK : KC p R s m args meth c ad g tyc RX12 cX12_book 6 (some .int) 7 := hK
  refine r_aload_n hK d_X12_book_0 rfl rfl ?_
  refine r_iconst hK d_X12_book_1 ci_0 ?_
  refine r_putI hK d_X12_book_2 fl_RX12_98_11 rfl rfl kd_78 ?_
  refine r_ltm hD (fun u1 hD => ?_)
  refine r_aload_n hK d_X12_book_5 rfl rfl ?_
  obtain ⟨v4, u3, e2, hD⟩ := bd_e hD
  refine r_callV (As := []) (st := []) (stk2 := [.int v4]) hK (C_X12_isAfloat  e2) d_X12_book_6 mf_X12_isAfloat ml_RX12_373 im_X12_isAfloat rfl se_11_RX12_X12_isAfloat kd_78 rfl (Nat.le_of_ble_eq_true rfl) (by decide) ⟨Nat.zero_le _, Nat.zero_le _⟩ rfl rfl ?_
  refine r_if_eq (tgt := 27) hK d_X12_book_9 (by decide) (fun h5 => ?_) (fun h5 => ?_)
  · have hD := if_t hD h5
    refine r_iconst hK d_X12_book_27 ci_m1 ?_
    cases hD
    exact r_iret hK d_X12_book_28
  · have hD := if_f hD h5
    refine r_iload_n hK d_X12_book_12 rfl rfl ?_
    refine r_iconst hK d_X12_book_13 ci_m1 ?_
    refine r_icmp_eq (tgt := 29) hK d_X12_book_14 (by decide) (fun h6 => ?_) (fun h6 => ?_)
    · have hD := if_t hD h6
      exact T_X12_book_29 hK   hD
    · have hD := if_f hD h6
      refine r_iload_n hK d_X12_book_17 rfl rfl ?_
      refine r_iconst hK d_X12_book_18 ci_0 ?_
      refine r_bipush hK d_X12_book_19 cb_99 ?_
      obtain ⟨v9, u8, e7, hD⟩ := bd_e hD
      refine r_callS (As := [.int x1, .int (0 : Int32), .int (99 : Int32)]) (st := []) (stk2 := [.int v9]) hK (C_X12_isIn  e7) d_X12_book_21 mf_X12_isIn ml_RX12_217 ss_X12_isIn rfl (Nat.le_of_ble_eq_true rfl) (by decide) ⟨Nat.zero_le _, Nat.zero_le _⟩ rfl rfl ?_
      refine r_if_ne (tgt := 29) hK d_X12_book_24 (by decide) (fun h10 => ?_) (fun h10 => ?_)
      · have hD := if_f hD h10
        exact T_X12_book_29 hK   hD
      · have hD := if_t hD h10
        refine r_iconst hK d_X12_book_27 ci_m1 ?_
        cases hD
        exact r_iret hK d_X12_book_28
end S_X12_book
theorem d_X12_isFollowed_0 : gd cX12_isFollowed 0 (.aload_n 0) 1 1 := ⟨by decide +kernel, rfl⟩
theorem d_X12_isFollowed_1 : gd cX12_isFollowed 1 (.invokevirtual 373) 3 4 := ⟨by decide +kernel, rfl⟩
theorem d_X12_isFollowed_4 : gd cX12_isFollowed 4 (.ifCond .eq 16) 3 7 := ⟨by decide +kernel, rfl⟩
theorem d_X12_isFollowed_7 : gd cX12_isFollowed 7 (.iload_n 1) 1 8 := ⟨by decide +kernel, rfl⟩
theorem d_X12_isFollowed_8 : gd cX12_isFollowed 8 (.iload_n 2) 1 9 := ⟨by decide +kernel, rfl⟩
theorem d_X12_isFollowed_9 : gd cX12_isFollowed 9 (.iload_n 3) 1 10 := ⟨by decide +kernel, rfl⟩
theorem d_X12_isFollowed_10 : gd cX12_isFollowed 10 (.invokestatic 424) 3 13 := ⟨by decide +kernel, rfl⟩
theorem d_X12_isFollowed_13 : gd cX12_isFollowed 13 (.ifCond .eq 7) 3 16 := ⟨by decide +kernel, rfl⟩
theorem d_X12_isFollowed_16 : gd cX12_isFollowed 16 (.iconst 1) 1 17 := ⟨by decide +kernel, rfl⟩
theorem d_X12_isFollowed_17 : gd cX12_isFollowed 17 (.goto 4) 3 20 := ⟨by decide +kernel, rfl⟩
theorem d_X12_isFollowed_20 : gd cX12_isFollowed 20 (.iconst 0) 1 21 := ⟨by decide +kernel, rfl⟩
theorem d_X12_isFollowed_21 : gd cX12_isFollowed 21 .ireturn 1 22 := ⟨by decide +kernel, rfl⟩
def B_X12_isFollowed_20   (μ : gs_M) : Option (Int32 × gs_M) :=
  some ((0 : Int32), μ)
def D_X12_isFollowed (x1 : Int32) (x2 : Int32) (x3 : Int32) (μ : gs_M) : Option (Int32 × gs_M) :=
  bd (D_X12_isAfloat μ) (fun v3 u2 => if v3 = 0 then (B_X12_isFollowed_20 u2) else (bd (D_X12_isVoyage x1 x2 x3 u2) (fun v7 u6 => if v7 = 0 then (B_X12_isFollowed_20 u6) else (some ((1 : Int32), u6)))))
section S_X12_isFollowed
variable {p : Program} {l : Launch} {e : Env} {R : Room} {s : State} {m : MethodId} {args : Array Value} {below : List Frame} {meth : Method} {c : Code} {ad : Nat → Nat} {g : va_G} {tyc : Nat → ClassId}
set_option maxRecDepth 20000 in
theorem T_X12_isFollowed_20  (hK : KC p R s m args meth c ad g tyc RX12 cX12_isFollowed 4 (some .boolean) 2) {r : Int32} {μ2 : gs_M}    {μ : gs_M}  (hD : B_X12_isFollowed_20   μ = some (r, μ2)) : WJ p l e R s m args below meth c 0 0 (MQ below (gs_Q ad g tyc (some (.int r)) μ2) args s 0 0 (gs_A ad)) ad g tyc 4 20 [gs_J, gs_J, gs_J, gs_J] [] μ := by
  unfold B_X12_isFollowed_20 at hD
  refine r_iconst hK d_X12_isFollowed_20 ci_0 ?_
  cases hD
  exact r_zret hK (Or.inl rfl) d_X12_isFollowed_21
set_option maxRecDepth 20000 in
theorem C_X12_isFollowed  {x1 : Int32} {x2 : Int32} {x3 : Int32} {μ : gs_M} {r : Int32} {μ2 : gs_M}  (hD : D_X12_isFollowed x1 x2 x3 μ = some (r, μ2)) : CALL yX12_isFollowed cX12_isFollowed 4 (some .boolean) 2 [.ref 78, .int x1, .int x2, .int x3] μ (some (.int r)) μ2 := by
  unfold D_X12_isFollowed at hD
  refine gs_enter mf_X12_isFollowed (Nat.le_of_ble_eq_true rfl) (ls := [.ref 78, .int x1, .int x2, .int x3]) rfl (fun p l e R s m args below meth c ad g tyc hK => ?_)
  have hK : KC p R s m args meth c ad g tyc RX12 cX12_isFollowed 4 (some .boolean) 2 := hK
  refine r_aload_n hK d_X12_isFollowed_0 rfl rfl ?_
  obtain ⟨v3, u2, e1, hD⟩ := bd_e hD
  refine r_callV (As := []) (st := []) (stk2 := [.int v3]) hK (C_X12_isAfloat  e1) d_X12_isFollowed_1 mf_X12_isAfloat ml_RX12_373 im_X12_isAfloat rfl se_11_RX12_X12_isAfloat kd_78 rfl (Nat.le_of_ble_eq_true rfl) (by decide) ⟨Nat.zero_le _, Nat.zero_le _⟩ rfl rfl ?_
  refine r_if_eq (tgt := 20) hK d_X12_isFollowed_4 (by decide) (fun h4 => ?_) (fun h4 => ?_)
  · have hD := if_t hD h4
    refine r_junk [false, false, false, false] (ls2 := [gs_J, gs_J, gs_J, gs_J]) rfl ?_
    exact T_X12_isFollowed_20 hK   hD
  · have hD := if_f hD h4
    refine r_iload_n hK d_X12_isFollowed_7 rfl rfl ?_
    refine r_iload_n hK d_X12_isFollowed_8 rfl rfl ?_
    refine r_iload_n hK d_X12_isFollowed_9 rfl rfl ?_
    obtain ⟨v7, u6, e5, hD⟩ := bd_e hD
    refine r_callS (As := [.int x1, .int x2, .int x3]) (st := []) (stk2 := [.int v7]) hK (C_X12_isVoyage  e5) d_X12_isFollowed_10 mf_X12_isVoyage ml_RX12_424 ss_X12_isVoyage rfl (Nat.le_of_ble_eq_true rfl) (by decide) ⟨Nat.zero_le _, Nat.zero_le _⟩ rfl rfl ?_
    refine r_if_eq (tgt := 20) hK d_X12_isFollowed_13 (by decide) (fun h8 => ?_) (fun h8 => ?_)
    · have hD := if_t hD h8
      refine r_junk [false, false, false, false] (ls2 := [gs_J, gs_J, gs_J, gs_J]) rfl ?_
      exact T_X12_isFollowed_20 hK   hD
    · have hD := if_f hD h8
      refine r_iconst hK d_X12_isFollowed_16 ci_1 ?_
      refine r_goto (tgt := 21) hK d_X12_isFollowed_17 (by decide) ?_
      cases hD
      exact r_zret hK (Or.inr rfl) d_X12_isFollowed_21
end S_X12_isFollowed
theorem d_X12_rules_0 : gd cX12_rules 0 (.aload_n 0) 1 1 := ⟨by decide +kernel, rfl⟩
theorem d_X12_rules_1 : gd cX12_rules 1 (.iconst 0) 1 2 := ⟨by decide +kernel, rfl⟩
theorem d_X12_rules_2 : gd cX12_rules 2 (.putfield 98) 3 5 := ⟨by decide +kernel, rfl⟩
theorem d_X12_rules_5 : gd cX12_rules 5 (.aload_n 0) 1 6 := ⟨by decide +kernel, rfl⟩
theorem d_X12_rules_6 : gd cX12_rules 6 (.getfield 274) 3 9 := ⟨by decide +kernel, rfl⟩
theorem d_X12_rules_9 : gd cX12_rules 9 .ireturn 1 10 := ⟨by decide +kernel, rfl⟩
def D_X12_rules  (μ : gs_M) : Option (Int32 × gs_M) :=
  lt1 (sI μ 78 0 (0 : Int32)) (fun u1 => some (gI u1 78 7, u1))
section S_X12_rules
variable {p : Program} {l : Launch} {e : Env} {R : Room} {s : State} {m : MethodId} {args : Array Value} {below : List Frame} {meth : Method} {c : Code} {ad : Nat → Nat} {g : va_G} {tyc : Nat → ClassId}
set_option maxRecDepth 20000 in
theorem C_X12_rules   {μ : gs_M} {r : Int32} {μ2 : gs_M}  (hD : D_X12_rules  μ = some (r, μ2)) : CALL yX12_rules cX12_rules 1 (some .int) 0 [.ref 78] μ (some (.int r)) μ2 := by
  unfold D_X12_rules at hD
  refine gs_enter mf_X12_rules (Nat.le_of_ble_eq_true rfl) (ls := [.ref 78]) rfl (fun p l e R s m args below meth c ad g tyc hK => ?_)
  have hK : KC p R s m args meth c ad g tyc RX12 cX12_rules 1 (some .int) 0 := hK
  refine r_aload_n hK d_X12_rules_0 rfl rfl ?_
  refine r_iconst hK d_X12_rules_1 ci_0 ?_
  refine r_putI hK d_X12_rules_2 fl_RX12_98_11 rfl rfl kd_78 ?_
  refine r_ltm hD (fun u1 hD => ?_)
  refine r_aload_n hK d_X12_rules_5 rfl rfl ?_
  refine r_getI hK d_X12_rules_6 fl_RX12_274_11 rfl kd_78 ?_
  cases hD
  exact r_iret hK d_X12_rules_9
end S_X12_rules
theorem d_X12_image_0 : gd cX12_image 0 (.aload_n 0) 1 1 := ⟨by decide +kernel, rfl⟩
theorem d_X12_image_1 : gd cX12_image 1 (.iconst 0) 1 2 := ⟨by decide +kernel, rfl⟩
theorem d_X12_image_2 : gd cX12_image 2 (.putfield 98) 3 5 := ⟨by decide +kernel, rfl⟩
theorem d_X12_image_5 : gd cX12_image 5 (.aload_n 0) 1 6 := ⟨by decide +kernel, rfl⟩
theorem d_X12_image_6 : gd cX12_image 6 (.bipush 80) 2 8 := ⟨by decide +kernel, rfl⟩
theorem d_X12_image_8 : gd cX12_image 8 (.invokevirtual 337) 3 11 := ⟨by decide +kernel, rfl⟩
theorem d_X12_image_11 : gd cX12_image 11 (.ifCond .ne 5) 3 14 := ⟨by decide +kernel, rfl⟩
theorem d_X12_image_14 : gd cX12_image 14 (.iconst (-1)) 1 15 := ⟨by decide +kernel, rfl⟩
theorem d_X12_image_15 : gd cX12_image 15 .ireturn 1 16 := ⟨by decide +kernel, rfl⟩
theorem d_X12_image_16 : gd cX12_image 16 (.aload_n 0) 1 17 := ⟨by decide +kernel, rfl⟩
theorem d_X12_image_17 : gd cX12_image 17 (.getfield 71) 3 20 := ⟨by decide +kernel, rfl⟩
theorem d_X12_image_20 : gd cX12_image 20 (.aload_n 0) 1 21 := ⟨by decide +kernel, rfl⟩
theorem d_X12_image_21 : gd cX12_image 21 (.getfield 77) 3 24 := ⟨by decide +kernel, rfl⟩
theorem d_X12_image_24 : gd cX12_image 24 (.invokestatic 395) 3 27 := ⟨by decide +kernel, rfl⟩
theorem d_X12_image_27 : gd cX12_image 27 (.aload_n 0) 1 28 := ⟨by decide +kernel, rfl⟩
theorem d_X12_image_28 : gd cX12_image 28 (.aload_n 0) 1 29 := ⟨by decide +kernel, rfl⟩
theorem d_X12_image_29 : gd cX12_image 29 (.getfield 352) 3 32 := ⟨by decide +kernel, rfl⟩
theorem d_X12_image_32 : gd cX12_image 32 (.putfield 486) 3 35 := ⟨by decide +kernel, rfl⟩
theorem d_X12_image_35 : gd cX12_image 35 (.aload_n 0) 1 36 := ⟨by decide +kernel, rfl⟩
theorem d_X12_image_36 : gd cX12_image 36 (.iconst 1) 1 37 := ⟨by decide +kernel, rfl⟩
theorem d_X12_image_37 : gd cX12_image 37 (.putfield 489) 3 40 := ⟨by decide +kernel, rfl⟩
theorem d_X12_image_40 : gd cX12_image 40 (.aload_n 0) 1 41 := ⟨by decide +kernel, rfl⟩
theorem d_X12_image_41 : gd cX12_image 41 (.bipush 77) 2 43 := ⟨by decide +kernel, rfl⟩
theorem d_X12_image_43 : gd cX12_image 43 (.invokevirtual 337) 3 46 := ⟨by decide +kernel, rfl⟩
theorem d_X12_image_46 : gd cX12_image 46 .ireturn 1 47 := ⟨by decide +kernel, rfl⟩
def D_X12_image  (μ : gs_M) : Option (Int32 × gs_M) :=
  lt1 (sI μ 78 0 (0 : Int32)) (fun u1 => bd (D_X12_now (80 : Int32) u1) (fun v4 u3 => if v4 = 0 then (some ((-1 : Int32), u3)) else (bd0 (D_X12_copy 89 91 u3) (fun u7 => lt1 (sL u7 78 35 (gL u7 78 33)) (fun u8 => lt1 (sI u8 78 36 (1 : Int32)) (fun u9 => bd (D_X12_now (77 : Int32) u9) (fun v12 u11 => some (v12, u11))))))))
section S_X12_image
variable {p : Program} {l : Launch} {e : Env} {R : Room} {s : State} {m : MethodId} {args : Array Value} {below : List Frame} {meth : Method} {c : Code} {ad : Nat → Nat} {g : va_G} {tyc : Nat → ClassId}
set_option maxRecDepth 20000 in
theorem C_X12_image   {μ : gs_M} {r : Int32} {μ2 : gs_M}  (hD : D_X12_image  μ = some (r, μ2)) : CALL yX12_image cX12_image 1 (some .int) 1 [.ref 78] μ (some (.int r)) μ2 := by
  unfold D_X12_image at hD
  refine gs_enter mf_X12_image (Nat.le_of_ble_eq_true rfl) (ls := [.ref 78]) rfl (fun p l e R s m args below meth c ad g tyc hK => ?_)
  have hK : KC p R s m args meth c ad g tyc RX12 cX12_image 1 (some .int) 1 := hK
  refine r_aload_n hK d_X12_image_0 rfl rfl ?_
  refine r_iconst hK d_X12_image_1 ci_0 ?_
  refine r_putI hK d_X12_image_2 fl_RX12_98_11 rfl rfl kd_78 ?_
  refine r_ltm hD (fun u1 hD => ?_)
  refine r_aload_n hK d_X12_image_5 rfl rfl ?_
  refine r_bipush hK d_X12_image_6 cb_80 ?_
  obtain ⟨v4, u3, e2, hD⟩ := bd_e hD
  refine r_callV (As := [.int (80 : Int32)]) (st := []) (stk2 := [.int v4]) hK (C_X12_now  e2) d_X12_image_8 mf_X12_now ml_RX12_337 im_X12_now rfl se_11_RX12_X12_now kd_78 rfl (Nat.le_of_ble_eq_true rfl) (by decide) ⟨Nat.zero_le _, Nat.zero_le _⟩ rfl rfl ?_
  refine r_if_ne (tgt := 16) hK d_X12_image_11 (by decide) (fun h5 => ?_) (fun h5 => ?_)
  · have hD := if_f hD h5
    refine r_aload_n hK d_X12_image_16 rfl rfl ?_
    refine r_getR hK d_X12_image_17 fl_RX12_71_11 rfl kd_78 ?_
    refine r_ref (b := 89) R0_78_30 ?_
    refine r_aload_n hK d_X12_image_20 rfl rfl ?_
    refine r_getR hK d_X12_image_21 fl_RX12_77_11 rfl kd_78 ?_
    refine r_ref (b := 91) R0_78_32 ?_
    obtain ⟨u7, e6, hD⟩ := bd0_e hD
    refine r_callS (As := [.ref 89, .ref 91]) (st := []) (stk2 := []) hK (C_X12_copy kd_89 kd_91 e6) d_X12_image_24 mf_X12_copy ml_RX12_395 ss_X12_copy rfl (Nat.le_of_ble_eq_true rfl) (by decide) ⟨Nat.zero_le _, Nat.zero_le _⟩ rfl rfl ?_
    refine r_aload_n hK d_X12_image_27 rfl rfl ?_
    refine r_aload_n hK d_X12_image_28 rfl rfl ?_
    refine r_getL hK d_X12_image_29 fl_RX12_352_11 rfl kd_78 ?_
    refine r_putL hK d_X12_image_32 fl_RX12_486_11 rfl rfl kd_78 ?_
    refine r_ltm hD (fun u8 hD => ?_)
    refine r_aload_n hK d_X12_image_35 rfl rfl ?_
    refine r_iconst hK d_X12_image_36 ci_1 ?_
    refine r_putZ hK d_X12_image_37 fl_RX12_489_11 rfl rfl kd_78 (Or.inr rfl) ?_
    refine r_ltm hD (fun u9 hD => ?_)
    refine r_aload_n hK d_X12_image_40 rfl rfl ?_
    refine r_bipush hK d_X12_image_41 cb_77 ?_
    obtain ⟨v12, u11, e10, hD⟩ := bd_e hD
    refine r_callV (As := [.int (77 : Int32)]) (st := []) (stk2 := [.int v12]) hK (C_X12_now  e10) d_X12_image_43 mf_X12_now ml_RX12_337 im_X12_now rfl se_11_RX12_X12_now kd_78 rfl (Nat.le_of_ble_eq_true rfl) (by decide) ⟨Nat.zero_le _, Nat.zero_le _⟩ rfl rfl ?_
    cases hD
    exact r_iret hK d_X12_image_46
  · have hD := if_t hD h5
    refine r_iconst hK d_X12_image_14 ci_m1 ?_
    cases hD
    exact r_iret hK d_X12_image_15
end S_X12_image
theorem d_X12_back_0 : gd cX12_back 0 (.aload_n 0) 1 1 := ⟨by decide +kernel, rfl⟩
theorem d_X12_back_1 : gd cX12_back 1 (.iconst 0) 1 2 := ⟨by decide +kernel, rfl⟩
theorem d_X12_back_2 : gd cX12_back 2 (.putfield 98) 3 5 := ⟨by decide +kernel, rfl⟩
theorem d_X12_back_5 : gd cX12_back 5 (.aload_n 0) 1 6 := ⟨by decide +kernel, rfl⟩
theorem d_X12_back_6 : gd cX12_back 6 (.getfield 489) 3 9 := ⟨by decide +kernel, rfl⟩
theorem d_X12_back_9 : gd cX12_back 9 (.ifCond .ne 5) 3 12 := ⟨by decide +kernel, rfl⟩
theorem d_X12_back_12 : gd cX12_back 12 (.iconst (-1)) 1 13 := ⟨by decide +kernel, rfl⟩
theorem d_X12_back_13 : gd cX12_back 13 .ireturn 1 14 := ⟨by decide +kernel, rfl⟩
theorem d_X12_back_14 : gd cX12_back 14 (.aload_n 0) 1 15 := ⟨by decide +kernel, rfl⟩
theorem d_X12_back_15 : gd cX12_back 15 (.getfield 77) 3 18 := ⟨by decide +kernel, rfl⟩
theorem d_X12_back_18 : gd cX12_back 18 (.aload_n 0) 1 19 := ⟨by decide +kernel, rfl⟩
theorem d_X12_back_19 : gd cX12_back 19 (.getfield 71) 3 22 := ⟨by decide +kernel, rfl⟩
theorem d_X12_back_22 : gd cX12_back 22 (.invokestatic 395) 3 25 := ⟨by decide +kernel, rfl⟩
theorem d_X12_back_25 : gd cX12_back 25 (.aload_n 0) 1 26 := ⟨by decide +kernel, rfl⟩
theorem d_X12_back_26 : gd cX12_back 26 (.aload_n 0) 1 27 := ⟨by decide +kernel, rfl⟩
theorem d_X12_back_27 : gd cX12_back 27 (.getfield 486) 3 30 := ⟨by decide +kernel, rfl⟩
theorem d_X12_back_30 : gd cX12_back 30 (.putfield 352) 3 33 := ⟨by decide +kernel, rfl⟩
theorem d_X12_back_33 : gd cX12_back 33 (.aload_n 0) 1 34 := ⟨by decide +kernel, rfl⟩
theorem d_X12_back_34 : gd cX12_back 34 (.bipush 77) 2 36 := ⟨by decide +kernel, rfl⟩
theorem d_X12_back_36 : gd cX12_back 36 (.invokevirtual 337) 3 39 := ⟨by decide +kernel, rfl⟩
theorem d_X12_back_39 : gd cX12_back 39 .ireturn 1 40 := ⟨by decide +kernel, rfl⟩
def D_X12_back  (μ : gs_M) : Option (Int32 × gs_M) :=
  lt1 (sI μ 78 0 (0 : Int32)) (fun u1 => if (gI u1 78 36) = 0 then (some ((-1 : Int32), u1)) else (bd0 (D_X12_copy 91 89 u1) (fun u4 => lt1 (sL u4 78 33 (gL u4 78 35)) (fun u5 => bd (D_X12_now (77 : Int32) u5) (fun v8 u7 => some (v8, u7))))))
section S_X12_back
variable {p : Program} {l : Launch} {e : Env} {R : Room} {s : State} {m : MethodId} {args : Array Value} {below : List Frame} {meth : Method} {c : Code} {ad : Nat → Nat} {g : va_G} {tyc : Nat → ClassId}
set_option maxRecDepth 20000 in
theorem C_X12_back   {μ : gs_M} {r : Int32} {μ2 : gs_M}  (hD : D_X12_back  μ = some (r, μ2)) : CALL yX12_back cX12_back 1 (some .int) 1 [.ref 78] μ (some (.int r)) μ2 := by
  unfold D_X12_back at hD
  refine gs_enter mf_X12_back (Nat.le_of_ble_eq_true rfl) (ls := [.ref 78]) rfl (fun p l e R s m args below meth c ad g tyc hK => ?_)
  have hK : KC p R s m args meth c ad g tyc RX12 cX12_back 1 (some .int) 1 := hK
  refine r_aload_n hK d_X12_back_0 rfl rfl ?_
  refine r_iconst hK d_X12_back_1 ci_0 ?_
  refine r_putI hK d_X12_back_2 fl_RX12_98_11 rfl rfl kd_78 ?_
  refine r_ltm hD (fun u1 hD => ?_)
  refine r_aload_n hK d_X12_back_5 rfl rfl ?_
  refine r_getZ hK d_X12_back_6 fl_RX12_489_11 rfl kd_78 ?_
  refine r_if_ne (tgt := 14) hK d_X12_back_9 (by decide) (fun h2 => ?_) (fun h2 => ?_)
  · have hD := if_f hD h2
    refine r_aload_n hK d_X12_back_14 rfl rfl ?_
    refine r_getR hK d_X12_back_15 fl_RX12_77_11 rfl kd_78 ?_
    refine r_ref (b := 91) R0_78_32 ?_
    refine r_aload_n hK d_X12_back_18 rfl rfl ?_
    refine r_getR hK d_X12_back_19 fl_RX12_71_11 rfl kd_78 ?_
    refine r_ref (b := 89) R0_78_30 ?_
    obtain ⟨u4, e3, hD⟩ := bd0_e hD
    refine r_callS (As := [.ref 91, .ref 89]) (st := []) (stk2 := []) hK (C_X12_copy kd_91 kd_89 e3) d_X12_back_22 mf_X12_copy ml_RX12_395 ss_X12_copy rfl (Nat.le_of_ble_eq_true rfl) (by decide) ⟨Nat.zero_le _, Nat.zero_le _⟩ rfl rfl ?_
    refine r_aload_n hK d_X12_back_25 rfl rfl ?_
    refine r_aload_n hK d_X12_back_26 rfl rfl ?_
    refine r_getL hK d_X12_back_27 fl_RX12_486_11 rfl kd_78 ?_
    refine r_putL hK d_X12_back_30 fl_RX12_352_11 rfl rfl kd_78 ?_
    refine r_ltm hD (fun u5 hD => ?_)
    refine r_aload_n hK d_X12_back_33 rfl rfl ?_
    refine r_bipush hK d_X12_back_34 cb_77 ?_
    obtain ⟨v8, u7, e6, hD⟩ := bd_e hD
    refine r_callV (As := [.int (77 : Int32)]) (st := []) (stk2 := [.int v8]) hK (C_X12_now  e6) d_X12_back_36 mf_X12_now ml_RX12_337 im_X12_now rfl se_11_RX12_X12_now kd_78 rfl (Nat.le_of_ble_eq_true rfl) (by decide) ⟨Nat.zero_le _, Nat.zero_le _⟩ rfl rfl ?_
    cases hD
    exact r_iret hK d_X12_back_39
  · have hD := if_t hD h2
    refine r_iconst hK d_X12_back_12 ci_m1 ?_
    cases hD
    exact r_iret hK d_X12_back_13
end S_X12_back
theorem d_X12_count_0 : gd cX12_count 0 (.aload_n 0) 1 1 := ⟨by decide +kernel, rfl⟩
theorem d_X12_count_1 : gd cX12_count 1 (.iconst 0) 1 2 := ⟨by decide +kernel, rfl⟩
theorem d_X12_count_2 : gd cX12_count 2 (.putfield 98) 3 5 := ⟨by decide +kernel, rfl⟩
theorem d_X12_count_5 : gd cX12_count 5 (.iload_n 1) 1 6 := ⟨by decide +kernel, rfl⟩
theorem d_X12_count_6 : gd cX12_count 6 (.tableswitch 104 0 9 #[54, 59, 64, 69, 74, 79, 84, 89, 94, 99]) 54 60 := ⟨by decide +kernel, rfl⟩
theorem d_X12_count_60 : gd cX12_count 60 (.aload_n 0) 1 61 := ⟨by decide +kernel, rfl⟩
theorem d_X12_count_61 : gd cX12_count 61 (.getfield 263) 3 64 := ⟨by decide +kernel, rfl⟩
theorem d_X12_count_64 : gd cX12_count 64 .ireturn 1 65 := ⟨by decide +kernel, rfl⟩
theorem d_X12_count_65 : gd cX12_count 65 (.aload_n 0) 1 66 := ⟨by decide +kernel, rfl⟩
theorem d_X12_count_66 : gd cX12_count 66 (.getfield 266) 3 69 := ⟨by decide +kernel, rfl⟩
theorem d_X12_count_69 : gd cX12_count 69 .ireturn 1 70 := ⟨by decide +kernel, rfl⟩
theorem d_X12_count_70 : gd cX12_count 70 (.aload_n 0) 1 71 := ⟨by decide +kernel, rfl⟩
theorem d_X12_count_71 : gd cX12_count 71 (.getfield 269) 3 74 := ⟨by decide +kernel, rfl⟩
theorem d_X12_count_74 : gd cX12_count 74 .ireturn 1 75 := ⟨by decide +kernel, rfl⟩
theorem d_X12_count_75 : gd cX12_count 75 (.aload_n 0) 1 76 := ⟨by decide +kernel, rfl⟩
theorem d_X12_count_76 : gd cX12_count 76 (.getfield 109) 3 79 := ⟨by decide +kernel, rfl⟩
theorem d_X12_count_79 : gd cX12_count 79 .ireturn 1 80 := ⟨by decide +kernel, rfl⟩
theorem d_X12_count_80 : gd cX12_count 80 (.aload_n 0) 1 81 := ⟨by decide +kernel, rfl⟩
theorem d_X12_count_81 : gd cX12_count 81 (.getfield 64) 3 84 := ⟨by decide +kernel, rfl⟩
theorem d_X12_count_84 : gd cX12_count 84 .ireturn 1 85 := ⟨by decide +kernel, rfl⟩
theorem d_X12_count_85 : gd cX12_count 85 (.aload_n 0) 1 86 := ⟨by decide +kernel, rfl⟩
theorem d_X12_count_86 : gd cX12_count 86 (.getfield 296) 3 89 := ⟨by decide +kernel, rfl⟩
theorem d_X12_count_89 : gd cX12_count 89 .ireturn 1 90 := ⟨by decide +kernel, rfl⟩
theorem d_X12_count_90 : gd cX12_count 90 (.aload_n 0) 1 91 := ⟨by decide +kernel, rfl⟩
theorem d_X12_count_91 : gd cX12_count 91 (.getfield 68) 3 94 := ⟨by decide +kernel, rfl⟩
theorem d_X12_count_94 : gd cX12_count 94 .ireturn 1 95 := ⟨by decide +kernel, rfl⟩
theorem d_X12_count_95 : gd cX12_count 95 (.aload_n 0) 1 96 := ⟨by decide +kernel, rfl⟩
theorem d_X12_count_96 : gd cX12_count 96 (.getfield 414) 3 99 := ⟨by decide +kernel, rfl⟩
theorem d_X12_count_99 : gd cX12_count 99 .ireturn 1 100 := ⟨by decide +kernel, rfl⟩
theorem d_X12_count_100 : gd cX12_count 100 (.aload_n 0) 1 101 := ⟨by decide +kernel, rfl⟩
theorem d_X12_count_101 : gd cX12_count 101 (.getfield 431) 3 104 := ⟨by decide +kernel, rfl⟩
theorem d_X12_count_104 : gd cX12_count 104 .ireturn 1 105 := ⟨by decide +kernel, rfl⟩
theorem d_X12_count_105 : gd cX12_count 105 (.aload_n 0) 1 106 := ⟨by decide +kernel, rfl⟩
theorem d_X12_count_106 : gd cX12_count 106 (.getfield 434) 3 109 := ⟨by decide +kernel, rfl⟩
theorem d_X12_count_109 : gd cX12_count 109 .ireturn 1 110 := ⟨by decide +kernel, rfl⟩
theorem d_X12_count_110 : gd cX12_count 110 (.ldc_w 394) 3 113 := ⟨by decide +kernel, rfl⟩
theorem d_X12_count_113 : gd cX12_count 113 .ireturn 1 114 := ⟨by decide +kernel, rfl⟩
def D_X12_count (x1 : Int32) (μ : gs_M) : Option (Int32 × gs_M) :=
  lt1 (sI μ 78 0 (0 : Int32)) (fun u1 => lt1 x1 (fun v2 => if v2 = (0 : Int32) then (some (gI u1 78 24, u1)) else (if v2 = (1 : Int32) then (some (gI u1 78 25, u1)) else (if v2 = (2 : Int32) then (some (gI u1 78 26, u1)) else (if v2 = (3 : Int32) then (some (gI u1 78 6, u1)) else (if v2 = (4 : Int32) then (some (gI u1 78 27, u1)) else (if v2 = (5 : Int32) then (some (gI u1 78 28, u1)) else (if v2 = (6 : Int32) then (some (gI u1 78 29, u1)) else (if v2 = (7 : Int32) then (some (gI u1 78 41, u1)) else (if v2 = (8 : Int32) then (some (gI u1 78 43, u1)) else (if v2 = (9 : Int32) then (some (gI u1 78 45, u1)) else (some ((-1000000 : Int32), u1)))))))))))))
section S_X12_count
variable {p : Program} {l : Launch} {e : Env} {R : Room} {s : State} {m : MethodId} {args : Array Value} {below : List Frame} {meth : Method} {c : Code} {ad : Nat → Nat} {g : va_G} {tyc : Nat → ClassId}
set_option maxRecDepth 20000 in
theorem C_X12_count  {x1 : Int32} {μ : gs_M} {r : Int32} {μ2 : gs_M}  (hD : D_X12_count x1 μ = some (r, μ2)) : CALL yX12_count cX12_count 2 (some .int) 0 [.ref 78, .int x1] μ (some (.int r)) μ2 := by
  unfold D_X12_count at hD
  refine gs_enter mf_X12_count (Nat.le_of_ble_eq_true rfl) (ls := [.ref 78, .int x1]) rfl (fun p l e R s m args below meth c ad g tyc hK => ?_)
  have hK : KC p R s m args meth c ad g tyc RX12 cX12_count 2 (some .int) 0 := hK
  refine r_aload_n hK d_X12_count_0 rfl rfl ?_
  refine r_iconst hK d_X12_count_1 ci_0 ?_
  refine r_putI hK d_X12_count_2 fl_RX12_98_11 rfl rfl kd_78 ?_
  refine r_ltm hD (fun u1 hD => ?_)
  refine r_iload_n hK d_X12_count_5 rfl rfl ?_
  refine r_lti hD (fun v2 hD => ?_)
  by_cases h3 : v2 = (0 : Int32)
  · subst h3
    have hD := if_t hD rfl
    refine r_tableIn (off := 54) (tgt := 60) hK d_X12_count_6 (by decide) (by decide) (by decide) (by decide) ?_
    refine r_aload_n hK d_X12_count_60 rfl rfl ?_
    refine r_getI hK d_X12_count_61 fl_RX12_263_11 rfl kd_78 ?_
    cases hD
    exact r_iret hK d_X12_count_64
  have hD := if_f hD h3
  by_cases h4 : v2 = (1 : Int32)
  · subst h4
    have hD := if_t hD rfl
    refine r_tableIn (off := 59) (tgt := 65) hK d_X12_count_6 (by decide) (by decide) (by decide) (by decide) ?_
    refine r_aload_n hK d_X12_count_65 rfl rfl ?_
    refine r_getI hK d_X12_count_66 fl_RX12_266_11 rfl kd_78 ?_
    cases hD
    exact r_iret hK d_X12_count_69
  have hD := if_f hD h4
  by_cases h5 : v2 = (2 : Int32)
  · subst h5
    have hD := if_t hD rfl
    refine r_tableIn (off := 64) (tgt := 70) hK d_X12_count_6 (by decide) (by decide) (by decide) (by decide) ?_
    refine r_aload_n hK d_X12_count_70 rfl rfl ?_
    refine r_getI hK d_X12_count_71 fl_RX12_269_11 rfl kd_78 ?_
    cases hD
    exact r_iret hK d_X12_count_74
  have hD := if_f hD h5
  by_cases h6 : v2 = (3 : Int32)
  · subst h6
    have hD := if_t hD rfl
    refine r_tableIn (off := 69) (tgt := 75) hK d_X12_count_6 (by decide) (by decide) (by decide) (by decide) ?_
    refine r_aload_n hK d_X12_count_75 rfl rfl ?_
    refine r_getI hK d_X12_count_76 fl_RX12_109_11 rfl kd_78 ?_
    cases hD
    exact r_iret hK d_X12_count_79
  have hD := if_f hD h6
  by_cases h7 : v2 = (4 : Int32)
  · subst h7
    have hD := if_t hD rfl
    refine r_tableIn (off := 74) (tgt := 80) hK d_X12_count_6 (by decide) (by decide) (by decide) (by decide) ?_
    refine r_aload_n hK d_X12_count_80 rfl rfl ?_
    refine r_getI hK d_X12_count_81 fl_RX12_64_11 rfl kd_78 ?_
    cases hD
    exact r_iret hK d_X12_count_84
  have hD := if_f hD h7
  by_cases h8 : v2 = (5 : Int32)
  · subst h8
    have hD := if_t hD rfl
    refine r_tableIn (off := 79) (tgt := 85) hK d_X12_count_6 (by decide) (by decide) (by decide) (by decide) ?_
    refine r_aload_n hK d_X12_count_85 rfl rfl ?_
    refine r_getI hK d_X12_count_86 fl_RX12_296_11 rfl kd_78 ?_
    cases hD
    exact r_iret hK d_X12_count_89
  have hD := if_f hD h8
  by_cases h9 : v2 = (6 : Int32)
  · subst h9
    have hD := if_t hD rfl
    refine r_tableIn (off := 84) (tgt := 90) hK d_X12_count_6 (by decide) (by decide) (by decide) (by decide) ?_
    refine r_aload_n hK d_X12_count_90 rfl rfl ?_
    refine r_getI hK d_X12_count_91 fl_RX12_68_11 rfl kd_78 ?_
    cases hD
    exact r_iret hK d_X12_count_94
  have hD := if_f hD h9
  by_cases h10 : v2 = (7 : Int32)
  · subst h10
    have hD := if_t hD rfl
    refine r_tableIn (off := 89) (tgt := 95) hK d_X12_count_6 (by decide) (by decide) (by decide) (by decide) ?_
    refine r_aload_n hK d_X12_count_95 rfl rfl ?_
    refine r_getI hK d_X12_count_96 fl_RX12_414_11 rfl kd_78 ?_
    cases hD
    exact r_iret hK d_X12_count_99
  have hD := if_f hD h10
  by_cases h11 : v2 = (8 : Int32)
  · subst h11
    have hD := if_t hD rfl
    refine r_tableIn (off := 94) (tgt := 100) hK d_X12_count_6 (by decide) (by decide) (by decide) (by decide) ?_
    refine r_aload_n hK d_X12_count_100 rfl rfl ?_
    refine r_getI hK d_X12_count_101 fl_RX12_431_11 rfl kd_78 ?_
    cases hD
    exact r_iret hK d_X12_count_104
  have hD := if_f hD h11
  by_cases h12 : v2 = (9 : Int32)
  · subst h12
    have hD := if_t hD rfl
    refine r_tableIn (off := 99) (tgt := 105) hK d_X12_count_6 (by decide) (by decide) (by decide) (by decide) ?_
    refine r_aload_n hK d_X12_count_105 rfl rfl ?_
    refine r_getI hK d_X12_count_106 fl_RX12_434_11 rfl kd_78 ?_
    cases hD
    exact r_iret hK d_X12_count_109
  have hD := if_f hD h12
  refine r_tableOut (tgt := 110) hK d_X12_count_6 (sw_out (fun k q1 q2 => by rcases (show k = 0 ∨ k = 1 ∨ k = 2 ∨ k = 3 ∨ k = 4 ∨ k = 5 ∨ k = 6 ∨ k = 7 ∨ k = 8 ∨ k = 9 by omega) with rfl | rfl | rfl | rfl | rfl | rfl | rfl | rfl | rfl | rfl <;> assumption)) (by decide) ?_
  refine r_ldcw hK d_X12_count_110 kc_RX12_394 ?_
  cases hD
  exact r_iret hK d_X12_count_113
end S_X12_count
