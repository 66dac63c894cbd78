theorem ml_RX12_154 : Cond.methodLink RX12 154 yX12_isAmong ∈ gs_tbl := gs_t 1324 (by decide +kernel) (by decide +kernel)
theorem ss_X12_isAmong : Cond.static yX12_isAmong ∈ gs_tbl := gs_t 1325 (by decide +kernel) (by decide +kernel)
theorem se_11_RX12_X12_goesIn : Cond.selects RX12 yX12_goesIn yX12_goesIn ∈ gs_tbl := gs_s 53 (by decide +kernel) (by decide +kernel)
theorem ml_RX12_158 : Cond.methodLink RX12 158 yX12_goesIn ∈ gs_tbl := gs_t 1407 (by decide +kernel) (by decide +kernel)
theorem im_X12_goesIn : Cond.instanceMethod yX12_goesIn ∈ gs_tbl := gs_t 1409 (by decide +kernel) (by decide +kernel)
theorem se_11_RX12_X12_sum : Cond.selects RX12 yX12_sum yX12_sum ∈ gs_tbl := gs_s 50 (by decide +kernel) (by decide +kernel)
theorem mf_X12_sum : gs_MF yX12_sum cX12_sum 5 (some .int) 0 := ⟨gs_t 1398 (by decide +kernel) (by decide +kernel), gs_t 13 (by decide +kernel) (by decide +kernel), by decide, by decide, by decide +kernel, by decide, by decide⟩
theorem ml_RX12_161 : Cond.methodLink RX12 161 yX12_sum ∈ gs_tbl := gs_t 1395 (by decide +kernel) (by decide +kernel)
theorem im_X12_sum : Cond.instanceMethod yX12_sum ∈ gs_tbl := gs_t 1397 (by decide +kernel) (by decide +kernel)
theorem se_11_RX12_X12_takes : Cond.selects RX12 yX12_takes yX12_takes ∈ gs_tbl := gs_s 46 (by decide +kernel) (by decide +kernel)
theorem ml_RX12_164 : Cond.methodLink RX12 164 yX12_takes ∈ gs_tbl := gs_t 1379 (by decide +kernel) (by decide +kernel)
theorem im_X12_takes : Cond.instanceMethod yX12_takes ∈ gs_tbl := gs_t 1381 (by decide +kernel) (by decide +kernel)
theorem fl_RX12_20_11 : gs_FL RX12 20 "GrainShiftModel" 11 4 (RX12, TX12, 52) := ⟨rfl, by decide, gs_t 1128 (by decide +kernel) (by decide +kernel), Or.inl rfl⟩
theorem mf_X12_atom : gs_MF yX12_atom cX12_atom 4 (some .int) 0 := ⟨gs_t 1406 (by decide +kernel) (by decide +kernel), gs_t 13 (by decide +kernel) (by decide +kernel), by decide, by decide, by decide +kernel, by decide, by decide⟩
theorem se_11_RX12_X12_atom : Cond.selects RX12 yX12_atom yX12_atom ∈ gs_tbl := gs_s 52 (by decide +kernel) (by decide +kernel)
theorem ml_RX12_171 : Cond.methodLink RX12 171 yX12_atom ∈ gs_tbl := gs_t 1403 (by decide +kernel) (by decide +kernel)
theorem im_X12_atom : Cond.instanceMethod yX12_atom ∈ gs_tbl := gs_t 1405 (by decide +kernel) (by decide +kernel)
theorem ml_RX12_174 : Cond.methodLink RX12 174 yX12_within ∈ gs_tbl := gs_t 1415 (by decide +kernel) (by decide +kernel)
theorem ss_X12_within : Cond.static yX12_within ∈ gs_tbl := gs_t 1416 (by decide +kernel) (by decide +kernel)
theorem mf_X12_term : gs_MF yX12_term cX12_term 5 (some .int) 0 := ⟨gs_t 1402 (by decide +kernel) (by decide +kernel), gs_t 13 (by decide +kernel) (by decide +kernel), by decide, by decide, by decide +kernel, by decide, by decide⟩
theorem se_11_RX12_X12_term : Cond.selects RX12 yX12_term yX12_term ∈ gs_tbl := gs_s 51 (by decide +kernel) (by decide +kernel)
theorem ml_RX12_178 : Cond.methodLink RX12 178 yX12_term ∈ gs_tbl := gs_t 1399 (by decide +kernel) (by decide +kernel)
theorem im_X12_term : Cond.instanceMethod yX12_term ∈ gs_tbl := gs_t 1401 (by decide +kernel) (by decide +kernel)
theorem ml_RX12_181 : Cond.methodLink RX12 181 yX12_isSign ∈ gs_tbl := gs_t 1426 (by decide +kernel) (by decide +kernel)
theorem ss_X12_isSign : Cond.static yX12_isSign ∈ gs_tbl := gs_t 1427 (by decide +kernel) (by decide +kernel)
theorem mf_X12_compares : gs_MF yX12_compares cX12_compares 6 (some .boolean) 2 := ⟨gs_t 1394 (by decide +kernel) (by decide +kernel), gs_t 13 (by decide +kernel) (by decide +kernel), by decide, by decide, by decide +kernel, by decide, by decide⟩
theorem se_11_RX12_X12_compares : Cond.selects RX12 yX12_compares yX12_compares ∈ gs_tbl := gs_s 49 (by decide +kernel) (by decide +kernel)
theorem ml_RX12_191 : Cond.methodLink RX12 191 yX12_compares ∈ gs_tbl := gs_t 1391 (by decide +kernel) (by decide +kernel)
theorem im_X12_compares : Cond.instanceMethod yX12_compares ∈ gs_tbl := gs_t 1393 (by decide +kernel) (by decide +kernel)
theorem se_11_RX12_X12_condition : Cond.selects RX12 yX12_condition yX12_condition ∈ gs_tbl := gs_s 47 (by decide +kernel) (by decide +kernel)
theorem mf_X12_condition : gs_MF yX12_condition cX12_condition 5 (some .boolean) 2 := ⟨gs_t 1386 (by decide +kernel) (by decide +kernel), gs_t 13 (by decide +kernel) (by decide +kernel), by decide, by decide, by decide +kernel, by decide, by decide⟩
theorem ml_RX12_187 : Cond.methodLink RX12 187 yX12_condition ∈ gs_tbl := gs_t 1383 (by decide +kernel) (by decide +kernel)
theorem im_X12_condition : Cond.instanceMethod yX12_condition ∈ gs_tbl := gs_t 1385 (by decide +kernel) (by decide +kernel)
theorem se_11_RX12_X12_unit : Cond.selects RX12 yX12_unit yX12_unit ∈ gs_tbl := gs_s 55 (by decide +kernel) (by decide +kernel)
theorem mf_X12_unit : gs_MF yX12_unit cX12_unit 3 (some .boolean) 0 := ⟨gs_t 1432 (by decide +kernel) (by decide +kernel), gs_t 13 (by decide +kernel) (by decide +kernel), by decide, by decide, by decide +kernel, by decide, by decide⟩
theorem ml_RX12_184 : Cond.methodLink RX12 184 yX12_unit ∈ gs_tbl := gs_t 1429 (by decide +kernel) (by decide +kernel)
theorem im_X12_unit : Cond.instanceMethod yX12_unit ∈ gs_tbl := gs_t 1431 (by decide +kernel) (by decide +kernel)
theorem mf_X12_part : gs_MF yX12_part cX12_part 5 (some .boolean) 2 := ⟨gs_t 1390 (by decide +kernel) (by decide +kernel), gs_t 13 (by decide +kernel) (by decide +kernel), by decide, by decide, by decide +kernel, by decide, by decide⟩
theorem se_11_RX12_X12_part : Cond.selects RX12 yX12_part yX12_part ∈ gs_tbl := gs_s 48 (by decide +kernel) (by decide +kernel)
theorem ml_RX12_194 : Cond.methodLink RX12 194 yX12_part ∈ gs_tbl := gs_t 1387 (by decide +kernel) (by decide +kernel)
theorem im_X12_part : Cond.instanceMethod yX12_part ∈ gs_tbl := gs_t 1389 (by decide +kernel) (by decide +kernel)
theorem fl_RX12_197_11 : gs_FL RX12 197 "GrainShiftModel" 11 17 (RX12, TX12, 52) := ⟨rfl, by decide, gs_t 1141 (by decide +kernel) (by decide +kernel), Or.inl rfl⟩
theorem fl_RX12_201_11 : gs_FL RX12 201 "GrainShiftModel" 11 13 (RX12, TX12, 52) := ⟨rfl, by decide, gs_t 1137 (by decide +kernel) (by decide +kernel), Or.inl rfl⟩
theorem fl_RX12_204_11 : gs_FL RX12 204 "GrainShiftModel" 11 14 (RX12, TX12, 52) := ⟨rfl, by decide, gs_t 1138 (by decide +kernel) (by decide +kernel), Or.inl rfl⟩
theorem mf_X12_clause : gs_MF yX12_clause cX12_clause 5 none 0 := ⟨gs_t 1319 (by decide +kernel) (by decide +kernel), gs_t 13 (by decide +kernel) (by decide +kernel), by decide, by decide, by decide +kernel, by decide, by decide⟩
theorem se_11_RX12_X12_clause : Cond.selects RX12 yX12_clause yX12_clause ∈ gs_tbl := gs_s 43 (by decide +kernel) (by decide +kernel)
theorem ml_RX12_211 : Cond.methodLink RX12 211 yX12_clause ∈ gs_tbl := gs_t 1316 (by decide +kernel) (by decide +kernel)
theorem im_X12_clause : Cond.instanceMethod yX12_clause ∈ gs_tbl := gs_t 1318 (by decide +kernel) (by decide +kernel)
theorem mf_X12_goThrough : gs_MF yX12_goThrough cX12_goThrough 4 none 3 := ⟨gs_t 1311 (by decide +kernel) (by decide +kernel), gs_t 13 (by decide +kernel) (by decide +kernel), by decide, by decide, by decide +kernel, by decide, by decide⟩
theorem ml_RX12_253 : Cond.methodLink RX12 253 yX12_mostTexts ∈ gs_tbl := gs_t 1433 (by decide +kernel) (by decide +kernel)
theorem ss_X12_mostTexts : Cond.static yX12_mostTexts ∈ gs_tbl := gs_t 1434 (by decide +kernel) (by decide +kernel)
theorem se_11_RX12_X12_read : Cond.selects RX12 yX12_read yX12_read ∈ gs_tbl := gs_s 56 (by decide +kernel) (by decide +kernel)
theorem ml_RX12_256 : Cond.methodLink RX12 256 yX12_read ∈ gs_tbl := gs_t 1436 (by decide +kernel) (by decide +kernel)
theorem im_X12_read : Cond.instanceMethod yX12_read ∈ gs_tbl := gs_t 1438 (by decide +kernel) (by decide +kernel)
theorem se_11_RX12_X12_goThrough : Cond.selects RX12 yX12_goThrough yX12_goThrough ∈ gs_tbl := gs_s 41 (by decide +kernel) (by decide +kernel)
theorem ml_RX12_250 : Cond.methodLink RX12 250 yX12_goThrough ∈ gs_tbl := gs_t 1308 (by decide +kernel) (by decide +kernel)
theorem im_X12_goThrough : Cond.instanceMethod yX12_goThrough ∈ gs_tbl := gs_t 1310 (by decide +kernel) (by decide +kernel)
theorem mf_X12_fault : gs_MF yX12_fault cX12_fault 2 (some .int) 1 := ⟨gs_t 1304 (by decide +kernel) (by decide +kernel), gs_t 13 (by decide +kernel) (by decide +kernel), by decide, by decide, by decide +kernel, by decide, by decide⟩
theorem se_11_RX12_X12_fault : Cond.selects RX12 yX12_fault yX12_fault ∈ gs_tbl := gs_t 1303 (by decide +kernel) (by decide +kernel)
theorem ml_RX12_272 : Cond.methodLink RX12 272 yX12_fault ∈ gs_tbl := gs_t 1479 (by decide +kernel) (by decide +kernel)
theorem im_X12_fault : Cond.instanceMethod yX12_fault ∈ gs_tbl := gs_t 1302 (by decide +kernel) (by decide +kernel)
theorem fl_RX12_16_11 : gs_FL RX12 16 "GrainShiftModel" 11 3 (RX12, TX12, 52) := ⟨rfl, by decide, gs_t 1127 (by decide +kernel) (by decide +kernel), Or.inl rfl⟩
theorem fl_RX12_13_11 : gs_FL RX12 13 "GrainShiftModel" 11 2 (RX12, TX12, 52) := ⟨rfl, by decide, gs_t 1126 (by decide +kernel) (by decide +kernel), Or.inl rfl⟩
theorem mf_X12_textOfRule : gs_MF yX12_textOfRule cX12_textOfRule 2 (some .int) 0 := ⟨gs_t 1478 (by decide +kernel) (by decide +kernel), gs_t 13 (by decide +kernel) (by decide +kernel), by decide, by decide, by decide +kernel, by decide, by decide⟩
theorem se_11_RX12_X12_textOfRule : Cond.selects RX12 yX12_textOfRule yX12_textOfRule ∈ gs_tbl := gs_s 61 (by decide +kernel) (by decide +kernel)
theorem ml_RX12_260 : Cond.methodLink RX12 260 yX12_textOfRule ∈ gs_tbl := gs_t 1475 (by decide +kernel) (by decide +kernel)
theorem im_X12_textOfRule : Cond.instanceMethod yX12_textOfRule ∈ gs_tbl := gs_t 1477 (by decide +kernel) (by decide +kernel)
theorem mf_X12_text : gs_MF yX12_text cX12_text 3 (some .int) 1 := ⟨gs_t 1474 (by decide +kernel) (by decide +kernel), gs_t 13 (by decide +kernel) (by decide +kernel), by decide, by decide, by decide +kernel, by decide, by decide⟩
theorem fl_RX12_467_11 : gs_FL RX12 467 "GrainShiftModel" 11 51 (RX12, TX12, 52) := ⟨rfl, by decide, gs_t 1175 (by decide +kernel) (by decide +kernel), Or.inl rfl⟩
theorem mf_X12_follows : gs_MF yX12_follows cX12_follows 5 none 2 := ⟨gs_t 1836 (by decide +kernel) (by decide +kernel), gs_t 13 (by decide +kernel) (by decide +kernel), by decide, by decide, by decide +kernel, by decide, by decide⟩
theorem fl_RX12_470_11 : gs_FL RX12 470 "GrainShiftModel" 11 49 (RX12, TX12, 52) := ⟨rfl, by decide, gs_t 1173 (by decide +kernel) (by decide +kernel), Or.inl rfl⟩
theorem fl_RX12_473_11 : gs_FL RX12 473 "GrainShiftModel" 11 50 (RX12, TX12, 52) := ⟨rfl, by decide, gs_t 1174 (by decide +kernel) (by decide +kernel), Or.inl rfl⟩
theorem se_11_RX12_X12_follows : Cond.selects RX12 yX12_follows yX12_follows ∈ gs_tbl := gs_s 106 (by decide +kernel) (by decide +kernel)
theorem ml_RX12_476 : Cond.methodLink RX12 476 yX12_follows ∈ gs_tbl := gs_t 1833 (by decide +kernel) (by decide +kernel)
theorem im_X12_follows : Cond.instanceMethod yX12_follows ∈ gs_tbl := gs_t 1835 (by decide +kernel) (by decide +kernel)
theorem mf_X12_layFollowed : gs_MF yX12_layFollowed cX12_layFollowed 8 none 4 := ⟨gs_t 1832 (by decide +kernel) (by decide +kernel), gs_t 13 (by decide +kernel) (by decide +kernel), by decide, by decide, by decide +kernel, by decide, by decide⟩
theorem se_11_RX12_X12_isFollowed : Cond.selects RX12 yX12_isFollowed yX12_isFollowed ∈ gs_tbl := gs_s 104 (by decide +kernel) (by decide +kernel)
theorem ml_RX12_479 : Cond.methodLink RX12 479 yX12_isFollowed ∈ gs_tbl := gs_t 1825 (by decide +kernel) (by decide +kernel)
theorem im_X12_isFollowed : Cond.instanceMethod yX12_isFollowed ∈ gs_tbl := gs_t 1827 (by decide +kernel) (by decide +kernel)
theorem se_11_RX12_X12_layFollowed : Cond.selects RX12 yX12_layFollowed yX12_layFollowed ∈ gs_tbl := gs_s 105 (by decide +kernel) (by decide +kernel)
theorem ml_RX12_482 : Cond.methodLink RX12 482 yX12_layFollowed ∈ gs_tbl := gs_t 1829 (by decide +kernel) (by decide +kernel)
theorem im_X12_layFollowed : Cond.instanceMethod yX12_layFollowed ∈ gs_tbl := gs_t 1831 (by decide +kernel) (by decide +kernel)
theorem mf_X12_follow : gs_MF yX12_follow cX12_follow 6 (some .int) 5 := ⟨gs_t 1824 (by decide +kernel) (by decide +kernel), gs_t 13 (by decide +kernel) (by decide +kernel), by decide, by decide, by decide +kernel, by decide, by decide⟩
theorem mf_X12_better : gs_MF yX12_better cX12_better 10 (some .int) 3 := ⟨gs_t 1840 (by decide +kernel) (by decide +kernel), gs_t 13 (by decide +kernel) (by decide +kernel), by decide, by decide, by decide +kernel, by decide, by decide⟩
theorem d_X12_atom_0 : gd cX12_atom 0 (.aload_n 0) 1 1 := ⟨by decide +kernel, rfl⟩
theorem d_X12_atom_1 : gd cX12_atom 1 (.invokevirtual 138) 3 4 := ⟨by decide +kernel, rfl⟩
theorem d_X12_atom_4 : gd cX12_atom 4 (.istore_n 1) 1 5 := ⟨by decide +kernel, rfl⟩
theorem d_X12_atom_5 : gd cX12_atom 5 (.ldc 32) 2 7 := ⟨by decide +kernel, rfl⟩
theorem d_X12_atom_7 : gd cX12_atom 7 (.iload_n 1) 1 8 := ⟨by decide +kernel, rfl⟩
theorem d_X12_atom_8 : gd cX12_atom 8 (.invokestatic 154) 3 11 := ⟨by decide +kernel, rfl⟩
theorem d_X12_atom_11 : gd cX12_atom 11 (.ifCond .eq 20) 3 14 := ⟨by decide +kernel, rfl⟩
theorem d_X12_atom_14 : gd cX12_atom 14 (.aload_n 0) 1 15 := ⟨by decide +kernel, rfl⟩
theorem d_X12_atom_15 : gd cX12_atom 15 .dup 1 16 := ⟨by decide +kernel, rfl⟩
theorem d_X12_atom_16 : gd cX12_atom 16 (.getfield 119) 3 19 := ⟨by decide +kernel, rfl⟩
theorem d_X12_atom_19 : gd cX12_atom 19 (.iconst 1) 1 20 := ⟨by decide +kernel, rfl⟩
theorem d_X12_atom_20 : gd cX12_atom 20 .iadd 1 21 := ⟨by decide +kernel, rfl⟩
theorem d_X12_atom_21 : gd cX12_atom 21 (.putfield 119) 3 24 := ⟨by decide +kernel, rfl⟩
theorem d_X12_atom_24 : gd cX12_atom 24 (.aload_n 0) 1 25 := ⟨by decide +kernel, rfl⟩
theorem d_X12_atom_25 : gd cX12_atom 25 (.getfield 20) 3 28 := ⟨by decide +kernel, rfl⟩
theorem d_X12_atom_28 : gd cX12_atom 28 (.iload_n 1) 1 29 := ⟨by decide +kernel, rfl⟩
theorem d_X12_atom_29 : gd cX12_atom 29 .iaload 1 30 := ⟨by decide +kernel, rfl⟩
theorem d_X12_atom_30 : gd cX12_atom 30 .ireturn 1 31 := ⟨by decide +kernel, rfl⟩
theorem d_X12_atom_31 : gd cX12_atom 31 (.iload_n 1) 1 32 := ⟨by decide +kernel, rfl⟩
theorem d_X12_atom_32 : gd cX12_atom 32 (.bipush 91) 2 34 := ⟨by decide +kernel, rfl⟩
theorem d_X12_atom_34 : gd cX12_atom 34 (.if_icmp .ne 40) 3 37 := ⟨by decide +kernel, rfl⟩
theorem d_X12_atom_37 : gd cX12_atom 37 (.aload_n 0) 1 38 := ⟨by decide +kernel, rfl⟩
theorem d_X12_atom_38 : gd cX12_atom 38 (.invokevirtual 158) 3 41 := ⟨by decide +kernel, rfl⟩
theorem d_X12_atom_41 : gd cX12_atom 41 (.ifCond .ne 5) 3 44 := ⟨by decide +kernel, rfl⟩
theorem d_X12_atom_44 : gd cX12_atom 44 (.iconst 0) 1 45 := ⟨by decide +kernel, rfl⟩
theorem d_X12_atom_45 : gd cX12_atom 45 .ireturn 1 46 := ⟨by decide +kernel, rfl⟩
theorem d_X12_atom_46 : gd cX12_atom 46 (.aload_n 0) 1 47 := ⟨by decide +kernel, rfl⟩
theorem d_X12_atom_47 : gd cX12_atom 47 (.invokevirtual 161) 3 50 := ⟨by decide +kernel, rfl⟩
theorem d_X12_atom_50 : gd cX12_atom 50 (.istore_n 2) 1 51 := ⟨by decide +kernel, rfl⟩
theorem d_X12_atom_51 : gd cX12_atom 51 (.aload_n 0) 1 52 := ⟨by decide +kernel, rfl⟩
theorem d_X12_atom_52 : gd cX12_atom 52 (.bipush 93) 2 54 := ⟨by decide +kernel, rfl⟩
theorem d_X12_atom_54 : gd cX12_atom 54 (.invokevirtual 164) 3 57 := ⟨by decide +kernel, rfl⟩
theorem d_X12_atom_57 : gd cX12_atom 57 (.ifCond .ne 5) 3 60 := ⟨by decide +kernel, rfl⟩
theorem d_X12_atom_60 : gd cX12_atom 60 (.iconst 0) 1 61 := ⟨by decide +kernel, rfl⟩
theorem d_X12_atom_61 : gd cX12_atom 61 .ireturn 1 62 := ⟨by decide +kernel, rfl⟩
theorem d_X12_atom_62 : gd cX12_atom 62 (.aload_n 0) 1 63 := ⟨by decide +kernel, rfl⟩
theorem d_X12_atom_63 : gd cX12_atom 63 .dup 1 64 := ⟨by decide +kernel, rfl⟩
theorem d_X12_atom_64 : gd cX12_atom 64 (.getfield 131) 3 67 := ⟨by decide +kernel, rfl⟩
theorem d_X12_atom_67 : gd cX12_atom 67 (.iconst 1) 1 68 := ⟨by decide +kernel, rfl⟩
theorem d_X12_atom_68 : gd cX12_atom 68 .isub 1 69 := ⟨by decide +kernel, rfl⟩
theorem d_X12_atom_69 : gd cX12_atom 69 (.putfield 131) 3 72 := ⟨by decide +kernel, rfl⟩
theorem d_X12_atom_72 : gd cX12_atom 72 (.iload_n 2) 1 73 := ⟨by decide +kernel, rfl⟩
theorem d_X12_atom_73 : gd cX12_atom 73 .ireturn 1 74 := ⟨by decide +kernel, rfl⟩
theorem d_X12_atom_74 : gd cX12_atom 74 (.aload_n 0) 1 75 := ⟨by decide +kernel, rfl⟩
theorem d_X12_atom_75 : gd cX12_atom 75 (.invokevirtual 168) 3 78 := ⟨by decide +kernel, rfl⟩
theorem d_X12_atom_78 : gd cX12_atom 78 (.ifCond .ne 8) 3 81 := ⟨by decide +kernel, rfl⟩
theorem d_X12_atom_81 : gd cX12_atom 81 (.aload_n 0) 1 82 := ⟨by decide +kernel, rfl⟩
theorem d_X12_atom_82 : gd cX12_atom 82 (.invokevirtual 134) 3 85 := ⟨by decide +kernel, rfl⟩
theorem d_X12_atom_85 : gd cX12_atom 85 .pop 1 86 := ⟨by decide +kernel, rfl⟩
theorem d_X12_atom_86 : gd cX12_atom 86 (.iconst 0) 1 87 := ⟨by decide +kernel, rfl⟩
theorem d_X12_atom_87 : gd cX12_atom 87 (.istore_n 2) 1 88 := ⟨by decide +kernel, rfl⟩
theorem d_X12_atom_88 : gd cX12_atom 88 (.iconst 0) 1 89 := ⟨by decide +kernel, rfl⟩
theorem d_X12_atom_89 : gd cX12_atom 89 (.istore_n 3) 1 90 := ⟨by decide +kernel, rfl⟩
theorem d_X12_atom_90 : gd cX12_atom 90 (.aload_n 0) 1 91 := ⟨by decide +kernel, rfl⟩
theorem d_X12_atom_91 : gd cX12_atom 91 (.invokevirtual 168) 3 94 := ⟨by decide +kernel, rfl⟩
theorem d_X12_atom_94 : gd cX12_atom 94 (.ifCond .eq 62) 3 97 := ⟨by decide +kernel, rfl⟩
theorem d_X12_atom_97 : gd cX12_atom 97 (.aload_n 0) 1 98 := ⟨by decide +kernel, rfl⟩
theorem d_X12_atom_98 : gd cX12_atom 98 (.getfield 128) 3 101 := ⟨by decide +kernel, rfl⟩
theorem d_X12_atom_101 : gd cX12_atom 101 (.iconst (-1)) 1 102 := ⟨by decide +kernel, rfl⟩
theorem d_X12_atom_102 : gd cX12_atom 102 (.if_icmp .ne 54) 3 105 := ⟨by decide +kernel, rfl⟩
theorem d_X12_atom_105 : gd cX12_atom 105 (.iload_n 3) 1 106 := ⟨by decide +kernel, rfl⟩
theorem d_X12_atom_106 : gd cX12_atom 106 (.iconst 4) 1 107 := ⟨by decide +kernel, rfl⟩
theorem d_X12_atom_107 : gd cX12_atom 107 (.if_icmp .ne 10) 3 110 := ⟨by decide +kernel, rfl⟩
theorem d_X12_atom_110 : gd cX12_atom 110 (.aload_n 0) 1 111 := ⟨by decide +kernel, rfl⟩
theorem d_X12_atom_111 : gd cX12_atom 111 (.invokevirtual 134) 3 114 := ⟨by decide +kernel, rfl⟩
theorem d_X12_atom_114 : gd cX12_atom 114 .pop 1 115 := ⟨by decide +kernel, rfl⟩
theorem d_X12_atom_115 : gd cX12_atom 115 (.iconst 0) 1 116 := ⟨by decide +kernel, rfl⟩
theorem d_X12_atom_116 : gd cX12_atom 116 .ireturn 1 117 := ⟨by decide +kernel, rfl⟩
theorem d_X12_atom_117 : gd cX12_atom 117 (.bipush 10) 2 119 := ⟨by decide +kernel, rfl⟩
theorem d_X12_atom_119 : gd cX12_atom 119 (.iload_n 2) 1 120 := ⟨by decide +kernel, rfl⟩
theorem d_X12_atom_120 : gd cX12_atom 120 .imul 1 121 := ⟨by decide +kernel, rfl⟩
theorem d_X12_atom_121 : gd cX12_atom 121 (.aload_n 0) 1 122 := ⟨by decide +kernel, rfl⟩
theorem d_X12_atom_122 : gd cX12_atom 122 (.getfield 23) 3 125 := ⟨by decide +kernel, rfl⟩
theorem d_X12_atom_125 : gd cX12_atom 125 (.aload_n 0) 1 126 := ⟨by decide +kernel, rfl⟩
theorem d_X12_atom_126 : gd cX12_atom 126 (.getfield 125) 3 129 := ⟨by decide +kernel, rfl⟩
theorem d_X12_atom_129 : gd cX12_atom 129 (.aload_n 0) 1 130 := ⟨by decide +kernel, rfl⟩
theorem d_X12_atom_130 : gd cX12_atom 130 (.getfield 119) 3 133 := ⟨by decide +kernel, rfl⟩
theorem d_X12_atom_133 : gd cX12_atom 133 .iadd 1 134 := ⟨by decide +kernel, rfl⟩
theorem d_X12_atom_134 : gd cX12_atom 134 .baload 1 135 := ⟨by decide +kernel, rfl⟩
theorem d_X12_atom_135 : gd cX12_atom 135 .iadd 1 136 := ⟨by decide +kernel, rfl⟩
theorem d_X12_atom_136 : gd cX12_atom 136 (.bipush 48) 2 138 := ⟨by decide +kernel, rfl⟩
theorem d_X12_atom_138 : gd cX12_atom 138 .isub 1 139 := ⟨by decide +kernel, rfl⟩
theorem d_X12_atom_139 : gd cX12_atom 139 (.istore_n 2) 1 140 := ⟨by decide +kernel, rfl⟩
theorem d_X12_atom_140 : gd cX12_atom 140 (.aload_n 0) 1 141 := ⟨by decide +kernel, rfl⟩
theorem d_X12_atom_141 : gd cX12_atom 141 .dup 1 142 := ⟨by decide +kernel, rfl⟩
theorem d_X12_atom_142 : gd cX12_atom 142 (.getfield 119) 3 145 := ⟨by decide +kernel, rfl⟩
theorem d_X12_atom_145 : gd cX12_atom 145 (.iconst 1) 1 146 := ⟨by decide +kernel, rfl⟩
theorem d_X12_atom_146 : gd cX12_atom 146 .iadd 1 147 := ⟨by decide +kernel, rfl⟩
theorem d_X12_atom_147 : gd cX12_atom 147 (.putfield 119) 3 150 := ⟨by decide +kernel, rfl⟩
theorem d_X12_atom_150 : gd cX12_atom 150 (.iinc 3 1) 3 153 := ⟨by decide +kernel, rfl⟩
theorem d_X12_atom_153 : gd cX12_atom 153 (.goto (-63)) 3 156 := ⟨by decide +kernel, rfl⟩
theorem d_X12_atom_156 : gd cX12_atom 156 (.iload_n 2) 1 157 := ⟨by decide +kernel, rfl⟩
theorem d_X12_atom_157 : gd cX12_atom 157 .ireturn 1 158 := ⟨by decide +kernel, rfl⟩
def Bo_X12_atom_90 (E : Nat → Int32 → Int32 → gs_M → Option (Int32 × gs_M)) (q90 : Int32 → Int32 → gs_M → Option (Int32 × gs_M)) (x2 : Int32) (x3 : Int32) (μ : gs_M) : Option (Int32 × gs_M) :=
  bd (D_X12_isDigit μ) (fun v3 u2 => if v3 = 0 then (some (x2, u2)) else (if (gI u2 78 11) = (-1 : Int32) then (if x3 = (4 : Int32) then (bd (D_X12_fails u2) (fun v13 u12 => some ((0 : Int32), u12))) else (ck (isk ((gI u2 78 5).toNatClampNeg) 21) (ck (inb ((gI u2 78 8) + (gI u2 78 10)) (ln ((gI u2 78 5).toNatClampNeg))) (lt1 ((((10 : Int32) * x2) + (gI u2 ((gI u2 78 5).toNatClampNeg) (Int32.toNatClampNeg ((gI u2 78 8) + (gI u2 78 10))))) - (48 : Int32)) (fun v9 => lt1 (sI u2 78 10 ((gI u2 78 10) + (1 : Int32))) (fun u10 => q90 v9 (x3 + (1 : Int32)) u10)))))) else (some (x2, u2))))
def L_X12_atom_90 (E : Nat → Int32 → Int32 → gs_M → Option (Int32 × gs_M))  : Nat → Int32 → Int32 → gs_M → Option (Int32 × gs_M)
  | 0 => fun _ _ _ => none
  | n + 1 => fun x2 x3 μ => Bo_X12_atom_90 E  (L_X12_atom_90 E  n) x2 x3 μ
def B_X12_atom_86 (E : Nat → Int32 → Int32 → gs_M → Option (Int32 × gs_M))   (μ : gs_M) : Option (Int32 × gs_M) :=
  L_X12_atom_90 E 4096 (0 : Int32) (0 : Int32) μ
def O_X12_atom (E : Nat → Int32 → Int32 → gs_M → Option (Int32 × gs_M))  (μ : gs_M) : Option (Int32 × gs_M) :=
  bd (D_X12_look μ) (fun v3 u2 => bd (D_X12_isAmong 106 v3 u2) (fun v6 u5 => if v6 = 0 then (if v3 = (91 : Int32) then (bd (D_X12_goesIn u5) (fun v18 u17 => if v18 = 0 then (some ((0 : Int32), u17)) else (bd (E 2 0 0 u17) (fun v22 u21 => bd (D_X12_takes (93 : Int32) u21) (fun v25 u24 => if v25 = 0 then (some ((0 : Int32), u24)) else (lt1 (sI u24 78 12 ((gI u24 78 12) - (1 : Int32))) (fun u27 => some (v22, u27)))))))) else (bd (D_X12_isDigit u5) (fun v11 u10 => if v11 = 0 then (bd (D_X12_fails u10) (fun v15 u14 => B_X12_atom_86 E u14)) else (B_X12_atom_86 E u10)))) else (lt1 (sI u5 78 10 ((gI u5 78 10) + (1 : Int32))) (fun u28 => ck (inb v3 128) (some (gI u28 82 (Int32.toNatClampNeg v3), u28))))))
section S_X12_atom
variable {p : Program} {l : Launch} {e : Env} {R : Room} {s : State} {m : MethodId} {args : Array Value} {below : List Frame} {meth : Method} {c : Code} {ad : Nat → Nat} {g : va_G} {tyc : Nat → ClassId}
set_option maxRecDepth 20000 in
theorem To_X12_atom_90 {n0 : Nat} {E : Nat → Int32 → Int32 → gs_M → Option (Int32 × gs_M)} (hE0 : ∀ (μ : gs_M) (r : Int32) (μ2 : gs_M), E 0 0 0 μ = some (r, μ2) → CALL yX12_atom cX12_atom 4 (some .int) (n0 + 10) [.ref 78] μ (some (.int r)) μ2) (hE1 : ∀ (μ : gs_M) (r : Int32) (μ2 : gs_M), E 1 0 0 μ = some (r, μ2) → CALL yX12_term cX12_term 5 (some .int) (n0 + 10) [.ref 78] μ (some (.int r)) μ2) (hE2 : ∀ (μ : gs_M) (r : Int32) (μ2 : gs_M), E 2 0 0 μ = some (r, μ2) → CALL yX12_sum cX12_sum 5 (some .int) (n0 + 10) [.ref 78] μ (some (.int r)) μ2) (hE3 : ∀ (y0 : Int32) (y1 : Int32) (μ : gs_M) (r : Int32) (μ2 : gs_M), E 3 y0 y1 μ = some (r, μ2) → CALL yX12_compares cX12_compares 6 (some .boolean) (n0 + 10) [.ref 78, .int y0, .int y1] μ (some (.int r)) μ2) (hE4 : ∀ (μ : gs_M) (r : Int32) (μ2 : gs_M), E 4 0 0 μ = some (r, μ2) → CALL yX12_unit cX12_unit 3 (some .boolean) (n0 + 10) [.ref 78] μ (some (.int r)) μ2) (hE5 : ∀ (y0 : Int32) (y1 : Int32) (μ : gs_M) (r : Int32) (μ2 : gs_M), E 5 y0 y1 μ = some (r, μ2) → CALL yX12_part cX12_part 5 (some .boolean) (n0 + 10) [.ref 78, .int y0, .int y1] μ (some (.int r)) μ2) (hE6 : ∀ (y0 : Int32) (y1 : Int32) (μ : gs_M) (r : Int32) (μ2 : gs_M), E 6 y0 y1 μ = some (r, μ2) → CALL yX12_condition cX12_condition 5 (some .boolean) (n0 + 10) [.ref 78, .int y0, .int y1] μ (some (.int r)) μ2) (hK : KC p R s m args meth c ad g tyc RX12 cX12_atom 4 (some .int) (n0 + 11)) {r : Int32} {μ2 : gs_M} {q90 : Int32 → Int32 → gs_M → Option (Int32 × gs_M)} (hq90 : ∀ (x2 : Int32) (x3 : Int32) (μ : gs_M), q90 x2 x3 μ = some (r, μ2) → WJ p l e R s m args below meth c 0 0 (MQ below (gs_Q ad g tyc (some (.int r)) μ2) args s 0 0 (gs_A ad)) ad g tyc 4 90 [.ref 78, gs_J, .int x2, .int x3] [] μ) {x2 : Int32} {x3 : Int32} {μ : gs_M}  (hD : Bo_X12_atom_90 E q90 x2 x3 μ = some (r, μ2)) : WJ p l e R s m args below meth c 0 0 (MQ below (gs_Q ad g tyc (some (.int r)) μ2) args s 0 0 (gs_A ad)) ad g tyc 4 90 [.ref 78, gs_J, .int x2, .int x3] [] μ := by
  unfold Bo_X12_atom_90 at hD
  refine r_aload_n hK d_X12_atom_90 rfl rfl ?_
  obtain ⟨v3, u2, e1, hD⟩ := bd_e hD
  refine r_callV (As := []) (st := []) (stk2 := [.int v3]) hK (C_X12_isDigit  e1) d_X12_atom_91 mf_X12_isDigit ml_RX12_168 im_X12_isDigit rfl se_11_RX12_X12_isDigit kd_78 rfl (Nat.le_of_ble_eq_true rfl) (by omega) ⟨Nat.zero_le _, Nat.zero_le _⟩ rfl rfl ?_
  refine r_if_eq (tgt := 156) hK d_X12_atom_94 (by decide) (fun h4 => ?_) (fun h4 => ?_)
  · have hD := if_t hD h4
    refine r_iload_n hK d_X12_atom_156 rfl rfl ?_
    cases hD
    exact r_iret hK d_X12_atom_157
  · have hD := if_f hD h4
    refine r_aload_n hK d_X12_atom_97 rfl rfl ?_
    refine r_getI hK d_X12_atom_98 fl_RX12_128_11 rfl kd_78 ?_
    refine r_iconst hK d_X12_atom_101 ci_m1 ?_
    refine r_icmp_ne (tgt := 156) hK d_X12_atom_102 (by decide) (fun h5 => ?_) (fun h5 => ?_)
    · have hD := if_f hD h5
      refine r_iload_n hK d_X12_atom_156 rfl rfl ?_
      cases hD
      exact r_iret hK d_X12_atom_157
    · have hD := if_t hD h5
      refine r_iload_n hK d_X12_atom_105 rfl rfl ?_
      refine r_iconst hK d_X12_atom_106 ci_4 ?_
      refine r_icmp_ne (tgt := 117) hK d_X12_atom_107 (by decide) (fun h6 => ?_) (fun h6 => ?_)
      · have hD := if_f hD h6
        refine r_bipush hK d_X12_atom_117 cb_10 ?_
        refine r_iload_n hK d_X12_atom_119 rfl rfl ?_
        refine r_imul hK d_X12_atom_120 ?_
        refine r_aload_n hK d_X12_atom_121 rfl rfl ?_
        obtain ⟨h7, hD⟩ := ck_e hD
        refine r_getM hK d_X12_atom_122 fl_RX12_23_11 rfl kd_78 ?_
        refine r_aload_n hK d_X12_atom_125 rfl rfl ?_
        refine r_getI hK d_X12_atom_126 fl_RX12_125_11 rfl kd_78 ?_
        refine r_aload_n hK d_X12_atom_129 rfl rfl ?_
        refine r_getI hK d_X12_atom_130 fl_RX12_119_11 rfl kd_78 ?_
        refine r_iadd hK d_X12_atom_133 ?_
        obtain ⟨h8, hD⟩ := ck_e hD
        refine r_bald hK d_X12_atom_134 (isk_e h7) rfl (inb_in h8) ?_
        refine r_iadd hK d_X12_atom_135 ?_
        refine r_bipush hK d_X12_atom_136 cb_48 ?_
        refine r_isub hK d_X12_atom_138 ?_
        refine r_lti hD (fun v9 hD => ?_)
        refine r_istore_n hK d_X12_atom_139 rfl (by decide) (ls2 := [.ref 78, gs_J, .int v9, .int x3]) rfl ?_
        refine r_aload_n hK d_X12_atom_140 rfl rfl ?_
        refine r_dup hK d_X12_atom_141 rfl ?_
        refine r_getI hK d_X12_atom_142 fl_RX12_119_11 rfl kd_78 ?_
        refine r_iconst hK d_X12_atom_145 ci_1 ?_
        refine r_iadd hK d_X12_atom_146 ?_
        refine r_putI hK d_X12_atom_147 fl_RX12_119_11 rfl rfl kd_78 ?_
        refine r_ltm hD (fun u10 hD => ?_)
        refine r_iinc hK d_X12_atom_150 rfl (v := x3 + (1 : Int32)) (by rw [ci_1]) (by decide) (ls2 := [.ref 78, gs_J, .int v9, .int (x3 + (1 : Int32))]) rfl ?_
        refine r_goto (tgt := 90) hK d_X12_atom_153 (by decide) ?_
        exact hq90 _ _ _  hD
      · have hD := if_t hD h6
        refine r_aload_n hK d_X12_atom_110 rfl rfl ?_
        obtain ⟨v13, u12, e11, hD⟩ := bd_e hD
        refine r_callV (As := []) (st := []) (stk2 := [.int v13]) hK (C_X12_fails  e11) d_X12_atom_111 mf_X12_fails ml_RX12_134 im_X12_fails rfl se_11_RX12_X12_fails kd_78 rfl (Nat.le_of_ble_eq_true rfl) (by omega) ⟨Nat.zero_le _, Nat.zero_le _⟩ rfl rfl ?_
        refine r_pop hK d_X12_atom_114 rfl ?_
        refine r_iconst hK d_X12_atom_115 ci_0 ?_
        cases hD
        exact r_iret hK d_X12_atom_116
set_option maxRecDepth 20000 in
theorem TL_X12_atom_90 {n0 : Nat} {E : Nat → Int32 → Int32 → gs_M → Option (Int32 × gs_M)} (hE0 : ∀ (μ : gs_M) (r : Int32) (μ2 : gs_M), E 0 0 0 μ = some (r, μ2) → CALL yX12_atom cX12_atom 4 (some .int) (n0 + 10) [.ref 78] μ (some (.int r)) μ2) (hE1 : ∀ (μ : gs_M) (r : Int32) (μ2 : gs_M), E 1 0 0 μ = some (r, μ2) → CALL yX12_term cX12_term 5 (some .int) (n0 + 10) [.ref 78] μ (some (.int r)) μ2) (hE2 : ∀ (μ : gs_M) (r : Int32) (μ2 : gs_M), E 2 0 0 μ = some (r, μ2) → CALL yX12_sum cX12_sum 5 (some .int) (n0 + 10) [.ref 78] μ (some (.int r)) μ2) (hE3 : ∀ (y0 : Int32) (y1 : Int32) (μ : gs_M) (r : Int32) (μ2 : gs_M), E 3 y0 y1 μ = some (r, μ2) → CALL yX12_compares cX12_compares 6 (some .boolean) (n0 + 10) [.ref 78, .int y0, .int y1] μ (some (.int r)) μ2) (hE4 : ∀ (μ : gs_M) (r : Int32) (μ2 : gs_M), E 4 0 0 μ = some (r, μ2) → CALL yX12_unit cX12_unit 3 (some .boolean) (n0 + 10) [.ref 78] μ (some (.int r)) μ2) (hE5 : ∀ (y0 : Int32) (y1 : Int32) (μ : gs_M) (r : Int32) (μ2 : gs_M), E 5 y0 y1 μ = some (r, μ2) → CALL yX12_part cX12_part 5 (some .boolean) (n0 + 10) [.ref 78, .int y0, .int y1] μ (some (.int r)) μ2) (hE6 : ∀ (y0 : Int32) (y1 : Int32) (μ : gs_M) (r : Int32) (μ2 : gs_M), E 6 y0 y1 μ = some (r, μ2) → CALL yX12_condition cX12_condition 5 (some .boolean) (n0 + 10) [.ref 78, .int y0, .int y1] μ (some (.int r)) μ2) (hK : KC p R s m args meth c ad g tyc RX12 cX12_atom 4 (some .int) (n0 + 11)) {r : Int32} {μ2 : gs_M}   : ∀ (n : Nat) (x2 : Int32) (x3 : Int32) (μ : gs_M), L_X12_atom_90 E  n x2 x3 μ = some (r, μ2) → WJ p l e R s m args below meth c 0 0 (MQ below (gs_Q ad g tyc (some (.int r)) μ2) args s 0 0 (gs_A ad)) ad g tyc 4 90 [.ref 78, gs_J, .int x2, .int x3] [] μ := by
  intro n
  induction n with
  | zero => intro x2 x3 μ  hD; cases hD
  | succ n ih => intro x2 x3 μ  hD; exact To_X12_atom_90 hE0 hE1 hE2 hE3 hE4 hE5 hE6 hK  ih  hD
set_option maxRecDepth 20000 in
theorem T_X12_atom_86 {n0 : Nat} {E : Nat → Int32 → Int32 → gs_M → Option (Int32 × gs_M)} (hE0 : ∀ (μ : gs_M) (r : Int32) (μ2 : gs_M), E 0 0 0 μ = some (r, μ2) → CALL yX12_atom cX12_atom 4 (some .int) (n0 + 10) [.ref 78] μ (some (.int r)) μ2) (hE1 : ∀ (μ : gs_M) (r : Int32) (μ2 : gs_M), E 1 0 0 μ = some (r, μ2) → CALL yX12_term cX12_term 5 (some .int) (n0 + 10) [.ref 78] μ (some (.int r)) μ2) (hE2 : ∀ (μ : gs_M) (r : Int32) (μ2 : gs_M), E 2 0 0 μ = some (r, μ2) → CALL yX12_sum cX12_sum 5 (some .int) (n0 + 10) [.ref 78] μ (some (.int r)) μ2) (hE3 : ∀ (y0 : Int32) (y1 : Int32) (μ : gs_M) (r : Int32) (μ2 : gs_M), E 3 y0 y1 μ = some (r, μ2) → CALL yX12_compares cX12_compares 6 (some .boolean) (n0 + 10) [.ref 78, .int y0, .int y1] μ (some (.int r)) μ2) (hE4 : ∀ (μ : gs_M) (r : Int32) (μ2 : gs_M), E 4 0 0 μ = some (r, μ2) → CALL yX12_unit cX12_unit 3 (some .boolean) (n0 + 10) [.ref 78] μ (some (.int r)) μ2) (hE5 : ∀ (y0 : Int32) (y1 : Int32) (μ : gs_M) (r : Int32) (μ2 : gs_M), E 5 y0 y1 μ = some (r, μ2) → CALL yX12_part cX12_part 5 (some .boolean) (n0 + 10) [.ref 78, .int y0, .int y1] μ (some (.int r)) μ2) (hE6 : ∀ (y0 : Int32) (y1 : Int32) (μ : gs_M) (r : Int32) (μ2 : gs_M), E 6 y0 y1 μ = some (r, μ2) → CALL yX12_condition cX12_condition 5 (some .boolean) (n0 + 10) [.ref 78, .int y0, .int y1] μ (some (.int r)) μ2) (hK : KC p R s m args meth c ad g tyc RX12 cX12_atom 4 (some .int) (n0 + 11)) {r : Int32} {μ2 : gs_M}    {μ : gs_M}  (hD : B_X12_atom_86 E   μ = some (r, μ2)) : WJ p l e R s m args below meth c 0 0 (MQ below (gs_Q ad g tyc (some (.int r)) μ2) args s 0 0 (gs_A ad)) ad g tyc 4 86 [.ref 78, gs_J, gs_J, gs_J] [] μ := by
  unfold B_X12_atom_86 at hD
  refine r_iconst hK d_X12_atom_86 ci_0 ?_
  refine r_istore_n hK d_X12_atom_87 rfl (by decide) (ls2 := [.ref 78, gs_J, .int (0 : Int32), gs_J]) rfl ?_
  refine r_iconst hK d_X12_atom_88 ci_0 ?_
  refine r_istore_n hK d_X12_atom_89 rfl (by decide) (ls2 := [.ref 78, gs_J, .int (0 : Int32), .int (0 : Int32)]) rfl ?_
  exact TL_X12_atom_90 hE0 hE1 hE2 hE3 hE4 hE5 hE6 hK  _ _ _ _  hD
set_option maxRecDepth 20000 in
theorem C_X12_atom {n0 : Nat} {E : Nat → Int32 → Int32 → gs_M → Option (Int32 × gs_M)} (hE0 : ∀ (μ : gs_M) (r : Int32) (μ2 : gs_M), E 0 0 0 μ = some (r, μ2) → CALL yX12_atom cX12_atom 4 (some .int) (n0 + 10) [.ref 78] μ (some (.int r)) μ2) (hE1 : ∀ (μ : gs_M) (r : Int32) (μ2 : gs_M), E 1 0 0 μ = some (r, μ2) → CALL yX12_term cX12_term 5 (some .int) (n0 + 10) [.ref 78] μ (some (.int r)) μ2) (hE2 : ∀ (μ : gs_M) (r : Int32) (μ2 : gs_M), E 2 0 0 μ = some (r, μ2) → CALL yX12_sum cX12_sum 5 (some .int) (n0 + 10) [.ref 78] μ (some (.int r)) μ2) (hE3 : ∀ (y0 : Int32) (y1 : Int32) (μ : gs_M) (r : Int32) (μ2 : gs_M), E 3 y0 y1 μ = some (r, μ2) → CALL yX12_compares cX12_compares 6 (some .boolean) (n0 + 10) [.ref 78, .int y0, .int y1] μ (some (.int r)) μ2) (hE4 : ∀ (μ : gs_M) (r : Int32) (μ2 : gs_M), E 4 0 0 μ = some (r, μ2) → CALL yX12_unit cX12_unit 3 (some .boolean) (n0 + 10) [.ref 78] μ (some (.int r)) μ2) (hE5 : ∀ (y0 : Int32) (y1 : Int32) (μ : gs_M) (r : Int32) (μ2 : gs_M), E 5 y0 y1 μ = some (r, μ2) → CALL yX12_part cX12_part 5 (some .boolean) (n0 + 10) [.ref 78, .int y0, .int y1] μ (some (.int r)) μ2) (hE6 : ∀ (y0 : Int32) (y1 : Int32) (μ : gs_M) (r : Int32) (μ2 : gs_M), E 6 y0 y1 μ = some (r, μ2) → CALL yX12_condition cX12_condition 5 (some .boolean) (n0 + 10) [.ref 78, .int y0, .int y1] μ (some (.int r)) μ2)  {μ : gs_M} {r : Int32} {μ2 : gs_M}  (hD : O_X12_atom E  μ = some (r, μ2)) : CALL yX12_atom cX12_atom 4 (some .int) (n0 + 11) [.ref 78] μ (some (.int r)) μ2 := by
  unfold O_X12_atom at hD
  refine gs_enter mf_X12_atom (Nat.le_of_ble_eq_true rfl) (ls := [.ref 78, gs_J, gs_J, gs_J]) rfl (fun p l e R s m args below meth c ad g tyc hK => ?_)
  have hK : KC p R s m args meth c ad g tyc RX12 cX12_atom 4 (some .int) (n0 + 11) := hK
  refine r_aload_n hK d_X12_atom_0 rfl rfl ?_
  obtain ⟨v3, u2, e1, hD⟩ := bd_e hD
  refine r_callV (As := []) (st := []) (stk2 := [.int v3]) hK (C_X12_look  e1) d_X12_atom_1 mf_X12_look ml_RX12_138 im_X12_look rfl se_11_RX12_X12_look kd_78 rfl (Nat.le_of_ble_eq_true rfl) (by omega) ⟨Nat.zero_le _, Nat.zero_le _⟩ rfl rfl ?_
  refine r_istore_n hK d_X12_atom_4 rfl (by decide) (ls2 := [.ref 78, .int v3, gs_J, gs_J]) rfl ?_
  refine r_ldcS (b := 106) hK d_X12_atom_5 (fun q => q.2) ?_
  refine r_iload_n hK d_X12_atom_7 rfl rfl ?_
  obtain ⟨v6, u5, e4, hD⟩ := bd_e hD
  refine r_callS (As := [.ref 106, .int v3]) (st := []) (stk2 := [.int v6]) hK (C_X12_isAmong lstr_106 e4) d_X12_atom_8 mf_X12_isAmong ml_RX12_154 ss_X12_isAmong rfl (Nat.le_of_ble_eq_true rfl) (by omega) ⟨Nat.zero_le _, Nat.zero_le _⟩ rfl rfl ?_
  refine r_if_eq (tgt := 31) hK d_X12_atom_11 (by decide) (fun h7 => ?_) (fun h7 => ?_)
  · have hD := if_t hD h7
    refine r_iload_n hK d_X12_atom_31 rfl rfl ?_
    refine r_bipush hK d_X12_atom_32 cb_91 ?_
    refine r_icmp_ne (tgt := 74) hK d_X12_atom_34 (by decide) (fun h8 => ?_) (fun h8 => ?_)
    · have hD := if_f hD h8
      refine r_aload_n hK d_X12_atom_74 rfl rfl ?_
      obtain ⟨v11, u10, e9, hD⟩ := bd_e hD
      refine r_callV (As := []) (st := []) (stk2 := [.int v11]) hK (C_X12_isDigit  e9) d_X12_atom_75 mf_X12_isDigit ml_RX12_168 im_X12_isDigit rfl se_11_RX12_X12_isDigit kd_78 rfl (Nat.le_of_ble_eq_true rfl) (by omega) ⟨Nat.zero_le _, Nat.zero_le _⟩ rfl rfl ?_
      refine r_if_ne (tgt := 86) hK d_X12_atom_78 (by decide) (fun h12 => ?_) (fun h12 => ?_)
      · have hD := if_f hD h12
        refine r_junk [true, false, false, false] (ls2 := [.ref 78, gs_J, gs_J, gs_J]) rfl ?_
        exact T_X12_atom_86 hE0 hE1 hE2 hE3 hE4 hE5 hE6 hK   hD
      · have hD := if_t hD h12
        refine r_aload_n hK d_X12_atom_81 rfl rfl ?_
        obtain ⟨v15, u14, e13, hD⟩ := bd_e hD
        refine r_callV (As := []) (st := []) (stk2 := [.int v15]) hK (C_X12_fails  e13) d_X12_atom_82 mf_X12_fails ml_RX12_134 im_X12_fails rfl se_11_RX12_X12_fails kd_78 rfl (Nat.le_of_ble_eq_true rfl) (by omega) ⟨Nat.zero_le _, Nat.zero_le _⟩ rfl rfl ?_
        refine r_pop hK d_X12_atom_85 rfl ?_
        refine r_junk [true, false, false, false] (ls2 := [.ref 78, gs_J, gs_J, gs_J]) rfl ?_
        exact T_X12_atom_86 hE0 hE1 hE2 hE3 hE4 hE5 hE6 hK   hD
    · have hD := if_t hD h8
      refine r_aload_n hK d_X12_atom_37 rfl rfl ?_
      obtain ⟨v18, u17, e16, hD⟩ := bd_e hD
      refine r_callV (As := []) (st := []) (stk2 := [.int v18]) hK (C_X12_goesIn  e16) d_X12_atom_38 mf_X12_goesIn ml_RX12_158 im_X12_goesIn rfl se_11_RX12_X12_goesIn kd_78 rfl (Nat.le_of_ble_eq_true rfl) (by omega) ⟨Nat.zero_le _, Nat.zero_le _⟩ rfl rfl ?_
      refine r_if_ne (tgt := 46) hK d_X12_atom_41 (by decide) (fun h19 => ?_) (fun h19 => ?_)
      · have hD := if_f hD h19
        refine r_aload_n hK d_X12_atom_46 rfl rfl ?_
        obtain ⟨v22, u21, e20, hD⟩ := bd_e hD
        refine r_callV (As := []) (st := []) (stk2 := [.int v22]) hK (hE2 _ _ _ e20) d_X12_atom_47 mf_X12_sum ml_RX12_161 im_X12_sum rfl se_11_RX12_X12_sum kd_78 rfl (Nat.le_of_ble_eq_true rfl) (by omega) ⟨Nat.zero_le _, Nat.zero_le _⟩ rfl rfl ?_
        refine r_istore_n hK d_X12_atom_50 rfl (by decide) (ls2 := [.ref 78, .int v3, .int v22, gs_J]) rfl ?_
        refine r_aload_n hK d_X12_atom_51 rfl rfl ?_
        refine r_bipush hK d_X12_atom_52 cb_93 ?_
        obtain ⟨v25, u24, e23, hD⟩ := bd_e hD
        refine r_callV (As := [.int (93 : Int32)]) (st := []) (stk2 := [.int v25]) hK (C_X12_takes  e23) d_X12_atom_54 mf_X12_takes ml_RX12_164 im_X12_takes rfl se_11_RX12_X12_takes kd_78 rfl (Nat.le_of_ble_eq_true rfl) (by omega) ⟨Nat.zero_le _, Nat.zero_le _⟩ rfl rfl ?_
        refine r_if_ne (tgt := 62) hK d_X12_atom_57 (by decide) (fun h26 => ?_) (fun h26 => ?_)
        · have hD := if_f hD h26
          refine r_aload_n hK d_X12_atom_62 rfl rfl ?_
          refine r_dup hK d_X12_atom_63 rfl ?_
          refine r_getI hK d_X12_atom_64 fl_RX12_131_11 rfl kd_78 ?_
          refine r_iconst hK d_X12_atom_67 ci_1 ?_
          refine r_isub hK d_X12_atom_68 ?_
          refine r_putI hK d_X12_atom_69 fl_RX12_131_11 rfl rfl kd_78 ?_
          refine r_ltm hD (fun u27 hD => ?_)
          refine r_iload_n hK d_X12_atom_72 rfl rfl ?_
          cases hD
          exact r_iret hK d_X12_atom_73
        · have hD := if_t hD h26
          refine r_iconst hK d_X12_atom_60 ci_0 ?_
          cases hD
          exact r_iret hK d_X12_atom_61
      · have hD := if_t hD h19
        refine r_iconst hK d_X12_atom_44 ci_0 ?_
        cases hD
        exact r_iret hK d_X12_atom_45
  · have hD := if_f hD h7
    refine r_aload_n hK d_X12_atom_14 rfl rfl ?_
    refine r_dup hK d_X12_atom_15 rfl ?_
    refine r_getI hK d_X12_atom_16 fl_RX12_119_11 rfl kd_78 ?_
    refine r_iconst hK d_X12_atom_19 ci_1 ?_
    refine r_iadd hK d_X12_atom_20 ?_
    refine r_putI hK d_X12_atom_21 fl_RX12_119_11 rfl rfl kd_78 ?_
    refine r_ltm hD (fun u28 hD => ?_)
    refine r_aload_n hK d_X12_atom_24 rfl rfl ?_
    refine r_getR hK d_X12_atom_25 fl_RX12_20_11 rfl kd_78 ?_
    refine r_ref (b := 82) R0_78_4 ?_
    refine r_iload_n hK d_X12_atom_28 rfl rfl ?_
    obtain ⟨h29, hD⟩ := ck_e hD
    refine r_iald hK d_X12_atom_29 kd_82 ln_82 (inb_in h29) ?_
    cases hD
    exact r_iret hK d_X12_atom_30
end S_X12_atom
theorem d_X12_term_0 : gd cX12_term 0 (.aload_n 0) 1 1 := ⟨by decide +kernel, rfl⟩
theorem d_X12_term_1 : gd cX12_term 1 (.invokevirtual 171) 3 4 := ⟨by decide +kernel, rfl⟩
theorem d_X12_term_4 : gd cX12_term 4 (.istore_n 1) 1 5 := ⟨by decide +kernel, rfl⟩
theorem d_X12_term_5 : gd cX12_term 5 (.aload_n 0) 1 6 := ⟨by decide +kernel, rfl⟩
theorem d_X12_term_6 : gd cX12_term 6 (.getfield 128) 3 9 := ⟨by decide +kernel, rfl⟩
theorem d_X12_term_9 : gd cX12_term 9 (.iconst (-1)) 1 10 := ⟨by decide +kernel, rfl⟩
theorem d_X12_term_10 : gd cX12_term 10 (.if_icmp .ne 84) 3 13 := ⟨by decide +kernel, rfl⟩
theorem d_X12_term_13 : gd cX12_term 13 (.aload_n 0) 1 14 := ⟨by decide +kernel, rfl⟩
theorem d_X12_term_14 : gd cX12_term 14 (.invokevirtual 138) 3 17 := ⟨by decide +kernel, rfl⟩
theorem d_X12_term_17 : gd cX12_term 17 (.bipush 42) 2 19 := ⟨by decide +kernel, rfl⟩
theorem d_X12_term_19 : gd cX12_term 19 (.if_icmp .eq 12) 3 22 := ⟨by decide +kernel, rfl⟩
theorem d_X12_term_22 : gd cX12_term 22 (.aload_n 0) 1 23 := ⟨by decide +kernel, rfl⟩
theorem d_X12_term_23 : gd cX12_term 23 (.invokevirtual 138) 3 26 := ⟨by decide +kernel, rfl⟩
theorem d_X12_term_26 : gd cX12_term 26 (.bipush 47) 2 28 := ⟨by decide +kernel, rfl⟩
theorem d_X12_term_28 : gd cX12_term 28 (.if_icmp .ne 66) 3 31 := ⟨by decide +kernel, rfl⟩
theorem d_X12_term_31 : gd cX12_term 31 (.aload_n 0) 1 32 := ⟨by decide +kernel, rfl⟩
theorem d_X12_term_32 : gd cX12_term 32 (.invokevirtual 138) 3 35 := ⟨by decide +kernel, rfl⟩
theorem d_X12_term_35 : gd cX12_term 35 (.bipush 42) 2 37 := ⟨by decide +kernel, rfl⟩
theorem d_X12_term_37 : gd cX12_term 37 (.if_icmp .ne 7) 3 40 := ⟨by decide +kernel, rfl⟩
theorem d_X12_term_40 : gd cX12_term 40 (.iconst 1) 1 41 := ⟨by decide +kernel, rfl⟩
theorem d_X12_term_41 : gd cX12_term 41 (.goto 4) 3 44 := ⟨by decide +kernel, rfl⟩
theorem d_X12_term_44 : gd cX12_term 44 (.iconst 0) 1 45 := ⟨by decide +kernel, rfl⟩
theorem d_X12_term_45 : gd cX12_term 45 (.istore_n 2) 1 46 := ⟨by decide +kernel, rfl⟩
theorem d_X12_term_46 : gd cX12_term 46 (.aload_n 0) 1 47 := ⟨by decide +kernel, rfl⟩
theorem d_X12_term_47 : gd cX12_term 47 .dup 1 48 := ⟨by decide +kernel, rfl⟩
theorem d_X12_term_48 : gd cX12_term 48 (.getfield 119) 3 51 := ⟨by decide +kernel, rfl⟩
theorem d_X12_term_51 : gd cX12_term 51 (.iconst 1) 1 52 := ⟨by decide +kernel, rfl⟩
theorem d_X12_term_52 : gd cX12_term 52 .iadd 1 53 := ⟨by decide +kernel, rfl⟩
theorem d_X12_term_53 : gd cX12_term 53 (.putfield 119) 3 56 := ⟨by decide +kernel, rfl⟩
theorem d_X12_term_56 : gd cX12_term 56 (.aload_n 0) 1 57 := ⟨by decide +kernel, rfl⟩
theorem d_X12_term_57 : gd cX12_term 57 (.invokevirtual 171) 3 60 := ⟨by decide +kernel, rfl⟩
theorem d_X12_term_60 : gd cX12_term 60 .i2l 1 61 := ⟨by decide +kernel, rfl⟩
theorem d_X12_term_61 : gd cX12_term 61 (.lstore_n 3) 1 62 := ⟨by decide +kernel, rfl⟩
theorem d_X12_term_62 : gd cX12_term 62 (.iload_n 2) 1 63 := ⟨by decide +kernel, rfl⟩
theorem d_X12_term_63 : gd cX12_term 63 (.ifCond .eq 10) 3 66 := ⟨by decide +kernel, rfl⟩
theorem d_X12_term_66 : gd cX12_term 66 (.iload_n 1) 1 67 := ⟨by decide +kernel, rfl⟩
theorem d_X12_term_67 : gd cX12_term 67 .i2l 1 68 := ⟨by decide +kernel, rfl⟩
theorem d_X12_term_68 : gd cX12_term 68 (.lload_n 3) 1 69 := ⟨by decide +kernel, rfl⟩
theorem d_X12_term_69 : gd cX12_term 69 .lmul 1 70 := ⟨by decide +kernel, rfl⟩
theorem d_X12_term_70 : gd cX12_term 70 (.goto 17) 3 73 := ⟨by decide +kernel, rfl⟩
theorem d_X12_term_73 : gd cX12_term 73 (.lload_n 3) 1 74 := ⟨by decide +kernel, rfl⟩
theorem d_X12_term_74 : gd cX12_term 74 (.lconst 0) 1 75 := ⟨by decide +kernel, rfl⟩
theorem d_X12_term_75 : gd cX12_term 75 .lcmp 1 76 := ⟨by decide +kernel, rfl⟩
theorem d_X12_term_76 : gd cX12_term 76 (.ifCond .ne 7) 3 79 := ⟨by decide +kernel, rfl⟩
theorem d_X12_term_79 : gd cX12_term 79 (.lconst 0) 1 80 := ⟨by decide +kernel, rfl⟩
theorem d_X12_term_80 : gd cX12_term 80 (.goto 7) 3 83 := ⟨by decide +kernel, rfl⟩
theorem d_X12_term_83 : gd cX12_term 83 (.iload_n 1) 1 84 := ⟨by decide +kernel, rfl⟩
theorem d_X12_term_84 : gd cX12_term 84 .i2l 1 85 := ⟨by decide +kernel, rfl⟩
theorem d_X12_term_85 : gd cX12_term 85 (.lload_n 3) 1 86 := ⟨by decide +kernel, rfl⟩
theorem d_X12_term_86 : gd cX12_term 86 .ldiv 1 87 := ⟨by decide +kernel, rfl⟩
theorem d_X12_term_87 : gd cX12_term 87 (.invokestatic 174) 3 90 := ⟨by decide +kernel, rfl⟩
theorem d_X12_term_90 : gd cX12_term 90 (.istore_n 1) 1 91 := ⟨by decide +kernel, rfl⟩
theorem d_X12_term_91 : gd cX12_term 91 (.goto (-86)) 3 94 := ⟨by decide +kernel, rfl⟩
theorem d_X12_term_94 : gd cX12_term 94 (.iload_n 1) 1 95 := ⟨by decide +kernel, rfl⟩
theorem d_X12_term_95 : gd cX12_term 95 .ireturn 1 96 := ⟨by decide +kernel, rfl⟩
def B_X12_term_87 (E : Nat → Int32 → Int32 → gs_M → Option (Int32 × gs_M)) (q5 : Int32 → gs_M → Option (Int32 × gs_M)) (zs0 : Int64) (μ : gs_M) : Option (Int32 × gs_M) :=
  bd (D_X12_within zs0 μ) (fun v3 u2 => q5 v3 u2)
def B_X12_term_45 (E : Nat → Int32 → Int32 → gs_M → Option (Int32 × gs_M)) (q5 : Int32 → gs_M → Option (Int32 × gs_M)) (x1 : Int32) (xs0 : Int32) (μ : gs_M) : Option (Int32 × gs_M) :=
  lt1 (sI μ 78 10 ((gI μ 78 10) + (1 : Int32))) (fun u1 => bd (E 0 0 0 u1) (fun v4 u3 => lt1 (Int32.toInt64 v4) (fun v5 => if xs0 = 0 then (if (lg_cmp v5 (0 : Int64)) = 0 then (B_X12_term_87 E q5 (0 : Int64) u3) else (ck (nzl v5) (B_X12_term_87 E q5 ((Int32.toInt64 x1) / v5) u3))) else (B_X12_term_87 E q5 ((Int32.toInt64 x1) * v5) u3))))
def B_X12_term_31 (E : Nat → Int32 → Int32 → gs_M → Option (Int32 × gs_M)) (q5 : Int32 → gs_M → Option (Int32 × gs_M)) (x1 : Int32) (μ : gs_M) : Option (Int32 × gs_M) :=
  bd (D_X12_look μ) (fun v3 u2 => if v3 = (42 : Int32) then (B_X12_term_45 E q5 x1 (1 : Int32) u2) else (B_X12_term_45 E q5 x1 (0 : Int32) u2))
def Bo_X12_term_5 (E : Nat → Int32 → Int32 → gs_M → Option (Int32 × gs_M)) (q5 : Int32 → gs_M → Option (Int32 × gs_M)) (x1 : Int32) (μ : gs_M) : Option (Int32 × gs_M) :=
  if (gI μ 78 11) = (-1 : Int32) then (bd (D_X12_look μ) (fun v4 u3 => if v4 = (42 : Int32) then (B_X12_term_31 E q5 x1 u3) else (bd (D_X12_look u3) (fun v8 u7 => if v8 = (47 : Int32) then (B_X12_term_31 E q5 x1 u7) else (some (x1, u7)))))) else (some (x1, μ))
def L_X12_term_5 (E : Nat → Int32 → Int32 → gs_M → Option (Int32 × gs_M))  : Nat → Int32 → gs_M → Option (Int32 × gs_M)
  | 0 => fun _ _ => none
  | n + 1 => fun x1 μ => Bo_X12_term_5 E  (L_X12_term_5 E  n) x1 μ
def O_X12_term (E : Nat → Int32 → Int32 → gs_M → Option (Int32 × gs_M))  (μ : gs_M) : Option (Int32 × gs_M) :=
  bd (E 0 0 0 μ) (fun v3 u2 => L_X12_term_5 E 4096 v3 u2)
section S_X12_term
variable {p : Program} {l : Launch} {e : Env} {R : Room} {s : State} {m : MethodId} {args : Array Value} {below : List Frame} {meth : Method} {c : Code} {ad : Nat → Nat} {g : va_G} {tyc : Nat → ClassId}
set_option maxRecDepth 20000 in
theorem T_X12_term_87 {n0 : Nat} {E : Nat → Int32 → Int32 → gs_M → Option (Int32 × gs_M)} (hE0 : ∀ (μ : gs_M) (r : Int32) (μ2 : gs_M), E 0 0 0 μ = some (r, μ2) → CALL yX12_atom cX12_atom 4 (some .int) (n0 + 10) [.ref 78] μ (some (.int r)) μ2) (hE1 : ∀ (μ : gs_M) (r : Int32) (μ2 : gs_M), E 1 0 0 μ = some (r, μ2) → CALL yX12_term cX12_term 5 (some .int) (n0 + 10) [.ref 78] μ (some (.int r)) μ2) (hE2 : ∀ (μ : gs_M) (r : Int32) (μ2 : gs_M), E 2 0 0 μ = some (r, μ2) → CALL yX12_sum cX12_sum 5 (some .int) (n0 + 10) [.ref 78] μ (some (.int r)) μ2) (hE3 : ∀ (y0 : Int32) (y1 : Int32) (μ : gs_M) (r : Int32) (μ2 : gs_M), E 3 y0 y1 μ = some (r, μ2) → CALL yX12_compares cX12_compares 6 (some .boolean) (n0 + 10) [.ref 78, .int y0, .int y1] μ (some (.int r)) μ2) (hE4 : ∀ (μ : gs_M) (r : Int32) (μ2 : gs_M), E 4 0 0 μ = some (r, μ2) → CALL yX12_unit cX12_unit 3 (some .boolean) (n0 + 10) [.ref 78] μ (some (.int r)) μ2) (hE5 : ∀ (y0 : Int32) (y1 : Int32) (μ : gs_M) (r : Int32) (μ2 : gs_M), E 5 y0 y1 μ = some (r, μ2) → CALL yX12_part cX12_part 5 (some .boolean) (n0 + 10) [.ref 78, .int y0, .int y1] μ (some (.int r)) μ2) (hE6 : ∀ (y0 : Int32) (y1 : Int32) (μ : gs_M) (r : Int32) (μ2 : gs_M), E 6 y0 y1 μ = some (r, μ2) → CALL yX12_condition cX12_condition 5 (some .boolean) (n0 + 10) [.ref 78, .int y0, .int y1] μ (some (.int r)) μ2) (hK : KC p R s m args meth c ad g tyc RX12 cX12_term 5 (some .int) (n0 + 11)) {r : Int32} {μ2 : gs_M} {q5 : Int32 → gs_M → Option (Int32 × gs_M)} (hq5 : ∀ (x1 : Int32) (μ : gs_M), q5 x1 μ = some (r, μ2) → WJ p l e R s m args below meth c 0 0 (MQ below (gs_Q ad g tyc (some (.int r)) μ2) args s 0 0 (gs_A ad)) ad g tyc 5 5 [.ref 78, .int x1, gs_J, gs_J, gs_J] [] μ) {zs0 : Int64} {μ : gs_M}  (hD : B_X12_term_87 E q5 zs0 μ = some (r, μ2)) : WJ p l e R s m args below meth c 0 0 (MQ below (gs_Q ad g tyc (some (.int r)) μ2) args s 0 0 (gs_A ad)) ad g tyc 5 87 [.ref 78, gs_J, gs_J, gs_J, gs_J] [.long zs0] μ := by
  unfold B_X12_term_87 at hD
  obtain ⟨v3, u2, e1, hD⟩ := bd_e hD
  refine r_callS (As := [.long zs0]) (st := []) (stk2 := [.int v3]) hK (C_X12_within  e1) d_X12_term_87 mf_X12_within ml_RX12_174 ss_X12_within rfl (Nat.le_of_ble_eq_true rfl) (by omega) ⟨Nat.zero_le _, Nat.zero_le _⟩ rfl rfl ?_
  refine r_istore_n hK d_X12_term_90 rfl (by decide) (ls2 := [.ref 78, .int v3, gs_J, gs_J, gs_J]) rfl ?_
  refine r_goto (tgt := 5) hK d_X12_term_91 (by decide) ?_
  exact hq5 _ _  hD
set_option maxRecDepth 20000 in
theorem T_X12_term_45 {n0 : Nat} {E : Nat → Int32 → Int32 → gs_M → Option (Int32 × gs_M)} (hE0 : ∀ (μ : gs_M) (r : Int32) (μ2 : gs_M), E 0 0 0 μ = some (r, μ2) → CALL yX12_atom cX12_atom 4 (some .int) (n0 + 10) [.ref 78] μ (some (.int r)) μ2) (hE1 : ∀ (μ : gs_M) (r : Int32) (μ2 : gs_M), E 1 0 0 μ = some (r, μ2) → CALL yX12_term cX12_term 5 (some .int) (n0 + 10) [.ref 78] μ (some (.int r)) μ2) (hE2 : ∀ (μ : gs_M) (r : Int32) (μ2 : gs_M), E 2 0 0 μ = some (r, μ2) → CALL yX12_sum cX12_sum 5 (some .int) (n0 + 10) [.ref 78] μ (some (.int r)) μ2) (hE3 : ∀ (y0 : Int32) (y1 : Int32) (μ : gs_M) (r : Int32) (μ2 : gs_M), E 3 y0 y1 μ = some (r, μ2) → CALL yX12_compares cX12_compares 6 (some .boolean) (n0 + 10) [.ref 78, .int y0, .int y1] μ (some (.int r)) μ2) (hE4 : ∀ (μ : gs_M) (r : Int32) (μ2 : gs_M), E 4 0 0 μ = some (r, μ2) → CALL yX12_unit cX12_unit 3 (some .boolean) (n0 + 10) [.ref 78] μ (some (.int r)) μ2) (hE5 : ∀ (y0 : Int32) (y1 : Int32) (μ : gs_M) (r : Int32) (μ2 : gs_M), E 5 y0 y1 μ = some (r, μ2) → CALL yX12_part cX12_part 5 (some .boolean) (n0 + 10) [.ref 78, .int y0, .int y1] μ (some (.int r)) μ2) (hE6 : ∀ (y0 : Int32) (y1 : Int32) (μ : gs_M) (r : Int32) (μ2 : gs_M), E 6 y0 y1 μ = some (r, μ2) → CALL yX12_condition cX12_condition 5 (some .boolean) (n0 + 10) [.ref 78, .int y0, .int y1] μ (some (.int r)) μ2) (hK : KC p R s m args meth c ad g tyc RX12 cX12_term 5 (some .int) (n0 + 11)) {r : Int32} {μ2 : gs_M} {q5 : Int32 → gs_M → Option (Int32 × gs_M)} (hq5 : ∀ (x1 : Int32) (μ : gs_M), q5 x1 μ = some (r, μ2) → WJ p l e R s m args below meth c 0 0 (MQ below (gs_Q ad g tyc (some (.int r)) μ2) args s 0 0 (gs_A ad)) ad g tyc 5 5 [.ref 78, .int x1, gs_J, gs_J, gs_J] [] μ) {x1 : Int32} {xs0 : Int32} {μ : gs_M}  (hD : B_X12_term_45 E q5 x1 xs0 μ = some (r, μ2)) : WJ p l e R s m args below meth c 0 0 (MQ below (gs_Q ad g tyc (some (.int r)) μ2) args s 0 0 (gs_A ad)) ad g tyc 5 45 [.ref 78, .int x1, gs_J, gs_J, gs_J] [.int xs0] μ := by
  unfold B_X12_term_45 at hD
  refine r_istore_n hK d_X12_term_45 rfl (by decide) (ls2 := [.ref 78, .int x1, .int xs0, gs_J, gs_J]) rfl ?_
  refine r_aload_n hK d_X12_term_46 rfl rfl ?_
  refine r_dup hK d_X12_term_47 rfl ?_
  refine r_getI hK d_X12_term_48 fl_RX12_119_11 rfl kd_78 ?_
  refine r_iconst hK d_X12_term_51 ci_1 ?_
  refine r_iadd hK d_X12_term_52 ?_
  refine r_putI hK d_X12_term_53 fl_RX12_119_11 rfl rfl kd_78 ?_
  refine r_ltm hD (fun u1 hD => ?_)
  refine r_aload_n hK d_X12_term_56 rfl rfl ?_
  obtain ⟨v4, u3, e2, hD⟩ := bd_e hD
  refine r_callV (As := []) (st := []) (stk2 := [.int v4]) hK (hE0 _ _ _ e2) d_X12_term_57 mf_X12_atom ml_RX12_171 im_X12_atom rfl se_11_RX12_X12_atom kd_78 rfl (Nat.le_of_ble_eq_true rfl) (by omega) ⟨Nat.zero_le _, Nat.zero_le _⟩ rfl rfl ?_
  refine r_i2l hK d_X12_term_60 ?_
  refine r_ltl hD (fun v5 hD => ?_)
  refine r_lstore_n hK d_X12_term_61 rfl (by decide) (ls2 := [.ref 78, .int x1, .int xs0, .long v5, gs_J]) rfl ?_
  refine r_iload_n hK d_X12_term_62 rfl rfl ?_
  refine r_if_eq (tgt := 73) hK d_X12_term_63 (by decide) (fun h6 => ?_) (fun h6 => ?_)
  · have hD := if_t hD h6
    refine r_lload_n hK d_X12_term_73 rfl rfl ?_
    refine r_lconst hK d_X12_term_74 cl_0 ?_
    refine r_lcmp hK d_X12_term_75 ?_
    refine r_if_ne (tgt := 83) hK d_X12_term_76 (by decide) (fun h7 => ?_) (fun h7 => ?_)
    · have hD := if_f hD h7
      refine r_iload_n hK d_X12_term_83 rfl rfl ?_
      refine r_i2l hK d_X12_term_84 ?_
      refine r_lload_n hK d_X12_term_85 rfl rfl ?_
      obtain ⟨h8, hD⟩ := ck_e hD
      refine r_ldiv hK d_X12_term_86 (nzl_e h8) ?_
      refine r_junk [true, false, false, false, false] (ls2 := [.ref 78, gs_J, gs_J, gs_J, gs_J]) rfl ?_
      exact T_X12_term_87 hE0 hE1 hE2 hE3 hE4 hE5 hE6 hK hq5  hD
    · have hD := if_t hD h7
      refine r_lconst hK d_X12_term_79 cl_0 ?_
      refine r_goto (tgt := 87) hK d_X12_term_80 (by decide) ?_
      refine r_junk [true, false, false, false, false] (ls2 := [.ref 78, gs_J, gs_J, gs_J, gs_J]) rfl ?_
      exact T_X12_term_87 hE0 hE1 hE2 hE3 hE4 hE5 hE6 hK hq5  hD
  · have hD := if_f hD h6
    refine r_iload_n hK d_X12_term_66 rfl rfl ?_
    refine r_i2l hK d_X12_term_67 ?_
    refine r_lload_n hK d_X12_term_68 rfl rfl ?_
    refine r_lmul hK d_X12_term_69 ?_
    refine r_goto (tgt := 87) hK d_X12_term_70 (by decide) ?_
    refine r_junk [true, false, false, false, false] (ls2 := [.ref 78, gs_J, gs_J, gs_J, gs_J]) rfl ?_
    exact T_X12_term_87 hE0 hE1 hE2 hE3 hE4 hE5 hE6 hK hq5  hD
set_option maxRecDepth 20000 in
theorem T_X12_term_31 {n0 : Nat} {E : Nat → Int32 → Int32 → gs_M → Option (Int32 × gs_M)} (hE0 : ∀ (μ : gs_M) (r : Int32) (μ2 : gs_M), E 0 0 0 μ = some (r, μ2) → CALL yX12_atom cX12_atom 4 (some .int) (n0 + 10) [.ref 78] μ (some (.int r)) μ2) (hE1 : ∀ (μ : gs_M) (r : Int32) (μ2 : gs_M), E 1 0 0 μ = some (r, μ2) → CALL yX12_term cX12_term 5 (some .int) (n0 + 10) [.ref 78] μ (some (.int r)) μ2) (hE2 : ∀ (μ : gs_M) (r : Int32) (μ2 : gs_M), E 2 0 0 μ = some (r, μ2) → CALL yX12_sum cX12_sum 5 (some .int) (n0 + 10) [.ref 78] μ (some (.int r)) μ2) (hE3 : ∀ (y0 : Int32) (y1 : Int32) (μ : gs_M) (r : Int32) (μ2 : gs_M), E 3 y0 y1 μ = some (r, μ2) → CALL yX12_compares cX12_compares 6 (some .boolean) (n0 + 10) [.ref 78, .int y0, .int y1] μ (some (.int r)) μ2) (hE4 : ∀ (μ : gs_M) (r : Int32) (μ2 : gs_M), E 4 0 0 μ = some (r, μ2) → CALL yX12_unit cX12_unit 3 (some .boolean) (n0 + 10) [.ref 78] μ (some (.int r)) μ2) (hE5 : ∀ (y0 : Int32) (y1 : Int32) (μ : gs_M) (r : Int32) (μ2 : gs_M), E 5 y0 y1 μ = some (r, μ2) → CALL yX12_part cX12_part 5 (some .boolean) (n0 + 10) [.ref 78, .int y0, .int y1] μ (some (.int r)) μ2) (hE6 : ∀ (y0 : Int32) (y1 : Int32) (μ : gs_M) (r : Int32) (μ2 : gs_M), E 6 y0 y1 μ = some (r, μ2) → CALL yX12_condition cX12_condition 5 (some .boolean) (n0 + 10) [.ref 78, .int y0, .int y1] μ (some (.int r)) μ2) (hK : KC p R s m args meth c ad g tyc RX12 cX12_term 5 (some .int) (n0 + 11)) {r : Int32} {μ2 : gs_M} {q5 : Int32 → gs_M → Option (Int32 × gs_M)} (hq5 : ∀ (x1 : Int32) (μ : gs_M), q5 x1 μ = some (r, μ2) → WJ p l e R s m args below meth c 0 0 (MQ below (gs_Q ad g tyc (some (.int r)) μ2) args s 0 0 (gs_A ad)) ad g tyc 5 5 [.ref 78, .int x1, gs_J, gs_J, gs_J] [] μ) {x1 : Int32} {μ : gs_M}  (hD : B_X12_term_31 E q5 x1 μ = some (r, μ2)) : WJ p l e R s m args below meth c 0 0 (MQ below (gs_Q ad g tyc (some (.int r)) μ2) args s 0 0 (gs_A ad)) ad g tyc 5 31 [.ref 78, .int x1, gs_J, gs_J, gs_J] [] μ := by
  unfold B_X12_term_31 at hD
  refine r_aload_n hK d_X12_term_31 rfl rfl ?_
  obtain ⟨v3, u2, e1, hD⟩ := bd_e hD
  refine r_callV (As := []) (st := []) (stk2 := [.int v3]) hK (C_X12_look  e1) d_X12_term_32 mf_X12_look ml_RX12_138 im_X12_look rfl se_11_RX12_X12_look kd_78 rfl (Nat.le_of_ble_eq_true rfl) (by omega) ⟨Nat.zero_le _, Nat.zero_le _⟩ rfl rfl ?_
  refine r_bipush hK d_X12_term_35 cb_42 ?_
  refine r_icmp_ne (tgt := 44) hK d_X12_term_37 (by decide) (fun h4 => ?_) (fun h4 => ?_)
  · have hD := if_f hD h4
    refine r_iconst hK d_X12_term_44 ci_0 ?_
    exact T_X12_term_45 hE0 hE1 hE2 hE3 hE4 hE5 hE6 hK hq5  hD
  · have hD := if_t hD h4
    refine r_iconst hK d_X12_term_40 ci_1 ?_
    refine r_goto (tgt := 45) hK d_X12_term_41 (by decide) ?_
    exact T_X12_term_45 hE0 hE1 hE2 hE3 hE4 hE5 hE6 hK hq5  hD
set_option maxRecDepth 20000 in
theorem To_X12_term_5 {n0 : Nat} {E : Nat → Int32 → Int32 → gs_M → Option (Int32 × gs_M)} (hE0 : ∀ (μ : gs_M) (r : Int32) (μ2 : gs_M), E 0 0 0 μ = some (r, μ2) → CALL yX12_atom cX12_atom 4 (some .int) (n0 + 10) [.ref 78] μ (some (.int r)) μ2) (hE1 : ∀ (μ : gs_M) (r : Int32) (μ2 : gs_M), E 1 0 0 μ = some (r, μ2) → CALL yX12_term cX12_term 5 (some .int) (n0 + 10) [.ref 78] μ (some (.int r)) μ2) (hE2 : ∀ (μ : gs_M) (r : Int32) (μ2 : gs_M), E 2 0 0 μ = some (r, μ2) → CALL yX12_sum cX12_sum 5 (some .int) (n0 + 10) [.ref 78] μ (some (.int r)) μ2) (hE3 : ∀ (y0 : Int32) (y1 : Int32) (μ : gs_M) (r : Int32) (μ2 : gs_M), E 3 y0 y1 μ = some (r, μ2) → CALL yX12_compares cX12_compares 6 (some .boolean) (n0 + 10) [.ref 78, .int y0, .int y1] μ (some (.int r)) μ2) (hE4 : ∀ (μ : gs_M) (r : Int32) (μ2 : gs_M), E 4 0 0 μ = some (r, μ2) → CALL yX12_unit cX12_unit 3 (some .boolean) (n0 + 10) [.ref 78] μ (some (.int r)) μ2) (hE5 : ∀ (y0 : Int32) (y1 : Int32) (μ : gs_M) (r : Int32) (μ2 : gs_M), E 5 y0 y1 μ = some (r, μ2) → CALL yX12_part cX12_part 5 (some .boolean) (n0 + 10) [.ref 78, .int y0, .int y1] μ (some (.int r)) μ2) (hE6 : ∀ (y0 : Int32) (y1 : Int32) (μ : gs_M) (r : Int32) (μ2 : gs_M), E 6 y0 y1 μ = some (r, μ2) → CALL yX12_condition cX12_condition 5 (some .boolean) (n0 + 10) [.ref 78, .int y0, .int y1] μ (some (.int r)) μ2) (hK : KC p R s m args meth c ad g tyc RX12 cX12_term 5 (some .int) (n0 + 11)) {r : Int32} {μ2 : gs_M} {q5 : Int32 → gs_M → Option (Int32 × gs_M)} (hq5 : ∀ (x1 : Int32) (μ : gs_M), q5 x1 μ = some (r, μ2) → WJ p l e R s m args below meth c 0 0 (MQ below (gs_Q ad g tyc (some (.int r)) μ2) args s 0 0 (gs_A ad)) ad g tyc 5 5 [.ref 78, .int x1, gs_J, gs_J, gs_J] [] μ) {x1 : Int32} {μ : gs_M}  (hD : Bo_X12_term_5 E q5 x1 μ = some (r, μ2)) : WJ p l e R s m args below meth c 0 0 (MQ below (gs_Q ad g tyc (some (.int r)) μ2) args s 0 0 (gs_A ad)) ad g tyc 5 5 [.ref 78, .int x1, gs_J, gs_J, gs_J] [] μ := by
  unfold Bo_X12_term_5 at hD
  refine r_aload_n hK d_X12_term_5 rfl rfl ?_
  refine r_getI hK d_X12_term_6 fl_RX12_128_11 rfl kd_78 ?_
  refine r_iconst hK d_X12_term_9 ci_m1 ?_
  refine r_icmp_ne (tgt := 94) hK d_X12_term_10 (by decide) (fun h1 => ?_) (fun h1 => ?_)
  · have hD := if_f hD h1
    refine r_iload_n hK d_X12_term_94 rfl rfl ?_
    cases hD
    exact r_iret hK d_X12_term_95
  · have hD := if_t hD h1
    refine r_aload_n hK d_X12_term_13 rfl rfl ?_
    obtain ⟨v4, u3, e2, hD⟩ := bd_e hD
    refine r_callV (As := []) (st := []) (stk2 := [.int v4]) hK (C_X12_look  e2) d_X12_term_14 mf_X12_look ml_RX12_138 im_X12_look rfl se_11_RX12_X12_look kd_78 rfl (Nat.le_of_ble_eq_true rfl) (by omega) ⟨Nat.zero_le _, Nat.zero_le _⟩ rfl rfl ?_
    refine r_bipush hK d_X12_term_17 cb_42 ?_
    refine r_icmp_eq (tgt := 31) hK d_X12_term_19 (by decide) (fun h5 => ?_) (fun h5 => ?_)
    · have hD := if_t hD h5
      exact T_X12_term_31 hE0 hE1 hE2 hE3 hE4 hE5 hE6 hK hq5  hD
    · have hD := if_f hD h5
      refine r_aload_n hK d_X12_term_22 rfl rfl ?_
      obtain ⟨v8, u7, e6, hD⟩ := bd_e hD
      refine r_callV (As := []) (st := []) (stk2 := [.int v8]) hK (C_X12_look  e6) d_X12_term_23 mf_X12_look ml_RX12_138 im_X12_look rfl se_11_RX12_X12_look kd_78 rfl (Nat.le_of_ble_eq_true rfl) (by omega) ⟨Nat.zero_le _, Nat.zero_le _⟩ rfl rfl ?_
      refine r_bipush hK d_X12_term_26 cb_47 ?_
      refine r_icmp_ne (tgt := 94) hK d_X12_term_28 (by decide) (fun h9 => ?_) (fun h9 => ?_)
      · have hD := if_f hD h9
        refine r_iload_n hK d_X12_term_94 rfl rfl ?_
        cases hD
        exact r_iret hK d_X12_term_95
      · have hD := if_t hD h9
        exact T_X12_term_31 hE0 hE1 hE2 hE3 hE4 hE5 hE6 hK hq5  hD
set_option maxRecDepth 20000 in
theorem TL_X12_term_5 {n0 : Nat} {E : Nat → Int32 → Int32 → gs_M → Option (Int32 × gs_M)} (hE0 : ∀ (μ : gs_M) (r : Int32) (μ2 : gs_M), E 0 0 0 μ = some (r, μ2) → CALL yX12_atom cX12_atom 4 (some .int) (n0 + 10) [.ref 78] μ (some (.int r)) μ2) (hE1 : ∀ (μ : gs_M) (r : Int32) (μ2 : gs_M), E 1 0 0 μ = some (r, μ2) → CALL yX12_term cX12_term 5 (some .int) (n0 + 10) [.ref 78] μ (some (.int r)) μ2) (hE2 : ∀ (μ : gs_M) (r : Int32) (μ2 : gs_M), E 2 0 0 μ = some (r, μ2) → CALL yX12_sum cX12_sum 5 (some .int) (n0 + 10) [.ref 78] μ (some (.int r)) μ2) (hE3 : ∀ (y0 : Int32) (y1 : Int32) (μ : gs_M) (r : Int32) (μ2 : gs_M), E 3 y0 y1 μ = some (r, μ2) → CALL yX12_compares cX12_compares 6 (some .boolean) (n0 + 10) [.ref 78, .int y0, .int y1] μ (some (.int r)) μ2) (hE4 : ∀ (μ : gs_M) (r : Int32) (μ2 : gs_M), E 4 0 0 μ = some (r, μ2) → CALL yX12_unit cX12_unit 3 (some .boolean) (n0 + 10) [.ref 78] μ (some (.int r)) μ2) (hE5 : ∀ (y0 : Int32) (y1 : Int32) (μ : gs_M) (r : Int32) (μ2 : gs_M), E 5 y0 y1 μ = some (r, μ2) → CALL yX12_part cX12_part 5 (some .boolean) (n0 + 10) [.ref 78, .int y0, .int y1] μ (some (.int r)) μ2) (hE6 : ∀ (y0 : Int32) (y1 : Int32) (μ : gs_M) (r : Int32) (μ2 : gs_M), E 6 y0 y1 μ = some (r, μ2) → CALL yX12_condition cX12_condition 5 (some .boolean) (n0 + 10) [.ref 78, .int y0, .int y1] μ (some (.int r)) μ2) (hK : KC p R s m args meth c ad g tyc RX12 cX12_term 5 (some .int) (n0 + 11)) {r : Int32} {μ2 : gs_M}   : ∀ (n : Nat) (x1 : Int32) (μ : gs_M), L_X12_term_5 E  n x1 μ = some (r, μ2) → WJ p l e R s m args below meth c 0 0 (MQ below (gs_Q ad g tyc (some (.int r)) μ2) args s 0 0 (gs_A ad)) ad g tyc 5 5 [.ref 78, .int x1, gs_J, gs_J, gs_J] [] μ := by
  intro n
  induction n with
  | zero => intro x1 μ  hD; cases hD
  | succ n ih => intro x1 μ  hD; exact To_X12_term_5 hE0 hE1 hE2 hE3 hE4 hE5 hE6 hK  ih  hD
set_option maxRecDepth 20000 in
theorem C_X12_term {n0 : Nat} {E : Nat → Int32 → Int32 → gs_M → Option (Int32 × gs_M)} (hE0 : ∀ (μ : gs_M) (r : Int32) (μ2 : gs_M), E 0 0 0 μ = some (r, μ2) → CALL yX12_atom cX12_atom 4 (some .int) (n0 + 10) [.ref 78] μ (some (.int r)) μ2) (hE1 : ∀ (μ : gs_M) (r : Int32) (μ2 : gs_M), E 1 0 0 μ = some (r, μ2) → CALL yX12_term cX12_term 5 (some .int) (n0 + 10) [.ref 78] μ (some (.int r)) μ2) (hE2 : ∀ (μ : gs_M) (r : Int32) (μ2 : gs_M), E 2 0 0 μ = some (r, μ2) → CALL yX12_sum cX12_sum 5 (some .int) (n0 + 10) [.ref 78] μ (some (.int r)) μ2) (hE3 : ∀ (y0 : Int32) (y1 : Int32) (μ : gs_M) (r : Int32) (μ2 : gs_M), E 3 y0 y1 μ = some (r, μ2) → CALL yX12_compares cX12_compares 6 (some .boolean) (n0 + 10) [.ref 78, .int y0, .int y1] μ (some (.int r)) μ2) (hE4 : ∀ (μ : gs_M) (r : Int32) (μ2 : gs_M), E 4 0 0 μ = some (r, μ2) → CALL yX12_unit cX12_unit 3 (some .boolean) (n0 + 10) [.ref 78] μ (some (.int r)) μ2) (hE5 : ∀ (y0 : Int32) (y1 : Int32) (μ : gs_M) (r : Int32) (μ2 : gs_M), E 5 y0 y1 μ = some (r, μ2) → CALL yX12_part cX12_part 5 (some .boolean) (n0 + 10) [.ref 78, .int y0, .int y1] μ (some (.int r)) μ2) (hE6 : ∀ (y0 : Int32) (y1 : Int32) (μ : gs_M) (r : Int32) (μ2 : gs_M), E 6 y0 y1 μ = some (r, μ2) → CALL yX12_condition cX12_condition 5 (some .boolean) (n0 + 10) [.ref 78, .int y0, .int y1] μ (some (.int r)) μ2)  {μ : gs_M} {r : Int32} {μ2 : gs_M}  (hD : O_X12_term E  μ = some (r, μ2)) : CALL yX12_term cX12_term 5 (some .int) (n0 + 11) [.ref 78] μ (some (.int r)) μ2 := by
  unfold O_X12_term at hD
  refine gs_enter mf_X12_term (Nat.le_of_ble_eq_true rfl) (ls := [.ref 78, gs_J, gs_J, gs_J, gs_J]) rfl (fun p l e R s m args below meth c ad g tyc hK => ?_)
  have hK : KC p R s m args meth c ad g tyc RX12 cX12_term 5 (some .int) (n0 + 11) := hK
  refine r_aload_n hK d_X12_term_0 rfl rfl ?_
  obtain ⟨v3, u2, e1, hD⟩ := bd_e hD
  refine r_callV (As := []) (st := []) (stk2 := [.int v3]) hK (hE0 _ _ _ e1) d_X12_term_1 mf_X12_atom ml_RX12_171 im_X12_atom rfl se_11_RX12_X12_atom kd_78 rfl (Nat.le_of_ble_eq_true rfl) (by omega) ⟨Nat.zero_le _, Nat.zero_le _⟩ rfl rfl ?_
  refine r_istore_n hK d_X12_term_4 rfl (by decide) (ls2 := [.ref 78, .int v3, gs_J, gs_J, gs_J]) rfl ?_
  exact TL_X12_term_5 hE0 hE1 hE2 hE3 hE4 hE5 hE6 hK  _ _ _  hD
end S_X12_term
theorem d_X12_sum_0 : gd cX12_sum 0 (.aload_n 0) 1 1 := ⟨by decide +kernel, rfl⟩
theorem d_X12_sum_1 : gd cX12_sum 1 (.invokevirtual 178) 3 4 := ⟨by decide +kernel, rfl⟩
theorem d_X12_sum_4 : gd cX12_sum 4 (.istore_n 1) 1 5 := ⟨by decide +kernel, rfl⟩
theorem d_X12_sum_5 : gd cX12_sum 5 (.aload_n 0) 1 6 := ⟨by decide +kernel, rfl⟩
theorem d_X12_sum_6 : gd cX12_sum 6 (.getfield 128) 3 9 := ⟨by decide +kernel, rfl⟩
theorem d_X12_sum_9 : gd cX12_sum 9 (.iconst (-1)) 1 10 := ⟨by decide +kernel, rfl⟩
theorem d_X12_sum_10 : gd cX12_sum 10 (.if_icmp .ne 74) 3 13 := ⟨by decide +kernel, rfl⟩
theorem d_X12_sum_13 : gd cX12_sum 13 (.aload_n 0) 1 14 := ⟨by decide +kernel, rfl⟩
theorem d_X12_sum_14 : gd cX12_sum 14 (.invokevirtual 138) 3 17 := ⟨by decide +kernel, rfl⟩
theorem d_X12_sum_17 : gd cX12_sum 17 (.bipush 43) 2 19 := ⟨by decide +kernel, rfl⟩
theorem d_X12_sum_19 : gd cX12_sum 19 (.if_icmp .eq 12) 3 22 := ⟨by decide +kernel, rfl⟩
theorem d_X12_sum_22 : gd cX12_sum 22 (.aload_n 0) 1 23 := ⟨by decide +kernel, rfl⟩
theorem d_X12_sum_23 : gd cX12_sum 23 (.invokevirtual 138) 3 26 := ⟨by decide +kernel, rfl⟩
theorem d_X12_sum_26 : gd cX12_sum 26 (.bipush 45) 2 28 := ⟨by decide +kernel, rfl⟩
theorem d_X12_sum_28 : gd cX12_sum 28 (.if_icmp .ne 56) 3 31 := ⟨by decide +kernel, rfl⟩
theorem d_X12_sum_31 : gd cX12_sum 31 (.aload_n 0) 1 32 := ⟨by decide +kernel, rfl⟩
theorem d_X12_sum_32 : gd cX12_sum 32 (.invokevirtual 138) 3 35 := ⟨by decide +kernel, rfl⟩
theorem d_X12_sum_35 : gd cX12_sum 35 (.bipush 43) 2 37 := ⟨by decide +kernel, rfl⟩
theorem d_X12_sum_37 : gd cX12_sum 37 (.if_icmp .ne 7) 3 40 := ⟨by decide +kernel, rfl⟩
theorem d_X12_sum_40 : gd cX12_sum 40 (.iconst 1) 1 41 := ⟨by decide +kernel, rfl⟩
theorem d_X12_sum_41 : gd cX12_sum 41 (.goto 4) 3 44 := ⟨by decide +kernel, rfl⟩
theorem d_X12_sum_44 : gd cX12_sum 44 (.iconst 0) 1 45 := ⟨by decide +kernel, rfl⟩
theorem d_X12_sum_45 : gd cX12_sum 45 (.istore_n 2) 1 46 := ⟨by decide +kernel, rfl⟩
theorem d_X12_sum_46 : gd cX12_sum 46 (.aload_n 0) 1 47 := ⟨by decide +kernel, rfl⟩
theorem d_X12_sum_47 : gd cX12_sum 47 .dup 1 48 := ⟨by decide +kernel, rfl⟩
theorem d_X12_sum_48 : gd cX12_sum 48 (.getfield 119) 3 51 := ⟨by decide +kernel, rfl⟩
theorem d_X12_sum_51 : gd cX12_sum 51 (.iconst 1) 1 52 := ⟨by decide +kernel, rfl⟩
theorem d_X12_sum_52 : gd cX12_sum 52 .iadd 1 53 := ⟨by decide +kernel, rfl⟩
theorem d_X12_sum_53 : gd cX12_sum 53 (.putfield 119) 3 56 := ⟨by decide +kernel, rfl⟩
theorem d_X12_sum_56 : gd cX12_sum 56 (.aload_n 0) 1 57 := ⟨by decide +kernel, rfl⟩
theorem d_X12_sum_57 : gd cX12_sum 57 (.invokevirtual 178) 3 60 := ⟨by decide +kernel, rfl⟩
theorem d_X12_sum_60 : gd cX12_sum 60 .i2l 1 61 := ⟨by decide +kernel, rfl⟩
theorem d_X12_sum_61 : gd cX12_sum 61 (.lstore_n 3) 1 62 := ⟨by decide +kernel, rfl⟩
theorem d_X12_sum_62 : gd cX12_sum 62 (.iload_n 2) 1 63 := ⟨by decide +kernel, rfl⟩
theorem d_X12_sum_63 : gd cX12_sum 63 (.ifCond .eq 10) 3 66 := ⟨by decide +kernel, rfl⟩
theorem d_X12_sum_66 : gd cX12_sum 66 (.iload_n 1) 1 67 := ⟨by decide +kernel, rfl⟩
theorem d_X12_sum_67 : gd cX12_sum 67 .i2l 1 68 := ⟨by decide +kernel, rfl⟩
theorem d_X12_sum_68 : gd cX12_sum 68 (.lload_n 3) 1 69 := ⟨by decide +kernel, rfl⟩
theorem d_X12_sum_69 : gd cX12_sum 69 .ladd 1 70 := ⟨by decide +kernel, rfl⟩
theorem d_X12_sum_70 : gd cX12_sum 70 (.goto 7) 3 73 := ⟨by decide +kernel, rfl⟩
theorem d_X12_sum_73 : gd cX12_sum 73 (.iload_n 1) 1 74 := ⟨by decide +kernel, rfl⟩
theorem d_X12_sum_74 : gd cX12_sum 74 .i2l 1 75 := ⟨by decide +kernel, rfl⟩
theorem d_X12_sum_75 : gd cX12_sum 75 (.lload_n 3) 1 76 := ⟨by decide +kernel, rfl⟩
theorem d_X12_sum_76 : gd cX12_sum 76 .lsub 1 77 := ⟨by decide +kernel, rfl⟩
theorem d_X12_sum_77 : gd cX12_sum 77 (.invokestatic 174) 3 80 := ⟨by decide +kernel, rfl⟩
theorem d_X12_sum_80 : gd cX12_sum 80 (.istore_n 1) 1 81 := ⟨by decide +kernel, rfl⟩
theorem d_X12_sum_81 : gd cX12_sum 81 (.goto (-76)) 3 84 := ⟨by decide +kernel, rfl⟩
theorem d_X12_sum_84 : gd cX12_sum 84 (.iload_n 1) 1 85 := ⟨by decide +kernel, rfl⟩
theorem d_X12_sum_85 : gd cX12_sum 85 .ireturn 1 86 := ⟨by decide +kernel, rfl⟩
def B_X12_sum_77 (E : Nat → Int32 → Int32 → gs_M → Option (Int32 × gs_M)) (q5 : Int32 → gs_M → Option (Int32 × gs_M)) (zs0 : Int64) (μ : gs_M) : Option (Int32 × gs_M) :=
  bd (D_X12_within zs0 μ) (fun v3 u2 => q5 v3 u2)
def B_X12_sum_45 (E : Nat → Int32 → Int32 → gs_M → Option (Int32 × gs_M)) (q5 : Int32 → gs_M → Option (Int32 × gs_M)) (x1 : Int32) (xs0 : Int32) (μ : gs_M) : Option (Int32 × gs_M) :=
  lt1 (sI μ 78 10 ((gI μ 78 10) + (1 : Int32))) (fun u1 => bd (E 1 0 0 u1) (fun v4 u3 => lt1 (Int32.toInt64 v4) (fun v5 => if xs0 = 0 then (B_X12_sum_77 E q5 ((Int32.toInt64 x1) - v5) u3) else (B_X12_sum_77 E q5 ((Int32.toInt64 x1) + v5) u3))))
def B_X12_sum_31 (E : Nat → Int32 → Int32 → gs_M → Option (Int32 × gs_M)) (q5 : Int32 → gs_M → Option (Int32 × gs_M)) (x1 : Int32) (μ : gs_M) : Option (Int32 × gs_M) :=
  bd (D_X12_look μ) (fun v3 u2 => if v3 = (43 : Int32) then (B_X12_sum_45 E q5 x1 (1 : Int32) u2) else (B_X12_sum_45 E q5 x1 (0 : Int32) u2))
def Bo_X12_sum_5 (E : Nat → Int32 → Int32 → gs_M → Option (Int32 × gs_M)) (q5 : Int32 → gs_M → Option (Int32 × gs_M)) (x1 : Int32) (μ : gs_M) : Option (Int32 × gs_M) :=
  if (gI μ 78 11) = (-1 : Int32) then (bd (D_X12_look μ) (fun v4 u3 => if v4 = (43 : Int32) then (B_X12_sum_31 E q5 x1 u3) else (bd (D_X12_look u3) (fun v8 u7 => if v8 = (45 : Int32) then (B_X12_sum_31 E q5 x1 u7) else (some (x1, u7)))))) else (some (x1, μ))
def L_X12_sum_5 (E : Nat → Int32 → Int32 → gs_M → Option (Int32 × gs_M))  : Nat → Int32 → gs_M → Option (Int32 × gs_M)
  | 0 => fun _ _ => none
  | n + 1 => fun x1 μ => Bo_X12_sum_5 E  (L_X12_sum_5 E  n) x1 μ
def O_X12_sum (E : Nat → Int32 → Int32 → gs_M → Option (Int32 × gs_M))  (μ : gs_M) : Option (Int32 × gs_M) :=
  bd (E 1 0 0 μ) (fun v3 u2 => L_X12_sum_5 E 4096 v3 u2)
section S_X12_sum
variable {p : Program} {l : Launch} {e : Env} {R : Room} {s : State} {m : MethodId} {args : Array Value} {below : List Frame} {meth : Method} {c : Code} {ad : Nat → Nat} {g : va_G} {tyc : Nat → ClassId}
set_option maxRecDepth 20000 in
theorem T_X12_sum_77 {n0 : Nat} {E : Nat → Int32 → Int32 → gs_M → Option (Int32 × gs_M)} (hE0 : ∀ (μ : gs_M) (r : Int32) (μ2 : gs_M), E 0 0 0 μ = some (r, μ2) → CALL yX12_atom cX12_atom 4 (some .int) (n0 + 10) [.ref 78] μ (some (.int r)) μ2) (hE1 : ∀ (μ : gs_M) (r : Int32) (μ2 : gs_M), E 1 0 0 μ = some (r, μ2) → CALL yX12_term cX12_term 5 (some .int) (n0 + 10) [.ref 78] μ (some (.int r)) μ2) (hE2 : ∀ (μ : gs_M) (r : Int32) (μ2 : gs_M), E 2 0 0 μ = some (r, μ2) → CALL yX12_sum cX12_sum 5 (some .int) (n0 + 10) [.ref 78] μ (some (.int r)) μ2) (hE3 : ∀ (y0 : Int32) (y1 : Int32) (μ : gs_M) (r : Int32) (μ2 : gs_M), E 3 y0 y1 μ = some (r, μ2) → CALL yX12_compares cX12_compares 6 (some .boolean) (n0 + 10) [.ref 78, .int y0, .int y1] μ (some (.int r)) μ2) (hE4 : ∀ (μ : gs_M) (r : Int32) (μ2 : gs_M), E 4 0 0 μ = some (r, μ2) → CALL yX12_unit cX12_unit 3 (some .boolean) (n0 + 10) [.ref 78] μ (some (.int r)) μ2) (hE5 : ∀ (y0 : Int32) (y1 : Int32) (μ : gs_M) (r : Int32) (μ2 : gs_M), E 5 y0 y1 μ = some (r, μ2) → CALL yX12_part cX12_part 5 (some .boolean) (n0 + 10) [.ref 78, .int y0, .int y1] μ (some (.int r)) μ2) (hE6 : ∀ (y0 : Int32) (y1 : Int32) (μ : gs_M) (r : Int32) (μ2 : gs_M), E 6 y0 y1 μ = some (r, μ2) → CALL yX12_condition cX12_condition 5 (some .boolean) (n0 + 10) [.ref 78, .int y0, .int y1] μ (some (.int r)) μ2) (hK : KC p R s m args meth c ad g tyc RX12 cX12_sum 5 (some .int) (n0 + 11)) {r : Int32} {μ2 : gs_M} {q5 : Int32 → gs_M → Option (Int32 × gs_M)} (hq5 : ∀ (x1 : Int32) (μ : gs_M), q5 x1 μ = some (r, μ2) → WJ p l e R s m args below meth c 0 0 (MQ below (gs_Q ad g tyc (some (.int r)) μ2) args s 0 0 (gs_A ad)) ad g tyc 5 5 [.ref 78, .int x1, gs_J, gs_J, gs_J] [] μ) {zs0 : Int64} {μ : gs_M}  (hD : B_X12_sum_77 E q5 zs0 μ = some (r, μ2)) : WJ p l e R s m args below meth c 0 0 (MQ below (gs_Q ad g tyc (some (.int r)) μ2) args s 0 0 (gs_A ad)) ad g tyc 5 77 [.ref 78, gs_J, gs_J, gs_J, gs_J] [.long zs0] μ := by
  unfold B_X12_sum_77 at hD
  obtain ⟨v3, u2, e1, hD⟩ := bd_e hD
  refine r_callS (As := [.long zs0]) (st := []) (stk2 := [.int v3]) hK (C_X12_within  e1) d_X12_sum_77 mf_X12_within ml_RX12_174 ss_X12_within rfl (Nat.le_of_ble_eq_true rfl) (by omega) ⟨Nat.zero_le _, Nat.zero_le _⟩ rfl rfl ?_
  refine r_istore_n hK d_X12_sum_80 rfl (by decide) (ls2 := [.ref 78, .int v3, gs_J, gs_J, gs_J]) rfl ?_
  refine r_goto (tgt := 5) hK d_X12_sum_81 (by decide) ?_
  exact hq5 _ _  hD
set_option maxRecDepth 20000 in
theorem T_X12_sum_45 {n0 : Nat} {E : Nat → Int32 → Int32 → gs_M → Option (Int32 × gs_M)} (hE0 : ∀ (μ : gs_M) (r : Int32) (μ2 : gs_M), E 0 0 0 μ = some (r, μ2) → CALL yX12_atom cX12_atom 4 (some .int) (n0 + 10) [.ref 78] μ (some (.int r)) μ2) (hE1 : ∀ (μ : gs_M) (r : Int32) (μ2 : gs_M), E 1 0 0 μ = some (r, μ2) → CALL yX12_term cX12_term 5 (some .int) (n0 + 10) [.ref 78] μ (some (.int r)) μ2) (hE2 : ∀ (μ : gs_M) (r : Int32) (μ2 : gs_M), E 2 0 0 μ = some (r, μ2) → CALL yX12_sum cX12_sum 5 (some .int) (n0 + 10) [.ref 78] μ (some (.int r)) μ2) (hE3 : ∀ (y0 : Int32) (y1 : Int32) (μ : gs_M) (r : Int32) (μ2 : gs_M), E 3 y0 y1 μ = some (r, μ2) → CALL yX12_compares cX12_compares 6 (some .boolean) (n0 + 10) [.ref 78, .int y0, .int y1] μ (some (.int r)) μ2) (hE4 : ∀ (μ : gs_M) (r : Int32) (μ2 : gs_M), E 4 0 0 μ = some (r, μ2) → CALL yX12_unit cX12_unit 3 (some .boolean) (n0 + 10) [.ref 78] μ (some (.int r)) μ2) (hE5 : ∀ (y0 : Int32) (y1 : Int32) (μ : gs_M) (r : Int32) (μ2 : gs_M), E 5 y0 y1 μ = some (r, μ2) → CALL yX12_part cX12_part 5 (some .boolean) (n0 + 10) [.ref 78, .int y0, .int y1] μ (some (.int r)) μ2) (hE6 : ∀ (y0 : Int32) (y1 : Int32) (μ : gs_M) (r : Int32) (μ2 : gs_M), E 6 y0 y1 μ = some (r, μ2) → CALL yX12_condition cX12_condition 5 (some .boolean) (n0 + 10) [.ref 78, .int y0, .int y1] μ (some (.int r)) μ2) (hK : KC p R s m args meth c ad g tyc RX12 cX12_sum 5 (some .int) (n0 + 11)) {r : Int32} {μ2 : gs_M} {q5 : Int32 → gs_M → Option (Int32 × gs_M)} (hq5 : ∀ (x1 : Int32) (μ : gs_M), q5 x1 μ = some (r, μ2) → WJ p l e R s m args below meth c 0 0 (MQ below (gs_Q ad g tyc (some (.int r)) μ2) args s 0 0 (gs_A ad)) ad g tyc 5 5 [.ref 78, .int x1, gs_J, gs_J, gs_J] [] μ) {x1 : Int32} {xs0 : Int32} {μ : gs_M}  (hD : B_X12_sum_45 E q5 x1 xs0 μ = some (r, μ2)) : WJ p l e R s m args below meth c 0 0 (MQ below (gs_Q ad g tyc (some (.int r)) μ2) args s 0 0 (gs_A ad)) ad g tyc 5 45 [.ref 78, .int x1, gs_J, gs_J, gs_J] [.int xs0] μ := by
  unfold B_X12_sum_45 at hD
  refine r_istore_n hK d_X12_sum_45 rfl (by decide) (ls2 := [.ref 78, .int x1, .int xs0, gs_J, gs_J]) rfl ?_
  refine r_aload_n hK d_X12_sum_46 rfl rfl ?_
  refine r_dup hK d_X12_sum_47 rfl ?_
  refine r_getI hK d_X12_sum_48 fl_RX12_119_11 rfl kd_78 ?_
  refine r_iconst hK d_X12_sum_51 ci_1 ?_
  refine r_iadd hK d_X12_sum_52 ?_
  refine r_putI hK d_X12_sum_53 fl_RX12_119_11 rfl rfl kd_78 ?_
  refine r_ltm hD (fun u1 hD => ?_)
  refine r_aload_n hK d_X12_sum_56 rfl rfl ?_
  obtain ⟨v4, u3, e2, hD⟩ := bd_e hD
  refine r_callV (As := []) (st := []) (stk2 := [.int v4]) hK (hE1 _ _ _ e2) d_X12_sum_57 mf_X12_term ml_RX12_178 im_X12_term rfl se_11_RX12_X12_term kd_78 rfl (Nat.le_of_ble_eq_true rfl) (by omega) ⟨Nat.zero_le _, Nat.zero_le _⟩ rfl rfl ?_
  refine r_i2l hK d_X12_sum_60 ?_
  refine r_ltl hD (fun v5 hD => ?_)
  refine r_lstore_n hK d_X12_sum_61 rfl (by decide) (ls2 := [.ref 78, .int x1, .int xs0, .long v5, gs_J]) rfl ?_
  refine r_iload_n hK d_X12_sum_62 rfl rfl ?_
  refine r_if_eq (tgt := 73) hK d_X12_sum_63 (by decide) (fun h6 => ?_) (fun h6 => ?_)
  · have hD := if_t hD h6
    refine r_iload_n hK d_X12_sum_73 rfl rfl ?_
    refine r_i2l hK d_X12_sum_74 ?_
    refine r_lload_n hK d_X12_sum_75 rfl rfl ?_
    refine r_lsub hK d_X12_sum_76 ?_
    refine r_junk [true, false, false, false, false] (ls2 := [.ref 78, gs_J, gs_J, gs_J, gs_J]) rfl ?_
    exact T_X12_sum_77 hE0 hE1 hE2 hE3 hE4 hE5 hE6 hK hq5  hD
  · have hD := if_f hD h6
    refine r_iload_n hK d_X12_sum_66 rfl rfl ?_
    refine r_i2l hK d_X12_sum_67 ?_
    refine r_lload_n hK d_X12_sum_68 rfl rfl ?_
    refine r_ladd hK d_X12_sum_69 ?_
    refine r_goto (tgt := 77) hK d_X12_sum_70 (by decide) ?_
    refine r_junk [true, false, false, false, false] (ls2 := [.ref 78, gs_J, gs_J, gs_J, gs_J]) rfl ?_
    exact T_X12_sum_77 hE0 hE1 hE2 hE3 hE4 hE5 hE6 hK hq5  hD
set_option maxRecDepth 20000 in
theorem T_X12_sum_31 {n0 : Nat} {E : Nat → Int32 → Int32 → gs_M → Option (Int32 × gs_M)} (hE0 : ∀ (μ : gs_M) (r : Int32) (μ2 : gs_M), E 0 0 0 μ = some (r, μ2) → CALL yX12_atom cX12_atom 4 (some .int) (n0 + 10) [.ref 78] μ (some (.int r)) μ2) (hE1 : ∀ (μ : gs_M) (r : Int32) (μ2 : gs_M), E 1 0 0 μ = some (r, μ2) → CALL yX12_term cX12_term 5 (some .int) (n0 + 10) [.ref 78] μ (some (.int r)) μ2) (hE2 : ∀ (μ : gs_M) (r : Int32) (μ2 : gs_M), E 2 0 0 μ = some (r, μ2) → CALL yX12_sum cX12_sum 5 (some .int) (n0 + 10) [.ref 78] μ (some (.int r)) μ2) (hE3 : ∀ (y0 : Int32) (y1 : Int32) (μ : gs_M) (r : Int32) (μ2 : gs_M), E 3 y0 y1 μ = some (r, μ2) → CALL yX12_compares cX12_compares 6 (some .boolean) (n0 + 10) [.ref 78, .int y0, .int y1] μ (some (.int r)) μ2) (hE4 : ∀ (μ : gs_M) (r : Int32) (μ2 : gs_M), E 4 0 0 μ = some (r, μ2) → CALL yX12_unit cX12_unit 3 (some .boolean) (n0 + 10) [.ref 78] μ (some (.int r)) μ2) (hE5 : ∀ (y0 : Int32) (y1 : Int32) (μ : gs_M) (r : Int32) (μ2 : gs_M), E 5 y0 y1 μ = some (r, μ2) → CALL yX12_part cX12_part 5 (some .boolean) (n0 + 10) [.ref 78, .int y0, .int y1] μ (some (.int r)) μ2) (hE6 : ∀ (y0 : Int32) (y1 : Int32) (μ : gs_M) (r : Int32) (μ2 : gs_M), E 6 y0 y1 μ = some (r, μ2) → CALL yX12_condition cX12_condition 5 (some .boolean) (n0 + 10) [.ref 78, .int y0, .int y1] μ (some (.int r)) μ2) (hK : KC p R s m args meth c ad g tyc RX12 cX12_sum 5 (some .int) (n0 + 11)) {r : Int32} {μ2 : gs_M} {q5 : Int32 → gs_M → Option (Int32 × gs_M)} (hq5 : ∀ (x1 : Int32) (μ : gs_M), q5 x1 μ = some (r, μ2) → WJ p l e R s m args below meth c 0 0 (MQ below (gs_Q ad g tyc (some (.int r)) μ2) args s 0 0 (gs_A ad)) ad g tyc 5 5 [.ref 78, .int x1, gs_J, gs_J, gs_J] [] μ) {x1 : Int32} {μ : gs_M}  (hD : B_X12_sum_31 E q5 x1 μ = some (r, μ2)) : WJ p l e R s m args below meth c 0 0 (MQ below (gs_Q ad g tyc (some (.int r)) μ2) args s 0 0 (gs_A ad)) ad g tyc 5 31 [.ref 78, .int x1, gs_J, gs_J, gs_J] [] μ := by
  unfold B_X12_sum_31 at hD
  refine r_aload_n hK d_X12_sum_31 rfl rfl ?_
  obtain ⟨v3, u2, e1, hD⟩ := bd_e hD
  refine r_callV (As := []) (st := []) (stk2 := [.int v3]) hK (C_X12_look  e1) d_X12_sum_32 mf_X12_look ml_RX12_138 im_X12_look rfl se_11_RX12_X12_look kd_78 rfl (Nat.le_of_ble_eq_true rfl) (by omega) ⟨Nat.zero_le _, Nat.zero_le _⟩ rfl rfl ?_
  refine r_bipush hK d_X12_sum_35 cb_43 ?_
  refine r_icmp_ne (tgt := 44) hK d_X12_sum_37 (by decide) (fun h4 => ?_) (fun h4 => ?_)
  · have hD := if_f hD h4
    refine r_iconst hK d_X12_sum_44 ci_0 ?_
    exact T_X12_sum_45 hE0 hE1 hE2 hE3 hE4 hE5 hE6 hK hq5  hD
  · have hD := if_t hD h4
    refine r_iconst hK d_X12_sum_40 ci_1 ?_
    refine r_goto (tgt := 45) hK d_X12_sum_41 (by decide) ?_
    exact T_X12_sum_45 hE0 hE1 hE2 hE3 hE4 hE5 hE6 hK hq5  hD
set_option maxRecDepth 20000 in
theorem To_X12_sum_5 {n0 : Nat} {E : Nat → Int32 → Int32 → gs_M → Option (Int32 × gs_M)} (hE0 : ∀ (μ : gs_M) (r : Int32) (μ2 : gs_M), E 0 0 0 μ = some (r, μ2) → CALL yX12_atom cX12_atom 4 (some .int) (n0 + 10) [.ref 78] μ (some (.int r)) μ2) (hE1 : ∀ (μ : gs_M) (r : Int32) (μ2 : gs_M), E 1 0 0 μ = some (r, μ2) → CALL yX12_term cX12_term 5 (some .int) (n0 + 10) [.ref 78] μ (some (.int r)) μ2) (hE2 : ∀ (μ : gs_M) (r : Int32) (μ2 : gs_M), E 2 0 0 μ = some (r, μ2) → CALL yX12_sum cX12_sum 5 (some .int) (n0 + 10) [.ref 78] μ (some (.int r)) μ2) (hE3 : ∀ (y0 : Int32) (y1 : Int32) (μ : gs_M) (r : Int32) (μ2 : gs_M), E 3 y0 y1 μ = some (r, μ2) → CALL yX12_compares cX12_compares 6 (some .boolean) (n0 + 10) [.ref 78, .int y0, .int y1] μ (some (.int r)) μ2) (hE4 : ∀ (μ : gs_M) (r : Int32) (μ2 : gs_M), E 4 0 0 μ = some (r, μ2) → CALL yX12_unit cX12_unit 3 (some .boolean) (n0 + 10) [.ref 78] μ (some (.int r)) μ2) (hE5 : ∀ (y0 : Int32) (y1 : Int32) (μ : gs_M) (r : Int32) (μ2 : gs_M), E 5 y0 y1 μ = some (r, μ2) → CALL yX12_part cX12_part 5 (some .boolean) (n0 + 10) [.ref 78, .int y0, .int y1] μ (some (.int r)) μ2) (hE6 : ∀ (y0 : Int32) (y1 : Int32) (μ : gs_M) (r : Int32) (μ2 : gs_M), E 6 y0 y1 μ = some (r, μ2) → CALL yX12_condition cX12_condition 5 (some .boolean) (n0 + 10) [.ref 78, .int y0, .int y1] μ (some (.int r)) μ2) (hK : KC p R s m args meth c ad g tyc RX12 cX12_sum 5 (some .int) (n0 + 11)) {r : Int32} {μ2 : gs_M} {q5 : Int32 → gs_M → Option (Int32 × gs_M)} (hq5 : ∀ (x1 : Int32) (μ : gs_M), q5 x1 μ = some (r, μ2) → WJ p l e R s m args below meth c 0 0 (MQ below (gs_Q ad g tyc (some (.int r)) μ2) args s 0 0 (gs_A ad)) ad g tyc 5 5 [.ref 78, .int x1, gs_J, gs_J, gs_J] [] μ) {x1 : Int32} {μ : gs_M}  (hD : Bo_X12_sum_5 E q5 x1 μ = some (r, μ2)) : WJ p l e R s m args below meth c 0 0 (MQ below (gs_Q ad g tyc (some (.int r)) μ2) args s 0 0 (gs_A ad)) ad g tyc 5 5 [.ref 78, .int x1, gs_J, gs_J, gs_J] [] μ := by
  unfold Bo_X12_sum_5 at hD
  refine r_aload_n hK d_X12_sum_5 rfl rfl ?_
  refine r_getI hK d_X12_sum_6 fl_RX12_128_11 rfl kd_78 ?_
  refine r_iconst hK d_X12_sum_9 ci_m1 ?_
  refine r_icmp_ne (tgt := 84) hK d_X12_sum_10 (by decide) (fun h1 => ?_) (fun h1 => ?_)
  · have hD := if_f hD h1
    refine r_iload_n hK d_X12_sum_84 rfl rfl ?_
    cases hD
    exact r_iret hK d_X12_sum_85
  · have hD := if_t hD h1
    refine r_aload_n hK d_X12_sum_13 rfl rfl ?_
    obtain ⟨v4, u3, e2, hD⟩ := bd_e hD
    refine r_callV (As := []) (st := []) (stk2 := [.int v4]) hK (C_X12_look  e2) d_X12_sum_14 mf_X12_look ml_RX12_138 im_X12_look rfl se_11_RX12_X12_look kd_78 rfl (Nat.le_of_ble_eq_true rfl) (by omega) ⟨Nat.zero_le _, Nat.zero_le _⟩ rfl rfl ?_
    refine r_bipush hK d_X12_sum_17 cb_43 ?_
    refine r_icmp_eq (tgt := 31) hK d_X12_sum_19 (by decide) (fun h5 => ?_) (fun h5 => ?_)
    · have hD := if_t hD h5
      exact T_X12_sum_31 hE0 hE1 hE2 hE3 hE4 hE5 hE6 hK hq5  hD
    · have hD := if_f hD h5
      refine r_aload_n hK d_X12_sum_22 rfl rfl ?_
      obtain ⟨v8, u7, e6, hD⟩ := bd_e hD
      refine r_callV (As := []) (st := []) (stk2 := [.int v8]) hK (C_X12_look  e6) d_X12_sum_23 mf_X12_look ml_RX12_138 im_X12_look rfl se_11_RX12_X12_look kd_78 rfl (Nat.le_of_ble_eq_true rfl) (by omega) ⟨Nat.zero_le _, Nat.zero_le _⟩ rfl rfl ?_
      refine r_bipush hK d_X12_sum_26 cb_45 ?_
      refine r_icmp_ne (tgt := 84) hK d_X12_sum_28 (by decide) (fun h9 => ?_) (fun h9 => ?_)
      · have hD := if_f hD h9
        refine r_iload_n hK d_X12_sum_84 rfl rfl ?_
        cases hD
        exact r_iret hK d_X12_sum_85
      · have hD := if_t hD h9
        exact T_X12_sum_31 hE0 hE1 hE2 hE3 hE4 hE5 hE6 hK hq5  hD
set_option maxRecDepth 20000 in
theorem TL_X12_sum_5 {n0 : Nat} {E : Nat → Int32 → Int32 → gs_M → Option (Int32 × gs_M)} (hE0 : ∀ (μ : gs_M) (r : Int32) (μ2 : gs_M), E 0 0 0 μ = some (r, μ2) → CALL yX12_atom cX12_atom 4 (some .int) (n0 + 10) [.ref 78] μ (some (.int r)) μ2) (hE1 : ∀ (μ : gs_M) (r : Int32) (μ2 : gs_M), E 1 0 0 μ = some (r, μ2) → CALL yX12_term cX12_term 5 (some .int) (n0 + 10) [.ref 78] μ (some (.int r)) μ2) (hE2 : ∀ (μ : gs_M) (r : Int32) (μ2 : gs_M), E 2 0 0 μ = some (r, μ2) → CALL yX12_sum cX12_sum 5 (some .int) (n0 + 10) [.ref 78] μ (some (.int r)) μ2) (hE3 : ∀ (y0 : Int32) (y1 : Int32) (μ : gs_M) (r : Int32) (μ2 : gs_M), E 3 y0 y1 μ = some (r, μ2) → CALL yX12_compares cX12_compares 6 (some .boolean) (n0 + 10) [.ref 78, .int y0, .int y1] μ (some (.int r)) μ2) (hE4 : ∀ (μ : gs_M) (r : Int32) (μ2 : gs_M), E 4 0 0 μ = some (r, μ2) → CALL yX12_unit cX12_unit 3 (some .boolean) (n0 + 10) [.ref 78] μ (some (.int r)) μ2) (hE5 : ∀ (y0 : Int32) (y1 : Int32) (μ : gs_M) (r : Int32) (μ2 : gs_M), E 5 y0 y1 μ = some (r, μ2) → CALL yX12_part cX12_part 5 (some .boolean) (n0 + 10) [.ref 78, .int y0, .int y1] μ (some (.int r)) μ2) (hE6 : ∀ (y0 : Int32) (y1 : Int32) (μ : gs_M) (r : Int32) (μ2 : gs_M), E 6 y0 y1 μ = some (r, μ2) → CALL yX12_condition cX12_condition 5 (some .boolean) (n0 + 10) [.ref 78, .int y0, .int y1] μ (some (.int r)) μ2) (hK : KC p R s m args meth c ad g tyc RX12 cX12_sum 5 (some .int) (n0 + 11)) {r : Int32} {μ2 : gs_M}   : ∀ (n : Nat) (x1 : Int32) (μ : gs_M), L_X12_sum_5 E  n x1 μ = some (r, μ2) → WJ p l e R s m args below meth c 0 0 (MQ below (gs_Q ad g tyc (some (.int r)) μ2) args s 0 0 (gs_A ad)) ad g tyc 5 5 [.ref 78, .int x1, gs_J, gs_J, gs_J] [] μ := by
  intro n
  induction n with
  | zero => intro x1 μ  hD; cases hD
  | succ n ih => intro x1 μ  hD; exact To_X12_sum_5 hE0 hE1 hE2 hE3 hE4 hE5 hE6 hK  ih  hD
set_option maxRecDepth 20000 in
theorem C_X12_sum {n0 : Nat} {E : Nat → Int32 → Int32 → gs_M → Option (Int32 × gs_M)} (hE0 : ∀ (μ : gs_M) (r : Int32) (μ2 : gs_M), E 0 0 0 μ = some (r, μ2) → CALL yX12_atom cX12_atom 4 (some .int) (n0 + 10) [.ref 78] μ (some (.int r)) μ2) (hE1 : ∀ (μ : gs_M) (r : Int32) (μ2 : gs_M), E 1 0 0 μ = some (r, μ2) → CALL yX12_term cX12_term 5 (some .int) (n0 + 10) [.ref 78] μ (some (.int r)) μ2) (hE2 : ∀ (μ : gs_M) (r : Int32) (μ2 : gs_M), E 2 0 0 μ = some (r, μ2) → CALL yX12_sum cX12_sum 5 (some .int) (n0 + 10) [.ref 78] μ (some (.int r)) μ2) (hE3 : ∀ (y0 : Int32) (y1 : Int32) (μ : gs_M) (r : Int32) (μ2 : gs_M), E 3 y0 y1 μ = some (r, μ2) → CALL yX12_compares cX12_compares 6 (some .boolean) (n0 + 10) [.ref 78, .int y0, .int y1] μ (some (.int r)) μ2) (hE4 : ∀ (μ : gs_M) (r : Int32) (μ2 : gs_M), E 4 0 0 μ = some (r, μ2) → CALL yX12_unit cX12_unit 3 (some .boolean) (n0 + 10) [.ref 78] μ (some (.int r)) μ2) (hE5 : ∀ (y0 : Int32) (y1 : Int32) (μ : gs_M) (r : Int32) (μ2 : gs_M), E 5 y0 y1 μ = some (r, μ2) → CALL yX12_part cX12_part 5 (some .boolean) (n0 + 10) [.ref 78, .int y0, .int y1] μ (some (.int r)) μ2) (hE6 : ∀ (y0 : Int32) (y1 : Int32) (μ : gs_M) (r : Int32) (μ2 : gs_M), E 6 y0 y1 μ = some (r, μ2) → CALL yX12_condition cX12_condition 5 (some .boolean) (n0 + 10) [.ref 78, .int y0, .int y1] μ (some (.int r)) μ2)  {μ : gs_M} {r : Int32} {μ2 : gs_M}  (hD : O_X12_sum E  μ = some (r, μ2)) : CALL yX12_sum cX12_sum 5 (some .int) (n0 + 11) [.ref 78] μ (some (.int r)) μ2 := by
  unfold O_X12_sum at hD
  refine gs_enter mf_X12_sum (Nat.le_of_ble_eq_true rfl) (ls := [.ref 78, gs_J, gs_J, gs_J, gs_J]) rfl (fun p l e R s m args below meth c ad g tyc hK => ?_)
  have hK : KC p R s m args meth c ad g tyc RX12 cX12_sum 5 (some .int) (n0 + 11) := hK
  refine r_aload_n hK d_X12_sum_0 rfl rfl ?_
  obtain ⟨v3, u2, e1, hD⟩ := bd_e hD
  refine r_callV (As := []) (st := []) (stk2 := [.int v3]) hK (hE1 _ _ _ e1) d_X12_sum_1 mf_X12_term ml_RX12_178 im_X12_term rfl se_11_RX12_X12_term kd_78 rfl (Nat.le_of_ble_eq_true rfl) (by omega) ⟨Nat.zero_le _, Nat.zero_le _⟩ rfl rfl ?_
  refine r_istore_n hK d_X12_sum_4 rfl (by decide) (ls2 := [.ref 78, .int v3, gs_J, gs_J, gs_J]) rfl ?_
  exact TL_X12_sum_5 hE0 hE1 hE2 hE3 hE4 hE5 hE6 hK  _ _ _  hD
end S_X12_sum
theorem d_X12_compares_0 : gd cX12_compares 0 (.iload_n 1) 1 1 := ⟨by decide +kernel, rfl⟩
theorem d_X12_compares_1 : gd cX12_compares 1 (.ifCond .eq 7) 3 4 := ⟨by decide +kernel, rfl⟩
theorem d_X12_compares_4 : gd cX12_compares 4 (.iload_n 2) 1 5 := ⟨by decide +kernel, rfl⟩
theorem d_X12_compares_5 : gd cX12_compares 5 (.goto 7) 3 8 := ⟨by decide +kernel, rfl⟩
theorem d_X12_compares_8 : gd cX12_compares 8 (.aload_n 0) 1 9 := ⟨by decide +kernel, rfl⟩
theorem d_X12_compares_9 : gd cX12_compares 9 (.invokevirtual 161) 3 12 := ⟨by decide +kernel, rfl⟩
theorem d_X12_compares_12 : gd cX12_compares 12 (.istore_n 3) 1 13 := ⟨by decide +kernel, rfl⟩
theorem d_X12_compares_13 : gd cX12_compares 13 (.aload_n 0) 1 14 := ⟨by decide +kernel, rfl⟩
theorem d_X12_compares_14 : gd cX12_compares 14 (.getfield 128) 3 17 := ⟨by decide +kernel, rfl⟩
theorem d_X12_compares_17 : gd cX12_compares 17 (.iconst (-1)) 1 18 := ⟨by decide +kernel, rfl⟩
theorem d_X12_compares_18 : gd cX12_compares 18 (.if_icmp .eq 5) 3 21 := ⟨by decide +kernel, rfl⟩
theorem d_X12_compares_21 : gd cX12_compares 21 (.iconst 0) 1 22 := ⟨by decide +kernel, rfl⟩
theorem d_X12_compares_22 : gd cX12_compares 22 .ireturn 1 23 := ⟨by decide +kernel, rfl⟩
theorem d_X12_compares_23 : gd cX12_compares 23 (.aload_n 0) 1 24 := ⟨by decide +kernel, rfl⟩
theorem d_X12_compares_24 : gd cX12_compares 24 (.invokevirtual 138) 3 27 := ⟨by decide +kernel, rfl⟩
theorem d_X12_compares_27 : gd cX12_compares 27 (.istore 4) 2 29 := ⟨by decide +kernel, rfl⟩
theorem d_X12_compares_29 : gd cX12_compares 29 (.iload 4) 2 31 := ⟨by decide +kernel, rfl⟩
theorem d_X12_compares_31 : gd cX12_compares 31 (.invokestatic 181) 3 34 := ⟨by decide +kernel, rfl⟩
theorem d_X12_compares_34 : gd cX12_compares 34 (.ifCond .ne 8) 3 37 := ⟨by decide +kernel, rfl⟩
theorem d_X12_compares_37 : gd cX12_compares 37 (.aload_n 0) 1 38 := ⟨by decide +kernel, rfl⟩
theorem d_X12_compares_38 : gd cX12_compares 38 (.invokevirtual 134) 3 41 := ⟨by decide +kernel, rfl⟩
theorem d_X12_compares_41 : gd cX12_compares 41 .ireturn 1 42 := ⟨by decide +kernel, rfl⟩
theorem d_X12_compares_42 : gd cX12_compares 42 (.aload_n 0) 1 43 := ⟨by decide +kernel, rfl⟩
theorem d_X12_compares_43 : gd cX12_compares 43 .dup 1 44 := ⟨by decide +kernel, rfl⟩
theorem d_X12_compares_44 : gd cX12_compares 44 (.getfield 119) 3 47 := ⟨by decide +kernel, rfl⟩
theorem d_X12_compares_47 : gd cX12_compares 47 (.iconst 1) 1 48 := ⟨by decide +kernel, rfl⟩
theorem d_X12_compares_48 : gd cX12_compares 48 .iadd 1 49 := ⟨by decide +kernel, rfl⟩
theorem d_X12_compares_49 : gd cX12_compares 49 (.putfield 119) 3 52 := ⟨by decide +kernel, rfl⟩
theorem d_X12_compares_52 : gd cX12_compares 52 (.aload_n 0) 1 53 := ⟨by decide +kernel, rfl⟩
theorem d_X12_compares_53 : gd cX12_compares 53 (.invokevirtual 161) 3 56 := ⟨by decide +kernel, rfl⟩
theorem d_X12_compares_56 : gd cX12_compares 56 (.istore 5) 2 58 := ⟨by decide +kernel, rfl⟩
theorem d_X12_compares_58 : gd cX12_compares 58 (.iload 4) 2 60 := ⟨by decide +kernel, rfl⟩
theorem d_X12_compares_60 : gd cX12_compares 60 (.bipush 61) 2 62 := ⟨by decide +kernel, rfl⟩
theorem d_X12_compares_62 : gd cX12_compares 62 (.if_icmp .ne 17) 3 65 := ⟨by decide +kernel, rfl⟩
theorem d_X12_compares_65 : gd cX12_compares 65 (.iload_n 3) 1 66 := ⟨by decide +kernel, rfl⟩
theorem d_X12_compares_66 : gd cX12_compares 66 (.iload 5) 2 68 := ⟨by decide +kernel, rfl⟩
theorem d_X12_compares_68 : gd cX12_compares 68 (.if_icmp .ne 7) 3 71 := ⟨by decide +kernel, rfl⟩
theorem d_X12_compares_71 : gd cX12_compares 71 (.iconst 1) 1 72 := ⟨by decide +kernel, rfl⟩
theorem d_X12_compares_72 : gd cX12_compares 72 (.goto 39) 3 75 := ⟨by decide +kernel, rfl⟩
theorem d_X12_compares_75 : gd cX12_compares 75 (.iconst 0) 1 76 := ⟨by decide +kernel, rfl⟩
theorem d_X12_compares_76 : gd cX12_compares 76 (.goto 35) 3 79 := ⟨by decide +kernel, rfl⟩
theorem d_X12_compares_79 : gd cX12_compares 79 (.iload 4) 2 81 := ⟨by decide +kernel, rfl⟩
theorem d_X12_compares_81 : gd cX12_compares 81 (.bipush 60) 2 83 := ⟨by decide +kernel, rfl⟩
theorem d_X12_compares_83 : gd cX12_compares 83 (.if_icmp .ne 17) 3 86 := ⟨by decide +kernel, rfl⟩
theorem d_X12_compares_86 : gd cX12_compares 86 (.iload_n 3) 1 87 := ⟨by decide +kernel, rfl⟩
theorem d_X12_compares_87 : gd cX12_compares 87 (.iload 5) 2 89 := ⟨by decide +kernel, rfl⟩
theorem d_X12_compares_89 : gd cX12_compares 89 (.if_icmp .ge 7) 3 92 := ⟨by decide +kernel, rfl⟩
theorem d_X12_compares_92 : gd cX12_compares 92 (.iconst 1) 1 93 := ⟨by decide +kernel, rfl⟩
theorem d_X12_compares_93 : gd cX12_compares 93 (.goto 18) 3 96 := ⟨by decide +kernel, rfl⟩
theorem d_X12_compares_96 : gd cX12_compares 96 (.iconst 0) 1 97 := ⟨by decide +kernel, rfl⟩
theorem d_X12_compares_97 : gd cX12_compares 97 (.goto 14) 3 100 := ⟨by decide +kernel, rfl⟩
theorem d_X12_compares_100 : gd cX12_compares 100 (.iload_n 3) 1 101 := ⟨by decide +kernel, rfl⟩
theorem d_X12_compares_101 : gd cX12_compares 101 (.iload 5) 2 103 := ⟨by decide +kernel, rfl⟩
theorem d_X12_compares_103 : gd cX12_compares 103 (.if_icmp .le 7) 3 106 := ⟨by decide +kernel, rfl⟩
theorem d_X12_compares_106 : gd cX12_compares 106 (.iconst 1) 1 107 := ⟨by decide +kernel, rfl⟩
theorem d_X12_compares_107 : gd cX12_compares 107 (.goto 4) 3 110 := ⟨by decide +kernel, rfl⟩
theorem d_X12_compares_110 : gd cX12_compares 110 (.iconst 0) 1 111 := ⟨by decide +kernel, rfl⟩
theorem d_X12_compares_111 : gd cX12_compares 111 .ireturn 1 112 := ⟨by decide +kernel, rfl⟩
def B_X12_compares_12 (E : Nat → Int32 → Int32 → gs_M → Option (Int32 × gs_M))  (xs0 : Int32) (μ : gs_M) : Option (Int32 × gs_M) :=
  if (gI μ 78 11) = (-1 : Int32) then (bd (D_X12_look μ) (fun v4 u3 => bd (D_X12_isSign v4 u3) (fun v7 u6 => if v7 = 0 then (bd (D_X12_fails u6) (fun v20 u19 => ck (zb v20) (some (v20, u19)))) else (lt1 (sI u6 78 10 ((gI u6 78 10) + (1 : Int32))) (fun u9 => bd (E 2 0 0 u9) (fun v12 u11 => if v4 = (61 : Int32) then (if xs0 = v12 then (some ((1 : Int32), u11)) else (some ((0 : Int32), u11))) else (if v4 = (60 : Int32) then (if v12 ≤ xs0 then (some ((0 : Int32), u11)) else (some ((1 : Int32), u11))) else (if xs0 ≤ v12 then (some ((0 : Int32), u11)) else (some ((1 : Int32), u11)))))))))) else (some ((0 : Int32), μ))
def O_X12_compares (E : Nat → Int32 → Int32 → gs_M → Option (Int32 × gs_M)) (x1 : Int32) (x2 : Int32) (μ : gs_M) : Option (Int32 × gs_M) :=
  if x1 = 0 then (bd (E 2 0 0 μ) (fun v4 u3 => B_X12_compares_12 E v4 u3)) else (B_X12_compares_12 E x2 μ)
section S_X12_compares
variable {p : Program} {l : Launch} {e : Env} {R : Room} {s : State} {m : MethodId} {args : Array Value} {below : List Frame} {meth : Method} {c : Code} {ad : Nat → Nat} {g : va_G} {tyc : Nat → ClassId}
set_option maxRecDepth 20000 in
theorem T_X12_compares_12 {n0 : Nat} {E : Nat → Int32 → Int32 → gs_M → Option (Int32 × gs_M)} (hE0 : ∀ (μ : gs_M) (r : Int32) (μ2 : gs_M), E 0 0 0 μ = some (r, μ2) → CALL yX12_atom cX12_atom 4 (some .int) (n0 + 10) [.ref 78] μ (some (.int r)) μ2) (hE1 : ∀ (μ : gs_M) (r : Int32) (μ2 : gs_M), E 1 0 0 μ = some (r, μ2) → CALL yX12_term cX12_term 5 (some .int) (n0 + 10) [.ref 78] μ (some (.int r)) μ2) (hE2 : ∀ (μ : gs_M) (r : Int32) (μ2 : gs_M), E 2 0 0 μ = some (r, μ2) → CALL yX12_sum cX12_sum 5 (some .int) (n0 + 10) [.ref 78] μ (some (.int r)) μ2) (hE3 : ∀ (y0 : Int32) (y1 : Int32) (μ : gs_M) (r : Int32) (μ2 : gs_M), E 3 y0 y1 μ = some (r, μ2) → CALL yX12_compares cX12_compares 6 (some .boolean) (n0 + 10) [.ref 78, .int y0, .int y1] μ (some (.int r)) μ2) (hE4 : ∀ (μ : gs_M) (r : Int32) (μ2 : gs_M), E 4 0 0 μ = some (r, μ2) → CALL yX12_unit cX12_unit 3 (some .boolean) (n0 + 10) [.ref 78] μ (some (.int r)) μ2) (hE5 : ∀ (y0 : Int32) (y1 : Int32) (μ : gs_M) (r : Int32) (μ2 : gs_M), E 5 y0 y1 μ = some (r, μ2) → CALL yX12_part cX12_part 5 (some .boolean) (n0 + 10) [.ref 78, .int y0, .int y1] μ (some (.int r)) μ2) (hE6 : ∀ (y0 : Int32) (y1 : Int32) (μ : gs_M) (r : Int32) (μ2 : gs_M), E 6 y0 y1 μ = some (r, μ2) → CALL yX12_condition cX12_condition 5 (some .boolean) (n0 + 10) [.ref 78, .int y0, .int y1] μ (some (.int r)) μ2) (hK : KC p R s m args meth c ad g tyc RX12 cX12_compares 6 (some .boolean) (n0 + 11)) {r : Int32} {μ2 : gs_M}   {xs0 : Int32} {μ : gs_M}  (hD : B_X12_compares_12 E  xs0 μ = some (r, μ2)) : WJ p l e R s m args below meth c 0 0 (MQ below (gs_Q ad g tyc (some (.int r)) μ2) args s 0 0 (gs_A ad)) ad g tyc 6 12 [.ref 78, gs_J, gs_J, gs_J, gs_J, gs_J] [.int xs0] μ := by
  unfold B_X12_compares_12 at hD
  refine r_istore_n hK d_X12_compares_12 rfl (by decide) (ls2 := [.ref 78, gs_J, gs_J, .int xs0, gs_J, gs_J]) rfl ?_
  refine r_aload_n hK d_X12_compares_13 rfl rfl ?_
  refine r_getI hK d_X12_compares_14 fl_RX12_128_11 rfl kd_78 ?_
  refine r_iconst hK d_X12_compares_17 ci_m1 ?_
  refine r_icmp_eq (tgt := 23) hK d_X12_compares_18 (by decide) (fun h1 => ?_) (fun h1 => ?_)
  · have hD := if_t hD h1
    refine r_aload_n hK d_X12_compares_23 rfl rfl ?_
    obtain ⟨v4, u3, e2, hD⟩ := bd_e hD
    refine r_callV (As := []) (st := []) (stk2 := [.int v4]) hK (C_X12_look  e2) d_X12_compares_24 mf_X12_look ml_RX12_138 im_X12_look rfl se_11_RX12_X12_look kd_78 rfl (Nat.le_of_ble_eq_true rfl) (by omega) ⟨Nat.zero_le _, Nat.zero_le _⟩ rfl rfl ?_
    refine r_istore hK d_X12_compares_27 (by decide) (ls2 := [.ref 78, gs_J, gs_J, .int xs0, .int v4, gs_J]) rfl ?_
    refine r_iload hK d_X12_compares_29 rfl ?_
    obtain ⟨v7, u6, e5, hD⟩ := bd_e hD
    refine r_callS (As := [.int v4]) (st := []) (stk2 := [.int v7]) hK (C_X12_isSign  e5) d_X12_compares_31 mf_X12_isSign ml_RX12_181 ss_X12_isSign rfl (Nat.le_of_ble_eq_true rfl) (by omega) ⟨Nat.zero_le _, Nat.zero_le _⟩ rfl rfl ?_
    refine r_if_ne (tgt := 42) hK d_X12_compares_34 (by decide) (fun h8 => ?_) (fun h8 => ?_)
    · have hD := if_f hD h8
      refine r_aload_n hK d_X12_compares_42 rfl rfl ?_
      refine r_dup hK d_X12_compares_43 rfl ?_
      refine r_getI hK d_X12_compares_44 fl_RX12_119_11 rfl kd_78 ?_
      refine r_iconst hK d_X12_compares_47 ci_1 ?_
      refine r_iadd hK d_X12_compares_48 ?_
      refine r_putI hK d_X12_compares_49 fl_RX12_119_11 rfl rfl kd_78 ?_
      refine r_ltm hD (fun u9 hD => ?_)
      refine r_aload_n hK d_X12_compares_52 rfl rfl ?_
      obtain ⟨v12, u11, e10, hD⟩ := bd_e hD
      refine r_callV (As := []) (st := []) (stk2 := [.int v12]) hK (hE2 _ _ _ e10) d_X12_compares_53 mf_X12_sum ml_RX12_161 im_X12_sum rfl se_11_RX12_X12_sum kd_78 rfl (Nat.le_of_ble_eq_true rfl) (by omega) ⟨Nat.zero_le _, Nat.zero_le _⟩ rfl rfl ?_
      refine r_istore hK d_X12_compares_56 (by decide) (ls2 := [.ref 78, gs_J, gs_J, .int xs0, .int v4, .int v12]) rfl ?_
      refine r_iload hK d_X12_compares_58 rfl ?_
      refine r_bipush hK d_X12_compares_60 cb_61 ?_
      refine r_icmp_ne (tgt := 79) hK d_X12_compares_62 (by decide) (fun h13 => ?_) (fun h13 => ?_)
      · have hD := if_f hD h13
        refine r_iload hK d_X12_compares_79 rfl ?_
        refine r_bipush hK d_X12_compares_81 cb_60 ?_
        refine r_icmp_ne (tgt := 100) hK d_X12_compares_83 (by decide) (fun h14 => ?_) (fun h14 => ?_)
        · have hD := if_f hD h14
          refine r_iload_n hK d_X12_compares_100 rfl rfl ?_
          refine r_iload hK d_X12_compares_101 rfl ?_
          refine r_icmp_le (tgt := 110) hK d_X12_compares_103 (by decide) (fun h15 => ?_) (fun h15 => ?_)
          · have hD := if_t hD h15
            refine r_iconst hK d_X12_compares_110 ci_0 ?_
            cases hD
            exact r_zret hK (Or.inl rfl) d_X12_compares_111
          · have hD := if_f hD h15
            refine r_iconst hK d_X12_compares_106 ci_1 ?_
            refine r_goto (tgt := 111) hK d_X12_compares_107 (by decide) ?_
            cases hD
            exact r_zret hK (Or.inr rfl) d_X12_compares_111
        · have hD := if_t hD h14
          refine r_iload_n hK d_X12_compares_86 rfl rfl ?_
          refine r_iload hK d_X12_compares_87 rfl ?_
          refine r_icmp_ge (tgt := 96) hK d_X12_compares_89 (by decide) (fun h16 => ?_) (fun h16 => ?_)
          · have hD := if_t hD h16
            refine r_iconst hK d_X12_compares_96 ci_0 ?_
            refine r_goto (tgt := 111) hK d_X12_compares_97 (by decide) ?_
            cases hD
            exact r_zret hK (Or.inl rfl) d_X12_compares_111
          · have hD := if_f hD h16
            refine r_iconst hK d_X12_compares_92 ci_1 ?_
            refine r_goto (tgt := 111) hK d_X12_compares_93 (by decide) ?_
            cases hD
            exact r_zret hK (Or.inr rfl) d_X12_compares_111
      · have hD := if_t hD h13
        refine r_iload_n hK d_X12_compares_65 rfl rfl ?_
        refine r_iload hK d_X12_compares_66 rfl ?_
        refine r_icmp_ne (tgt := 75) hK d_X12_compares_68 (by decide) (fun h17 => ?_) (fun h17 => ?_)
        · have hD := if_f hD h17
          refine r_iconst hK d_X12_compares_75 ci_0 ?_
          refine r_goto (tgt := 111) hK d_X12_compares_76 (by decide) ?_
          cases hD
          exact r_zret hK (Or.inl rfl) d_X12_compares_111
        · have hD := if_t hD h17
          refine r_iconst hK d_X12_compares_71 ci_1 ?_
          refine r_goto (tgt := 111) hK d_X12_compares_72 (by decide) ?_
          cases hD
          exact r_zret hK (Or.inr rfl) d_X12_compares_111
    · have hD := if_t hD h8
      refine r_aload_n hK d_X12_compares_37 rfl rfl ?_
      obtain ⟨v20, u19, e18, hD⟩ := bd_e hD
      refine r_callV (As := []) (st := []) (stk2 := [.int v20]) hK (C_X12_fails  e18) d_X12_compares_38 mf_X12_fails ml_RX12_134 im_X12_fails rfl se_11_RX12_X12_fails kd_78 rfl (Nat.le_of_ble_eq_true rfl) (by omega) ⟨Nat.zero_le _, Nat.zero_le _⟩ rfl rfl ?_
      obtain ⟨h21, hD⟩ := ck_e hD
      cases hD
      exact r_zret hK (zb_e h21) d_X12_compares_41
  · have hD := if_f hD h1
    refine r_iconst hK d_X12_compares_21 ci_0 ?_
    cases hD
    exact r_zret hK (Or.inl rfl) d_X12_compares_22
set_option maxRecDepth 20000 in
theorem C_X12_compares {n0 : Nat} {E : Nat → Int32 → Int32 → gs_M → Option (Int32 × gs_M)} (hE0 : ∀ (μ : gs_M) (r : Int32) (μ2 : gs_M), E 0 0 0 μ = some (r, μ2) → CALL yX12_atom cX12_atom 4 (some .int) (n0 + 10) [.ref 78] μ (some (.int r)) μ2) (hE1 : ∀ (μ : gs_M) (r : Int32) (μ2 : gs_M), E 1 0 0 μ = some (r, μ2) → CALL yX12_term cX12_term 5 (some .int) (n0 + 10) [.ref 78] μ (some (.int r)) μ2) (hE2 : ∀ (μ : gs_M) (r : Int32) (μ2 : gs_M), E 2 0 0 μ = some (r, μ2) → CALL yX12_sum cX12_sum 5 (some .int) (n0 + 10) [.ref 78] μ (some (.int r)) μ2) (hE3 : ∀ (y0 : Int32) (y1 : Int32) (μ : gs_M) (r : Int32) (μ2 : gs_M), E 3 y0 y1 μ = some (r, μ2) → CALL yX12_compares cX12_compares 6 (some .boolean) (n0 + 10) [.ref 78, .int y0, .int y1] μ (some (.int r)) μ2) (hE4 : ∀ (μ : gs_M) (r : Int32) (μ2 : gs_M), E 4 0 0 μ = some (r, μ2) → CALL yX12_unit cX12_unit 3 (some .boolean) (n0 + 10) [.ref 78] μ (some (.int r)) μ2) (hE5 : ∀ (y0 : Int32) (y1 : Int32) (μ : gs_M) (r : Int32) (μ2 : gs_M), E 5 y0 y1 μ = some (r, μ2) → CALL yX12_part cX12_part 5 (some .boolean) (n0 + 10) [.ref 78, .int y0, .int y1] μ (some (.int r)) μ2) (hE6 : ∀ (y0 : Int32) (y1 : Int32) (μ : gs_M) (r : Int32) (μ2 : gs_M), E 6 y0 y1 μ = some (r, μ2) → CALL yX12_condition cX12_condition 5 (some .boolean) (n0 + 10) [.ref 78, .int y0, .int y1] μ (some (.int r)) μ2) {x1 : Int32} {x2 : Int32} {μ : gs_M} {r : Int32} {μ2 : gs_M}  (hD : O_X12_compares E x1 x2 μ = some (r, μ2)) : CALL yX12_compares cX12_compares 6 (some .boolean) (n0 + 11) [.ref 78, .int x1, .int x2] μ (some (.int r)) μ2 := by
  unfold O_X12_compares at hD
  refine gs_enter mf_X12_compares (Nat.le_of_ble_eq_true rfl) (ls := [.ref 78, .int x1, .int x2, gs_J, gs_J, gs_J]) rfl (fun p l e R s m args below meth c ad g tyc hK => ?_)
  have hK : KC p R s m args meth c ad g tyc RX12 cX12_compares 6 (some .boolean) (n0 + 11) := hK
  refine r_iload_n hK d_X12_compares_0 rfl rfl ?_
  refine r_if_eq (tgt := 8) hK d_X12_compares_1 (by decide) (fun h1 => ?_) (fun h1 => ?_)
  · have hD := if_t hD h1
    refine r_aload_n hK d_X12_compares_8 rfl rfl ?_
    obtain ⟨v4, u3, e2, hD⟩ := bd_e hD
    refine r_callV (As := []) (st := []) (stk2 := [.int v4]) hK (hE2 _ _ _ e2) d_X12_compares_9 mf_X12_sum ml_RX12_161 im_X12_sum rfl se_11_RX12_X12_sum kd_78 rfl (Nat.le_of_ble_eq_true rfl) (by omega) ⟨Nat.zero_le _, Nat.zero_le _⟩ rfl rfl ?_
    refine r_junk [true, false, false, false, false, false] (ls2 := [.ref 78, gs_J, gs_J, gs_J, gs_J, gs_J]) rfl ?_
    exact T_X12_compares_12 hE0 hE1 hE2 hE3 hE4 hE5 hE6 hK   hD
  · have hD := if_f hD h1
    refine r_iload_n hK d_X12_compares_4 rfl rfl ?_
    refine r_goto (tgt := 12) hK d_X12_compares_5 (by decide) ?_
    refine r_junk [true, false, false, false, false, false] (ls2 := [.ref 78, gs_J, gs_J, gs_J, gs_J, gs_J]) rfl ?_
    exact T_X12_compares_12 hE0 hE1 hE2 hE3 hE4 hE5 hE6 hK   hD
end S_X12_compares
theorem d_X12_unit_0 : gd cX12_unit 0 (.aload_n 0) 1 1 := ⟨by decide +kernel, rfl⟩
theorem d_X12_unit_1 : gd cX12_unit 1 (.invokevirtual 138) 3 4 := ⟨by decide +kernel, rfl⟩
theorem d_X12_unit_4 : gd cX12_unit 4 (.istore_n 1) 1 5 := ⟨by decide +kernel, rfl⟩
theorem d_X12_unit_5 : gd cX12_unit 5 (.iload_n 1) 1 6 := ⟨by decide +kernel, rfl⟩
theorem d_X12_unit_6 : gd cX12_unit 6 (.bipush 33) 2 8 := ⟨by decide +kernel, rfl⟩
theorem d_X12_unit_8 : gd cX12_unit 8 (.if_icmp .ne 37) 3 11 := ⟨by decide +kernel, rfl⟩
theorem d_X12_unit_11 : gd cX12_unit 11 (.aload_n 0) 1 12 := ⟨by decide +kernel, rfl⟩
theorem d_X12_unit_12 : gd cX12_unit 12 (.invokevirtual 158) 3 15 := ⟨by decide +kernel, rfl⟩
theorem d_X12_unit_15 : gd cX12_unit 15 (.ifCond .ne 5) 3 18 := ⟨by decide +kernel, rfl⟩
theorem d_X12_unit_18 : gd cX12_unit 18 (.iconst 0) 1 19 := ⟨by decide +kernel, rfl⟩
theorem d_X12_unit_19 : gd cX12_unit 19 .ireturn 1 20 := ⟨by decide +kernel, rfl⟩
theorem d_X12_unit_20 : gd cX12_unit 20 (.aload_n 0) 1 21 := ⟨by decide +kernel, rfl⟩
theorem d_X12_unit_21 : gd cX12_unit 21 (.invokevirtual 184) 3 24 := ⟨by decide +kernel, rfl⟩
theorem d_X12_unit_24 : gd cX12_unit 24 (.istore_n 2) 1 25 := ⟨by decide +kernel, rfl⟩
theorem d_X12_unit_25 : gd cX12_unit 25 (.aload_n 0) 1 26 := ⟨by decide +kernel, rfl⟩
theorem d_X12_unit_26 : gd cX12_unit 26 .dup 1 27 := ⟨by decide +kernel, rfl⟩
theorem d_X12_unit_27 : gd cX12_unit 27 (.getfield 131) 3 30 := ⟨by decide +kernel, rfl⟩
theorem d_X12_unit_30 : gd cX12_unit 30 (.iconst 1) 1 31 := ⟨by decide +kernel, rfl⟩
theorem d_X12_unit_31 : gd cX12_unit 31 .isub 1 32 := ⟨by decide +kernel, rfl⟩
theorem d_X12_unit_32 : gd cX12_unit 32 (.putfield 131) 3 35 := ⟨by decide +kernel, rfl⟩
theorem d_X12_unit_35 : gd cX12_unit 35 (.iload_n 2) 1 36 := ⟨by decide +kernel, rfl⟩
theorem d_X12_unit_36 : gd cX12_unit 36 (.ifCond .ne 7) 3 39 := ⟨by decide +kernel, rfl⟩
theorem d_X12_unit_39 : gd cX12_unit 39 (.iconst 1) 1 40 := ⟨by decide +kernel, rfl⟩
theorem d_X12_unit_40 : gd cX12_unit 40 (.goto 4) 3 43 := ⟨by decide +kernel, rfl⟩
theorem d_X12_unit_43 : gd cX12_unit 43 (.iconst 0) 1 44 := ⟨by decide +kernel, rfl⟩
theorem d_X12_unit_44 : gd cX12_unit 44 .ireturn 1 45 := ⟨by decide +kernel, rfl⟩
theorem d_X12_unit_45 : gd cX12_unit 45 (.iload_n 1) 1 46 := ⟨by decide +kernel, rfl⟩
theorem d_X12_unit_46 : gd cX12_unit 46 (.bipush 40) 2 48 := ⟨by decide +kernel, rfl⟩
theorem d_X12_unit_48 : gd cX12_unit 48 (.if_icmp .ne 42) 3 51 := ⟨by decide +kernel, rfl⟩
theorem d_X12_unit_51 : gd cX12_unit 51 (.aload_n 0) 1 52 := ⟨by decide +kernel, rfl⟩
theorem d_X12_unit_52 : gd cX12_unit 52 (.invokevirtual 158) 3 55 := ⟨by decide +kernel, rfl⟩
theorem d_X12_unit_55 : gd cX12_unit 55 (.ifCond .ne 5) 3 58 := ⟨by decide +kernel, rfl⟩
theorem d_X12_unit_58 : gd cX12_unit 58 (.iconst 0) 1 59 := ⟨by decide +kernel, rfl⟩
theorem d_X12_unit_59 : gd cX12_unit 59 .ireturn 1 60 := ⟨by decide +kernel, rfl⟩
theorem d_X12_unit_60 : gd cX12_unit 60 (.aload_n 0) 1 61 := ⟨by decide +kernel, rfl⟩
theorem d_X12_unit_61 : gd cX12_unit 61 (.iconst 0) 1 62 := ⟨by decide +kernel, rfl⟩
theorem d_X12_unit_62 : gd cX12_unit 62 (.iconst 0) 1 63 := ⟨by decide +kernel, rfl⟩
theorem d_X12_unit_63 : gd cX12_unit 63 (.invokevirtual 187) 3 66 := ⟨by decide +kernel, rfl⟩
theorem d_X12_unit_66 : gd cX12_unit 66 (.istore_n 2) 1 67 := ⟨by decide +kernel, rfl⟩
theorem d_X12_unit_67 : gd cX12_unit 67 (.aload_n 0) 1 68 := ⟨by decide +kernel, rfl⟩
theorem d_X12_unit_68 : gd cX12_unit 68 (.bipush 41) 2 70 := ⟨by decide +kernel, rfl⟩
theorem d_X12_unit_70 : gd cX12_unit 70 (.invokevirtual 164) 3 73 := ⟨by decide +kernel, rfl⟩
theorem d_X12_unit_73 : gd cX12_unit 73 (.ifCond .ne 5) 3 76 := ⟨by decide +kernel, rfl⟩
theorem d_X12_unit_76 : gd cX12_unit 76 (.iconst 0) 1 77 := ⟨by decide +kernel, rfl⟩
theorem d_X12_unit_77 : gd cX12_unit 77 .ireturn 1 78 := ⟨by decide +kernel, rfl⟩
theorem d_X12_unit_78 : gd cX12_unit 78 (.aload_n 0) 1 79 := ⟨by decide +kernel, rfl⟩
theorem d_X12_unit_79 : gd cX12_unit 79 .dup 1 80 := ⟨by decide +kernel, rfl⟩
theorem d_X12_unit_80 : gd cX12_unit 80 (.getfield 131) 3 83 := ⟨by decide +kernel, rfl⟩
theorem d_X12_unit_83 : gd cX12_unit 83 (.iconst 1) 1 84 := ⟨by decide +kernel, rfl⟩
theorem d_X12_unit_84 : gd cX12_unit 84 .isub 1 85 := ⟨by decide +kernel, rfl⟩
theorem d_X12_unit_85 : gd cX12_unit 85 (.putfield 131) 3 88 := ⟨by decide +kernel, rfl⟩
theorem d_X12_unit_88 : gd cX12_unit 88 (.iload_n 2) 1 89 := ⟨by decide +kernel, rfl⟩
theorem d_X12_unit_89 : gd cX12_unit 89 .ireturn 1 90 := ⟨by decide +kernel, rfl⟩
theorem d_X12_unit_90 : gd cX12_unit 90 (.aload_n 0) 1 91 := ⟨by decide +kernel, rfl⟩
theorem d_X12_unit_91 : gd cX12_unit 91 (.iconst 0) 1 92 := ⟨by decide +kernel, rfl⟩
theorem d_X12_unit_92 : gd cX12_unit 92 (.iconst 0) 1 93 := ⟨by decide +kernel, rfl⟩
theorem d_X12_unit_93 : gd cX12_unit 93 (.invokevirtual 191) 3 96 := ⟨by decide +kernel, rfl⟩
theorem d_X12_unit_96 : gd cX12_unit 96 .ireturn 1 97 := ⟨by decide +kernel, rfl⟩
def O_X12_unit (E : Nat → Int32 → Int32 → gs_M → Option (Int32 × gs_M))  (μ : gs_M) : Option (Int32 × gs_M) :=
  bd (D_X12_look μ) (fun v3 u2 => if v3 = (33 : Int32) then (bd (D_X12_goesIn u2) (fun v25 u24 => if v25 = 0 then (some ((0 : Int32), u24)) else (bd (E 4 0 0 u24) (fun v29 u28 => lt1 (sI u28 78 12 ((gI u28 78 12) - (1 : Int32))) (fun u30 => if v29 = 0 then (some ((1 : Int32), u30)) else (some ((0 : Int32), u30))))))) else (if v3 = (40 : Int32) then (bd (D_X12_goesIn u2) (fun v12 u11 => if v12 = 0 then (some ((0 : Int32), u11)) else (bd (E 6 (0 : Int32) (0 : Int32) u11) (fun v16 u15 => bd (D_X12_takes (41 : Int32) u15) (fun v19 u18 => if v19 = 0 then (some ((0 : Int32), u18)) else (lt1 (sI u18 78 12 ((gI u18 78 12) - (1 : Int32))) (fun u21 => ck (zb v16) (some (v16, u21))))))))) else (bd (E 3 (0 : Int32) (0 : Int32) u2) (fun v8 u7 => ck (zb v8) (some (v8, u7))))))
section S_X12_unit
variable {p : Program} {l : Launch} {e : Env} {R : Room} {s : State} {m : MethodId} {args : Array Value} {below : List Frame} {meth : Method} {c : Code} {ad : Nat → Nat} {g : va_G} {tyc : Nat → ClassId}
set_option maxRecDepth 20000 in
theorem C_X12_unit {n0 : Nat} {E : Nat → Int32 → Int32 → gs_M → Option (Int32 × gs_M)} (hE0 : ∀ (μ : gs_M) (r : Int32) (μ2 : gs_M), E 0 0 0 μ = some (r, μ2) → CALL yX12_atom cX12_atom 4 (some .int) (n0 + 10) [.ref 78] μ (some (.int r)) μ2) (hE1 : ∀ (μ : gs_M) (r : Int32) (μ2 : gs_M), E 1 0 0 μ = some (r, μ2) → CALL yX12_term cX12_term 5 (some .int) (n0 + 10) [.ref 78] μ (some (.int r)) μ2) (hE2 : ∀ (μ : gs_M) (r : Int32) (μ2 : gs_M), E 2 0 0 μ = some (r, μ2) → CALL yX12_sum cX12_sum 5 (some .int) (n0 + 10) [.ref 78] μ (some (.int r)) μ2) (hE3 : ∀ (y0 : Int32) (y1 : Int32) (μ : gs_M) (r : Int32) (μ2 : gs_M), E 3 y0 y1 μ = some (r, μ2) → CALL yX12_compares cX12_compares 6 (some .boolean) (n0 + 10) [.ref 78, .int y0, .int y1] μ (some (.int r)) μ2) (hE4 : ∀ (μ : gs_M) (r : Int32) (μ2 : gs_M), E 4 0 0 μ = some (r, μ2) → CALL yX12_unit cX12_unit 3 (some .boolean) (n0 + 10) [.ref 78] μ (some (.int r)) μ2) (hE5 : ∀ (y0 : Int32) (y1 : Int32) (μ : gs_M) (r : Int32) (μ2 : gs_M), E 5 y0 y1 μ = some (r, μ2) → CALL yX12_part cX12_part 5 (some .boolean) (n0 + 10) [.ref 78, .int y0, .int y1] μ (some (.int r)) μ2) (hE6 : ∀ (y0 : Int32) (y1 : Int32) (μ : gs_M) (r : Int32) (μ2 : gs_M), E 6 y0 y1 μ = some (r, μ2) → CALL yX12_condition cX12_condition 5 (some .boolean) (n0 + 10) [.ref 78, .int y0, .int y1] μ (some (.int r)) μ2)  {μ : gs_M} {r : Int32} {μ2 : gs_M}  (hD : O_X12_unit E  μ = some (r, μ2)) : CALL yX12_unit cX12_unit 3 (some .boolean) (n0 + 11) [.ref 78] μ (some (.int r)) μ2 := by
  unfold O_X12_unit at hD
  refine gs_enter mf_X12_unit (Nat.le_of_ble_eq_true rfl) (ls := [.ref 78, gs_J, gs_J]) rfl (fun p l e R s m args below meth c ad g tyc hK => ?_)
  have hK : KC p R s m args meth c ad g tyc RX12 cX12_unit 3 (some .boolean) (n0 + 11) := hK
  refine r_aload_n hK d_X12_unit_0 rfl rfl ?_
  obtain ⟨v3, u2, e1, hD⟩ := bd_e hD
  refine r_callV (As := []) (st := []) (stk2 := [.int v3]) hK (C_X12_look  e1) d_X12_unit_1 mf_X12_look ml_RX12_138 im_X12_look rfl se_11_RX12_X12_look kd_78 rfl (Nat.le_of_ble_eq_true rfl) (by omega) ⟨Nat.zero_le _, Nat.zero_le _⟩ rfl rfl ?_
  refine r_istore_n hK d_X12_unit_4 rfl (by decide) (ls2 := [.ref 78, .int v3, gs_J]) rfl ?_
  refine r_iload_n hK d_X12_unit_5 rfl rfl ?_
  refine r_bipush hK d_X12_unit_6 cb_33 ?_
  refine r_icmp_ne (tgt := 45) hK d_X12_unit_8 (by decide) (fun h4 => ?_) (fun h4 => ?_)
  · have hD := if_f hD h4
    refine r_iload_n hK d_X12_unit_45 rfl rfl ?_
    refine r_bipush hK d_X12_unit_46 cb_40 ?_
    refine r_icmp_ne (tgt := 90) hK d_X12_unit_48 (by decide) (fun h5 => ?_) (fun h5 => ?_)
    · have hD := if_f hD h5
      refine r_aload_n hK d_X12_unit_90 rfl rfl ?_
      refine r_iconst hK d_X12_unit_91 ci_0 ?_
      refine r_iconst hK d_X12_unit_92 ci_0 ?_
      obtain ⟨v8, u7, e6, hD⟩ := bd_e hD
      refine r_callV (As := [.int (0 : Int32), .int (0 : Int32)]) (st := []) (stk2 := [.int v8]) hK (hE3 _ _ _ _ _ e6) d_X12_unit_93 mf_X12_compares ml_RX12_191 im_X12_compares rfl se_11_RX12_X12_compares kd_78 rfl (Nat.le_of_ble_eq_true rfl) (by omega) ⟨Nat.zero_le _, Nat.zero_le _⟩ rfl rfl ?_
      obtain ⟨h9, hD⟩ := ck_e hD
      cases hD
      exact r_zret hK (zb_e h9) d_X12_unit_96
    · have hD := if_t hD h5
      refine r_aload_n hK d_X12_unit_51 rfl rfl ?_
      obtain ⟨v12, u11, e10, hD⟩ := bd_e hD
      refine r_callV (As := []) (st := []) (stk2 := [.int v12]) hK (C_X12_goesIn  e10) d_X12_unit_52 mf_X12_goesIn ml_RX12_158 im_X12_goesIn rfl se_11_RX12_X12_goesIn kd_78 rfl (Nat.le_of_ble_eq_true rfl) (by omega) ⟨Nat.zero_le _, Nat.zero_le _⟩ rfl rfl ?_
      refine r_if_ne (tgt := 60) hK d_X12_unit_55 (by decide) (fun h13 => ?_) (fun h13 => ?_)
      · have hD := if_f hD h13
        refine r_aload_n hK d_X12_unit_60 rfl rfl ?_
        refine r_iconst hK d_X12_unit_61 ci_0 ?_
        refine r_iconst hK d_X12_unit_62 ci_0 ?_
        obtain ⟨v16, u15, e14, hD⟩ := bd_e hD
        refine r_callV (As := [.int (0 : Int32), .int (0 : Int32)]) (st := []) (stk2 := [.int v16]) hK (hE6 _ _ _ _ _ e14) d_X12_unit_63 mf_X12_condition ml_RX12_187 im_X12_condition rfl se_11_RX12_X12_condition kd_78 rfl (Nat.le_of_ble_eq_true rfl) (by omega) ⟨Nat.zero_le _, Nat.zero_le _⟩ rfl rfl ?_
        refine r_istore_n hK d_X12_unit_66 rfl (by decide) (ls2 := [.ref 78, .int v3, .int v16]) rfl ?_
        refine r_aload_n hK d_X12_unit_67 rfl rfl ?_
        refine r_bipush hK d_X12_unit_68 cb_41 ?_
        obtain ⟨v19, u18, e17, hD⟩ := bd_e hD
        refine r_callV (As := [.int (41 : Int32)]) (st := []) (stk2 := [.int v19]) hK (C_X12_takes  e17) d_X12_unit_70 mf_X12_takes ml_RX12_164 im_X12_takes rfl se_11_RX12_X12_takes kd_78 rfl (Nat.le_of_ble_eq_true rfl) (by omega) ⟨Nat.zero_le _, Nat.zero_le _⟩ rfl rfl ?_
        refine r_if_ne (tgt := 78) hK d_X12_unit_73 (by decide) (fun h20 => ?_) (fun h20 => ?_)
        · have hD := if_f hD h20
          refine r_aload_n hK d_X12_unit_78 rfl rfl ?_
          refine r_dup hK d_X12_unit_79 rfl ?_
          refine r_getI hK d_X12_unit_80 fl_RX12_131_11 rfl kd_78 ?_
          refine r_iconst hK d_X12_unit_83 ci_1 ?_
          refine r_isub hK d_X12_unit_84 ?_
          refine r_putI hK d_X12_unit_85 fl_RX12_131_11 rfl rfl kd_78 ?_
          refine r_ltm hD (fun u21 hD => ?_)
          refine r_iload_n hK d_X12_unit_88 rfl rfl ?_
          obtain ⟨h22, hD⟩ := ck_e hD
          cases hD
          exact r_zret hK (zb_e h22) d_X12_unit_89
        · have hD := if_t hD h20
          refine r_iconst hK d_X12_unit_76 ci_0 ?_
          cases hD
          exact r_zret hK (Or.inl rfl) d_X12_unit_77
      · have hD := if_t hD h13
        refine r_iconst hK d_X12_unit_58 ci_0 ?_
        cases hD
        exact r_zret hK (Or.inl rfl) d_X12_unit_59
  · have hD := if_t hD h4
    refine r_aload_n hK d_X12_unit_11 rfl rfl ?_
    obtain ⟨v25, u24, e23, hD⟩ := bd_e hD
    refine r_callV (As := []) (st := []) (stk2 := [.int v25]) hK (C_X12_goesIn  e23) d_X12_unit_12 mf_X12_goesIn ml_RX12_158 im_X12_goesIn rfl se_11_RX12_X12_goesIn kd_78 rfl (Nat.le_of_ble_eq_true rfl) (by omega) ⟨Nat.zero_le _, Nat.zero_le _⟩ rfl rfl ?_
    refine r_if_ne (tgt := 20) hK d_X12_unit_15 (by decide) (fun h26 => ?_) (fun h26 => ?_)
    · have hD := if_f hD h26
      refine r_aload_n hK d_X12_unit_20 rfl rfl ?_
      obtain ⟨v29, u28, e27, hD⟩ := bd_e hD
      refine r_callV (As := []) (st := []) (stk2 := [.int v29]) hK (hE4 _ _ _ e27) d_X12_unit_21 mf_X12_unit ml_RX12_184 im_X12_unit rfl se_11_RX12_X12_unit kd_78 rfl (Nat.le_of_ble_eq_true rfl) (by omega) ⟨Nat.zero_le _, Nat.zero_le _⟩ rfl rfl ?_
      refine r_istore_n hK d_X12_unit_24 rfl (by decide) (ls2 := [.ref 78, .int v3, .int v29]) rfl ?_
      refine r_aload_n hK d_X12_unit_25 rfl rfl ?_
      refine r_dup hK d_X12_unit_26 rfl ?_
      refine r_getI hK d_X12_unit_27 fl_RX12_131_11 rfl kd_78 ?_
      refine r_iconst hK d_X12_unit_30 ci_1 ?_
      refine r_isub hK d_X12_unit_31 ?_
      refine r_putI hK d_X12_unit_32 fl_RX12_131_11 rfl rfl kd_78 ?_
      refine r_ltm hD (fun u30 hD => ?_)
      refine r_iload_n hK d_X12_unit_35 rfl rfl ?_
      refine r_if_ne (tgt := 43) hK d_X12_unit_36 (by decide) (fun h31 => ?_) (fun h31 => ?_)
      · have hD := if_f hD h31
        refine r_iconst hK d_X12_unit_43 ci_0 ?_
        cases hD
        exact r_zret hK (Or.inl rfl) d_X12_unit_44
      · have hD := if_t hD h31
        refine r_iconst hK d_X12_unit_39 ci_1 ?_
        refine r_goto (tgt := 44) hK d_X12_unit_40 (by decide) ?_
        cases hD
        exact r_zret hK (Or.inr rfl) d_X12_unit_44
    · have hD := if_t hD h26
      refine r_iconst hK d_X12_unit_18 ci_0 ?_
      cases hD
      exact r_zret hK (Or.inl rfl) d_X12_unit_19
end S_X12_unit
theorem d_X12_part_0 : gd cX12_part 0 (.iload_n 1) 1 1 := ⟨by decide +kernel, rfl⟩
theorem d_X12_part_1 : gd cX12_part 1 (.ifCond .eq 12) 3 4 := ⟨by decide +kernel, rfl⟩
theorem d_X12_part_4 : gd cX12_part 4 (.aload_n 0) 1 5 := ⟨by decide +kernel, rfl⟩
theorem d_X12_part_5 : gd cX12_part 5 (.iconst 1) 1 6 := ⟨by decide +kernel, rfl⟩
theorem d_X12_part_6 : gd cX12_part 6 (.iload_n 2) 1 7 := ⟨by decide +kernel, rfl⟩
theorem d_X12_part_7 : gd cX12_part 7 (.invokevirtual 191) 3 10 := ⟨by decide +kernel, rfl⟩
theorem d_X12_part_10 : gd cX12_part 10 (.goto 7) 3 13 := ⟨by decide +kernel, rfl⟩
theorem d_X12_part_13 : gd cX12_part 13 (.aload_n 0) 1 14 := ⟨by decide +kernel, rfl⟩
theorem d_X12_part_14 : gd cX12_part 14 (.invokevirtual 184) 3 17 := ⟨by decide +kernel, rfl⟩
theorem d_X12_part_17 : gd cX12_part 17 (.istore_n 3) 1 18 := ⟨by decide +kernel, rfl⟩
theorem d_X12_part_18 : gd cX12_part 18 (.aload_n 0) 1 19 := ⟨by decide +kernel, rfl⟩
theorem d_X12_part_19 : gd cX12_part 19 (.getfield 128) 3 22 := ⟨by decide +kernel, rfl⟩
theorem d_X12_part_22 : gd cX12_part 22 (.iconst (-1)) 1 23 := ⟨by decide +kernel, rfl⟩
theorem d_X12_part_23 : gd cX12_part 23 (.if_icmp .ne 46) 3 26 := ⟨by decide +kernel, rfl⟩
theorem d_X12_part_26 : gd cX12_part 26 (.aload_n 0) 1 27 := ⟨by decide +kernel, rfl⟩
theorem d_X12_part_27 : gd cX12_part 27 (.invokevirtual 138) 3 30 := ⟨by decide +kernel, rfl⟩
theorem d_X12_part_30 : gd cX12_part 30 (.bipush 38) 2 32 := ⟨by decide +kernel, rfl⟩
theorem d_X12_part_32 : gd cX12_part 32 (.if_icmp .ne 37) 3 35 := ⟨by decide +kernel, rfl⟩
theorem d_X12_part_35 : gd cX12_part 35 (.aload_n 0) 1 36 := ⟨by decide +kernel, rfl⟩
theorem d_X12_part_36 : gd cX12_part 36 .dup 1 37 := ⟨by decide +kernel, rfl⟩
theorem d_X12_part_37 : gd cX12_part 37 (.getfield 119) 3 40 := ⟨by decide +kernel, rfl⟩
theorem d_X12_part_40 : gd cX12_part 40 (.iconst 1) 1 41 := ⟨by decide +kernel, rfl⟩
theorem d_X12_part_41 : gd cX12_part 41 .iadd 1 42 := ⟨by decide +kernel, rfl⟩
theorem d_X12_part_42 : gd cX12_part 42 (.putfield 119) 3 45 := ⟨by decide +kernel, rfl⟩
theorem d_X12_part_45 : gd cX12_part 45 (.aload_n 0) 1 46 := ⟨by decide +kernel, rfl⟩
theorem d_X12_part_46 : gd cX12_part 46 (.invokevirtual 184) 3 49 := ⟨by decide +kernel, rfl⟩
theorem d_X12_part_49 : gd cX12_part 49 (.istore 4) 2 51 := ⟨by decide +kernel, rfl⟩
theorem d_X12_part_51 : gd cX12_part 51 (.iload_n 3) 1 52 := ⟨by decide +kernel, rfl⟩
theorem d_X12_part_52 : gd cX12_part 52 (.ifCond .eq 12) 3 55 := ⟨by decide +kernel, rfl⟩
theorem d_X12_part_55 : gd cX12_part 55 (.iload 4) 2 57 := ⟨by decide +kernel, rfl⟩
theorem d_X12_part_57 : gd cX12_part 57 (.ifCond .eq 7) 3 60 := ⟨by decide +kernel, rfl⟩
theorem d_X12_part_60 : gd cX12_part 60 (.iconst 1) 1 61 := ⟨by decide +kernel, rfl⟩
theorem d_X12_part_61 : gd cX12_part 61 (.goto 4) 3 64 := ⟨by decide +kernel, rfl⟩
theorem d_X12_part_64 : gd cX12_part 64 (.iconst 0) 1 65 := ⟨by decide +kernel, rfl⟩
theorem d_X12_part_65 : gd cX12_part 65 (.istore_n 3) 1 66 := ⟨by decide +kernel, rfl⟩
theorem d_X12_part_66 : gd cX12_part 66 (.goto (-48)) 3 69 := ⟨by decide +kernel, rfl⟩
theorem d_X12_part_69 : gd cX12_part 69 (.iload_n 3) 1 70 := ⟨by decide +kernel, rfl⟩
theorem d_X12_part_70 : gd cX12_part 70 .ireturn 1 71 := ⟨by decide +kernel, rfl⟩
def B_X12_part_64 (E : Nat → Int32 → Int32 → gs_M → Option (Int32 × gs_M)) (q18 : Int32 → gs_M → Option (Int32 × gs_M))  (μ : gs_M) : Option (Int32 × gs_M) :=
  q18 (0 : Int32) μ
def Bo_X12_part_18 (E : Nat → Int32 → Int32 → gs_M → Option (Int32 × gs_M)) (q18 : Int32 → gs_M → Option (Int32 × gs_M)) (x3 : Int32) (μ : gs_M) : Option (Int32 × gs_M) :=
  if (gI μ 78 11) = (-1 : Int32) then (bd (D_X12_look μ) (fun v5 u4 => if v5 = (38 : Int32) then (lt1 (sI u4 78 10 ((gI u4 78 10) + (1 : Int32))) (fun u8 => bd (E 4 0 0 u8) (fun v11 u10 => if x3 = 0 then (B_X12_part_64 E q18 u10) else (if v11 = 0 then (B_X12_part_64 E q18 u10) else (q18 (1 : Int32) u10))))) else (ck (zb x3) (some (x3, u4))))) else (ck (zb x3) (some (x3, μ)))
def L_X12_part_18 (E : Nat → Int32 → Int32 → gs_M → Option (Int32 × gs_M))  : Nat → Int32 → gs_M → Option (Int32 × gs_M)
  | 0 => fun _ _ => none
  | n + 1 => fun x3 μ => Bo_X12_part_18 E  (L_X12_part_18 E  n) x3 μ
def B_X12_part_17 (E : Nat → Int32 → Int32 → gs_M → Option (Int32 × gs_M))  (xs0 : Int32) (μ : gs_M) : Option (Int32 × gs_M) :=
  L_X12_part_18 E 4096 xs0 μ
def O_X12_part (E : Nat → Int32 → Int32 → gs_M → Option (Int32 × gs_M)) (x1 : Int32) (x2 : Int32) (μ : gs_M) : Option (Int32 × gs_M) :=
  if x1 = 0 then (bd (E 4 0 0 μ) (fun v4 u3 => B_X12_part_17 E v4 u3)) else (bd (E 3 (1 : Int32) x2 μ) (fun v7 u6 => B_X12_part_17 E v7 u6))
section S_X12_part
variable {p : Program} {l : Launch} {e : Env} {R : Room} {s : State} {m : MethodId} {args : Array Value} {below : List Frame} {meth : Method} {c : Code} {ad : Nat → Nat} {g : va_G} {tyc : Nat → ClassId}
set_option maxRecDepth 20000 in
theorem T_X12_part_64 {n0 : Nat} {E : Nat → Int32 → Int32 → gs_M → Option (Int32 × gs_M)} (hE0 : ∀ (μ : gs_M) (r : Int32) (μ2 : gs_M), E 0 0 0 μ = some (r, μ2) → CALL yX12_atom cX12_atom 4 (some .int) (n0 + 10) [.ref 78] μ (some (.int r)) μ2) (hE1 : ∀ (μ : gs_M) (r : Int32) (μ2 : gs_M), E 1 0 0 μ = some (r, μ2) → CALL yX12_term cX12_term 5 (some .int) (n0 + 10) [.ref 78] μ (some (.int r)) μ2) (hE2 : ∀ (μ : gs_M) (r : Int32) (μ2 : gs_M), E 2 0 0 μ = some (r, μ2) → CALL yX12_sum cX12_sum 5 (some .int) (n0 + 10) [.ref 78] μ (some (.int r)) μ2) (hE3 : ∀ (y0 : Int32) (y1 : Int32) (μ : gs_M) (r : Int32) (μ2 : gs_M), E 3 y0 y1 μ = some (r, μ2) → CALL yX12_compares cX12_compares 6 (some .boolean) (n0 + 10) [.ref 78, .int y0, .int y1] μ (some (.int r)) μ2) (hE4 : ∀ (μ : gs_M) (r : Int32) (μ2 : gs_M), E 4 0 0 μ = some (r, μ2) → CALL yX12_unit cX12_unit 3 (some .boolean) (n0 + 10) [.ref 78] μ (some (.int r)) μ2) (hE5 : ∀ (y0 : Int32) (y1 : Int32) (μ : gs_M) (r : Int32) (μ2 : gs_M), E 5 y0 y1 μ = some (r, μ2) → CALL yX12_part cX12_part 5 (some .boolean) (n0 + 10) [.ref 78, .int y0, .int y1] μ (some (.int r)) μ2) (hE6 : ∀ (y0 : Int32) (y1 : Int32) (μ : gs_M) (r : Int32) (μ2 : gs_M), E 6 y0 y1 μ = some (r, μ2) → CALL yX12_condition cX12_condition 5 (some .boolean) (n0 + 10) [.ref 78, .int y0, .int y1] μ (some (.int r)) μ2) (hK : KC p R s m args meth c ad g tyc RX12 cX12_part 5 (some .boolean) (n0 + 11)) {r : Int32} {μ2 : gs_M} {q18 : Int32 → gs_M → Option (Int32 × gs_M)} (hq18 : ∀ (x3 : Int32) (μ : gs_M), q18 x3 μ = some (r, μ2) → WJ p l e R s m args below meth c 0 0 (MQ below (gs_Q ad g tyc (some (.int r)) μ2) args s 0 0 (gs_A ad)) ad g tyc 5 18 [.ref 78, gs_J, gs_J, .int x3, gs_J] [] μ)  {μ : gs_M}  (hD : B_X12_part_64 E q18  μ = some (r, μ2)) : WJ p l e R s m args below meth c 0 0 (MQ below (gs_Q ad g tyc (some (.int r)) μ2) args s 0 0 (gs_A ad)) ad g tyc 5 64 [.ref 78, gs_J, gs_J, gs_J, gs_J] [] μ := by
  unfold B_X12_part_64 at hD
  refine r_iconst hK d_X12_part_64 ci_0 ?_
  refine r_istore_n hK d_X12_part_65 rfl (by decide) (ls2 := [.ref 78, gs_J, gs_J, .int (0 : Int32), gs_J]) rfl ?_
  refine r_goto (tgt := 18) hK d_X12_part_66 (by decide) ?_
  exact hq18 _ _  hD
set_option maxRecDepth 20000 in
theorem To_X12_part_18 {n0 : Nat} {E : Nat → Int32 → Int32 → gs_M → Option (Int32 × gs_M)} (hE0 : ∀ (μ : gs_M) (r : Int32) (μ2 : gs_M), E 0 0 0 μ = some (r, μ2) → CALL yX12_atom cX12_atom 4 (some .int) (n0 + 10) [.ref 78] μ (some (.int r)) μ2) (hE1 : ∀ (μ : gs_M) (r : Int32) (μ2 : gs_M), E 1 0 0 μ = some (r, μ2) → CALL yX12_term cX12_term 5 (some .int) (n0 + 10) [.ref 78] μ (some (.int r)) μ2) (hE2 : ∀ (μ : gs_M) (r : Int32) (μ2 : gs_M), E 2 0 0 μ = some (r, μ2) → CALL yX12_sum cX12_sum 5 (some .int) (n0 + 10) [.ref 78] μ (some (.int r)) μ2) (hE3 : ∀ (y0 : Int32) (y1 : Int32) (μ : gs_M) (r : Int32) (μ2 : gs_M), E 3 y0 y1 μ = some (r, μ2) → CALL yX12_compares cX12_compares 6 (some .boolean) (n0 + 10) [.ref 78, .int y0, .int y1] μ (some (.int r)) μ2) (hE4 : ∀ (μ : gs_M) (r : Int32) (μ2 : gs_M), E 4 0 0 μ = some (r, μ2) → CALL yX12_unit cX12_unit 3 (some .boolean) (n0 + 10) [.ref 78] μ (some (.int r)) μ2) (hE5 : ∀ (y0 : Int32) (y1 : Int32) (μ : gs_M) (r : Int32) (μ2 : gs_M), E 5 y0 y1 μ = some (r, μ2) → CALL yX12_part cX12_part 5 (some .boolean) (n0 + 10) [.ref 78, .int y0, .int y1] μ (some (.int r)) μ2) (hE6 : ∀ (y0 : Int32) (y1 : Int32) (μ : gs_M) (r : Int32) (μ2 : gs_M), E 6 y0 y1 μ = some (r, μ2) → CALL yX12_condition cX12_condition 5 (some .boolean) (n0 + 10) [.ref 78, .int y0, .int y1] μ (some (.int r)) μ2) (hK : KC p R s m args meth c ad g tyc RX12 cX12_part 5 (some .boolean) (n0 + 11)) {r : Int32} {μ2 : gs_M} {q18 : Int32 → gs_M → Option (Int32 × gs_M)} (hq18 : ∀ (x3 : Int32) (μ : gs_M), q18 x3 μ = some (r, μ2) → WJ p l e R s m args below meth c 0 0 (MQ below (gs_Q ad g tyc (some (.int r)) μ2) args s 0 0 (gs_A ad)) ad g tyc 5 18 [.ref 78, gs_J, gs_J, .int x3, gs_J] [] μ) {x3 : Int32} {μ : gs_M}  (hD : Bo_X12_part_18 E q18 x3 μ = some (r, μ2)) : WJ p l e R s m args below meth c 0 0 (MQ below (gs_Q ad g tyc (some (.int r)) μ2) args s 0 0 (gs_A ad)) ad g tyc 5 18 [.ref 78, gs_J, gs_J, .int x3, gs_J] [] μ := by
  unfold Bo_X12_part_18 at hD
  refine r_aload_n hK d_X12_part_18 rfl rfl ?_
  refine r_getI hK d_X12_part_19 fl_RX12_128_11 rfl kd_78 ?_
  refine r_iconst hK d_X12_part_22 ci_m1 ?_
  refine r_icmp_ne (tgt := 69) hK d_X12_part_23 (by decide) (fun h1 => ?_) (fun h1 => ?_)
  · have hD := if_f hD h1
    refine r_iload_n hK d_X12_part_69 rfl rfl ?_
    obtain ⟨h2, hD⟩ := ck_e hD
    cases hD
    exact r_zret hK (zb_e h2) d_X12_part_70
  · have hD := if_t hD h1
    refine r_aload_n hK d_X12_part_26 rfl rfl ?_
    obtain ⟨v5, u4, e3, hD⟩ := bd_e hD
    refine r_callV (As := []) (st := []) (stk2 := [.int v5]) hK (C_X12_look  e3) d_X12_part_27 mf_X12_look ml_RX12_138 im_X12_look rfl se_11_RX12_X12_look kd_78 rfl (Nat.le_of_ble_eq_true rfl) (by omega) ⟨Nat.zero_le _, Nat.zero_le _⟩ rfl rfl ?_
    refine r_bipush hK d_X12_part_30 cb_38 ?_
    refine r_icmp_ne (tgt := 69) hK d_X12_part_32 (by decide) (fun h6 => ?_) (fun h6 => ?_)
    · have hD := if_f hD h6
      refine r_iload_n hK d_X12_part_69 rfl rfl ?_
      obtain ⟨h7, hD⟩ := ck_e hD
      cases hD
      exact r_zret hK (zb_e h7) d_X12_part_70
    · have hD := if_t hD h6
      refine r_aload_n hK d_X12_part_35 rfl rfl ?_
      refine r_dup hK d_X12_part_36 rfl ?_
      refine r_getI hK d_X12_part_37 fl_RX12_119_11 rfl kd_78 ?_
      refine r_iconst hK d_X12_part_40 ci_1 ?_
      refine r_iadd hK d_X12_part_41 ?_
      refine r_putI hK d_X12_part_42 fl_RX12_119_11 rfl rfl kd_78 ?_
      refine r_ltm hD (fun u8 hD => ?_)
      refine r_aload_n hK d_X12_part_45 rfl rfl ?_
      obtain ⟨v11, u10, e9, hD⟩ := bd_e hD
      refine r_callV (As := []) (st := []) (stk2 := [.int v11]) hK (hE4 _ _ _ e9) d_X12_part_46 mf_X12_unit ml_RX12_184 im_X12_unit rfl se_11_RX12_X12_unit kd_78 rfl (Nat.le_of_ble_eq_true rfl) (by omega) ⟨Nat.zero_le _, Nat.zero_le _⟩ rfl rfl ?_
      refine r_istore hK d_X12_part_49 (by decide) (ls2 := [.ref 78, gs_J, gs_J, .int x3, .int v11]) rfl ?_
      refine r_iload_n hK d_X12_part_51 rfl rfl ?_
      refine r_if_eq (tgt := 64) hK d_X12_part_52 (by decide) (fun h12 => ?_) (fun h12 => ?_)
      · have hD := if_t hD h12
        refine r_junk [true, false, false, false, false] (ls2 := [.ref 78, gs_J, gs_J, gs_J, gs_J]) rfl ?_
        exact T_X12_part_64 hE0 hE1 hE2 hE3 hE4 hE5 hE6 hK hq18  hD
      · have hD := if_f hD h12
        refine r_iload hK d_X12_part_55 rfl ?_
        refine r_if_eq (tgt := 64) hK d_X12_part_57 (by decide) (fun h13 => ?_) (fun h13 => ?_)
        · have hD := if_t hD h13
          refine r_junk [true, false, false, false, false] (ls2 := [.ref 78, gs_J, gs_J, gs_J, gs_J]) rfl ?_
          exact T_X12_part_64 hE0 hE1 hE2 hE3 hE4 hE5 hE6 hK hq18  hD
        · have hD := if_f hD h13
          refine r_iconst hK d_X12_part_60 ci_1 ?_
          refine r_goto (tgt := 65) hK d_X12_part_61 (by decide) ?_
          refine r_istore_n hK d_X12_part_65 rfl (by decide) (ls2 := [.ref 78, gs_J, gs_J, .int (1 : Int32), .int v11]) rfl ?_
          refine r_goto (tgt := 18) hK d_X12_part_66 (by decide) ?_
          refine r_junk [true, false, false, true, false] (ls2 := [.ref 78, gs_J, gs_J, .int (1 : Int32), gs_J]) rfl ?_
          exact hq18 _ _  hD
set_option maxRecDepth 20000 in
theorem TL_X12_part_18 {n0 : Nat} {E : Nat → Int32 → Int32 → gs_M → Option (Int32 × gs_M)} (hE0 : ∀ (μ : gs_M) (r : Int32) (μ2 : gs_M), E 0 0 0 μ = some (r, μ2) → CALL yX12_atom cX12_atom 4 (some .int) (n0 + 10) [.ref 78] μ (some (.int r)) μ2) (hE1 : ∀ (μ : gs_M) (r : Int32) (μ2 : gs_M), E 1 0 0 μ = some (r, μ2) → CALL yX12_term cX12_term 5 (some .int) (n0 + 10) [.ref 78] μ (some (.int r)) μ2) (hE2 : ∀ (μ : gs_M) (r : Int32) (μ2 : gs_M), E 2 0 0 μ = some (r, μ2) → CALL yX12_sum cX12_sum 5 (some .int) (n0 + 10) [.ref 78] μ (some (.int r)) μ2) (hE3 : ∀ (y0 : Int32) (y1 : Int32) (μ : gs_M) (r : Int32) (μ2 : gs_M), E 3 y0 y1 μ = some (r, μ2) → CALL yX12_compares cX12_compares 6 (some .boolean) (n0 + 10) [.ref 78, .int y0, .int y1] μ (some (.int r)) μ2) (hE4 : ∀ (μ : gs_M) (r : Int32) (μ2 : gs_M), E 4 0 0 μ = some (r, μ2) → CALL yX12_unit cX12_unit 3 (some .boolean) (n0 + 10) [.ref 78] μ (some (.int r)) μ2) (hE5 : ∀ (y0 : Int32) (y1 : Int32) (μ : gs_M) (r : Int32) (μ2 : gs_M), E 5 y0 y1 μ = some (r, μ2) → CALL yX12_part cX12_part 5 (some .boolean) (n0 + 10) [.ref 78, .int y0, .int y1] μ (some (.int r)) μ2) (hE6 : ∀ (y0 : Int32) (y1 : Int32) (μ : gs_M) (r : Int32) (μ2 : gs_M), E 6 y0 y1 μ = some (r, μ2) → CALL yX12_condition cX12_condition 5 (some .boolean) (n0 + 10) [.ref 78, .int y0, .int y1] μ (some (.int r)) μ2) (hK : KC p R s m args meth c ad g tyc RX12 cX12_part 5 (some .boolean) (n0 + 11)) {r : Int32} {μ2 : gs_M}   : ∀ (n : Nat) (x3 : Int32) (μ : gs_M), L_X12_part_18 E  n x3 μ = some (r, μ2) → WJ p l e R s m args below meth c 0 0 (MQ below (gs_Q ad g tyc (some (.int r)) μ2) args s 0 0 (gs_A ad)) ad g tyc 5 18 [.ref 78, gs_J, gs_J, .int x3, gs_J] [] μ := by
  intro n
  induction n with
  | zero => intro x3 μ  hD; cases hD
  | succ n ih => intro x3 μ  hD; exact To_X12_part_18 hE0 hE1 hE2 hE3 hE4 hE5 hE6 hK  ih  hD
set_option maxRecDepth 20000 in
theorem T_X12_part_17 {n0 : Nat} {E : Nat → Int32 → Int32 → gs_M → Option (Int32 × gs_M)} (hE0 : ∀ (μ : gs_M) (r : Int32) (μ2 : gs_M), E 0 0 0 μ = some (r, μ2) → CALL yX12_atom cX12_atom 4 (some .int) (n0 + 10) [.ref 78] μ (some (.int r)) μ2) (hE1 : ∀ (μ : gs_M) (r : Int32) (μ2 : gs_M), E 1 0 0 μ = some (r, μ2) → CALL yX12_term cX12_term 5 (some .int) (n0 + 10) [.ref 78] μ (some (.int r)) μ2) (hE2 : ∀ (μ : gs_M) (r : Int32) (μ2 : gs_M), E 2 0 0 μ = some (r, μ2) → CALL yX12_sum cX12_sum 5 (some .int) (n0 + 10) [.ref 78] μ (some (.int r)) μ2) (hE3 : ∀ (y0 : Int32) (y1 : Int32) (μ : gs_M) (r : Int32) (μ2 : gs_M), E 3 y0 y1 μ = some (r, μ2) → CALL yX12_compares cX12_compares 6 (some .boolean) (n0 + 10) [.ref 78, .int y0, .int y1] μ (some (.int r)) μ2) (hE4 : ∀ (μ : gs_M) (r : Int32) (μ2 : gs_M), E 4 0 0 μ = some (r, μ2) → CALL yX12_unit cX12_unit 3 (some .boolean) (n0 + 10) [.ref 78] μ (some (.int r)) μ2) (hE5 : ∀ (y0 : Int32) (y1 : Int32) (μ : gs_M) (r : Int32) (μ2 : gs_M), E 5 y0 y1 μ = some (r, μ2) → CALL yX12_part cX12_part 5 (some .boolean) (n0 + 10) [.ref 78, .int y0, .int y1] μ (some (.int r)) μ2) (hE6 : ∀ (y0 : Int32) (y1 : Int32) (μ : gs_M) (r : Int32) (μ2 : gs_M), E 6 y0 y1 μ = some (r, μ2) → CALL yX12_condition cX12_condition 5 (some .boolean) (n0 + 10) [.ref 78, .int y0, .int y1] μ (some (.int r)) μ2) (hK : KC p R s m args meth c ad g tyc RX12 cX12_part 5 (some .boolean) (n0 + 11)) {r : Int32} {μ2 : gs_M}   {xs0 : Int32} {μ : gs_M}  (hD : B_X12_part_17 E  xs0 μ = some (r, μ2)) : WJ p l e R s m args below meth c 0 0 (MQ below (gs_Q ad g tyc (some (.int r)) μ2) args s 0 0 (gs_A ad)) ad g tyc 5 17 [.ref 78, gs_J, gs_J, gs_J, gs_J] [.int xs0] μ := by
  unfold B_X12_part_17 at hD
  refine r_istore_n hK d_X12_part_17 rfl (by decide) (ls2 := [.ref 78, gs_J, gs_J, .int xs0, gs_J]) rfl ?_
  exact TL_X12_part_18 hE0 hE1 hE2 hE3 hE4 hE5 hE6 hK  _ _ _  hD
set_option maxRecDepth 20000 in
theorem C_X12_part {n0 : Nat} {E : Nat → Int32 → Int32 → gs_M → Option (Int32 × gs_M)} (hE0 : ∀ (μ : gs_M) (r : Int32) (μ2 : gs_M), E 0 0 0 μ = some (r, μ2) → CALL yX12_atom cX12_atom 4 (some .int) (n0 + 10) [.ref 78] μ (some (.int r)) μ2) (hE1 : ∀ (μ : gs_M) (r : Int32) (μ2 : gs_M), E 1 0 0 μ = some (r, μ2) → CALL yX12_term cX12_term 5 (some .int) (n0 + 10) [.ref 78] μ (some (.int r)) μ2) (hE2 : ∀ (μ : gs_M) (r : Int32) (μ2 : gs_M), E 2 0 0 μ = some (r, μ2) → CALL yX12_sum cX12_sum 5 (some .int) (n0 + 10) [.ref 78] μ (some (.int r)) μ2) (hE3 : ∀ (y0 : Int32) (y1 : Int32) (μ : gs_M) (r : Int32) (μ2 : gs_M), E 3 y0 y1 μ = some (r, μ2) → CALL yX12_compares cX12_compares 6 (some .boolean) (n0 + 10) [.ref 78, .int y0, .int y1] μ (some (.int r)) μ2) (hE4 : ∀ (μ : gs_M) (r : Int32) (μ2 : gs_M), E 4 0 0 μ = some (r, μ2) → CALL yX12_unit cX12_unit 3 (some .boolean) (n0 + 10) [.ref 78] μ (some (.int r)) μ2) (hE5 : ∀ (y0 : Int32) (y1 : Int32) (μ : gs_M) (r : Int32) (μ2 : gs_M), E 5 y0 y1 μ = some (r, μ2) → CALL yX12_part cX12_part 5 (some .boolean) (n0 + 10) [.ref 78, .int y0, .int y1] μ (some (.int r)) μ2) (hE6 : ∀ (y0 : Int32) (y1 : Int32) (μ : gs_M) (r : Int32) (μ2 : gs_M), E 6 y0 y1 μ = some (r, μ2) → CALL yX12_condition cX12_condition 5 (some .boolean) (n0 + 10) [.ref 78, .int y0, .int y1] μ (some (.int r)) μ2) {x1 : Int32} {x2 : Int32} {μ : gs_M} {r : Int32} {μ2 : gs_M}  (hD : O_X12_part E x1 x2 μ = some (r, μ2)) : CALL yX12_part cX12_part 5 (some .boolean) (n0 + 11) [.ref 78, .int x1, .int x2] μ (some (.int r)) μ2 := by
  unfold O_X12_part at hD
  refine gs_enter mf_X12_part (Nat.le_of_ble_eq_true rfl) (ls := [.ref 78, .int x1, .int x2, gs_J, gs_J]) rfl (fun p l e R s m args below meth c ad g tyc hK => ?_)
  have hK : KC p R s m args meth c ad g tyc RX12 cX12_part 5 (some .boolean) (n0 + 11) := hK
  refine r_iload_n hK d_X12_part_0 rfl rfl ?_
  refine r_if_eq (tgt := 13) hK d_X12_part_1 (by decide) (fun h1 => ?_) (fun h1 => ?_)
  · have hD := if_t hD h1
    refine r_aload_n hK d_X12_part_13 rfl rfl ?_
    obtain ⟨v4, u3, e2, hD⟩ := bd_e hD
    refine r_callV (As := []) (st := []) (stk2 := [.int v4]) hK (hE4 _ _ _ e2) d_X12_part_14 mf_X12_unit ml_RX12_184 im_X12_unit rfl se_11_RX12_X12_unit kd_78 rfl (Nat.le_of_ble_eq_true rfl) (by omega) ⟨Nat.zero_le _, Nat.zero_le _⟩ rfl rfl ?_
    refine r_junk [true, false, false, false, false] (ls2 := [.ref 78, gs_J, gs_J, gs_J, gs_J]) rfl ?_
    exact T_X12_part_17 hE0 hE1 hE2 hE3 hE4 hE5 hE6 hK   hD
  · have hD := if_f hD h1
    refine r_aload_n hK d_X12_part_4 rfl rfl ?_
    refine r_iconst hK d_X12_part_5 ci_1 ?_
    refine r_iload_n hK d_X12_part_6 rfl rfl ?_
    obtain ⟨v7, u6, e5, hD⟩ := bd_e hD
    refine r_callV (As := [.int (1 : Int32), .int x2]) (st := []) (stk2 := [.int v7]) hK (hE3 _ _ _ _ _ e5) d_X12_part_7 mf_X12_compares ml_RX12_191 im_X12_compares rfl se_11_RX12_X12_compares kd_78 rfl (Nat.le_of_ble_eq_true rfl) (by omega) ⟨Nat.zero_le _, Nat.zero_le _⟩ rfl rfl ?_
    refine r_goto (tgt := 17) hK d_X12_part_10 (by decide) ?_
    refine r_junk [true, false, false, false, false] (ls2 := [.ref 78, gs_J, gs_J, gs_J, gs_J]) rfl ?_
    exact T_X12_part_17 hE0 hE1 hE2 hE3 hE4 hE5 hE6 hK   hD
end S_X12_part
theorem d_X12_condition_0 : gd cX12_condition 0 (.aload_n 0) 1 1 := ⟨by decide +kernel, rfl⟩
theorem d_X12_condition_1 : gd cX12_condition 1 (.iload_n 1) 1 2 := ⟨by decide +kernel, rfl⟩
theorem d_X12_condition_2 : gd cX12_condition 2 (.iload_n 2) 1 3 := ⟨by decide +kernel, rfl⟩
theorem d_X12_condition_3 : gd cX12_condition 3 (.invokevirtual 194) 3 6 := ⟨by decide +kernel, rfl⟩
theorem d_X12_condition_6 : gd cX12_condition 6 (.istore_n 3) 1 7 := ⟨by decide +kernel, rfl⟩
theorem d_X12_condition_7 : gd cX12_condition 7 (.aload_n 0) 1 8 := ⟨by decide +kernel, rfl⟩
theorem d_X12_condition_8 : gd cX12_condition 8 (.getfield 128) 3 11 := ⟨by decide +kernel, rfl⟩
theorem d_X12_condition_11 : gd cX12_condition 11 (.iconst (-1)) 1 12 := ⟨by decide +kernel, rfl⟩
theorem d_X12_condition_12 : gd cX12_condition 12 (.if_icmp .ne 48) 3 15 := ⟨by decide +kernel, rfl⟩
theorem d_X12_condition_15 : gd cX12_condition 15 (.aload_n 0) 1 16 := ⟨by decide +kernel, rfl⟩
theorem d_X12_condition_16 : gd cX12_condition 16 (.invokevirtual 138) 3 19 := ⟨by decide +kernel, rfl⟩
theorem d_X12_condition_19 : gd cX12_condition 19 (.bipush 124) 2 21 := ⟨by decide +kernel, rfl⟩
theorem d_X12_condition_21 : gd cX12_condition 21 (.if_icmp .ne 39) 3 24 := ⟨by decide +kernel, rfl⟩
theorem d_X12_condition_24 : gd cX12_condition 24 (.aload_n 0) 1 25 := ⟨by decide +kernel, rfl⟩
theorem d_X12_condition_25 : gd cX12_condition 25 .dup 1 26 := ⟨by decide +kernel, rfl⟩
theorem d_X12_condition_26 : gd cX12_condition 26 (.getfield 119) 3 29 := ⟨by decide +kernel, rfl⟩
theorem d_X12_condition_29 : gd cX12_condition 29 (.iconst 1) 1 30 := ⟨by decide +kernel, rfl⟩
theorem d_X12_condition_30 : gd cX12_condition 30 .iadd 1 31 := ⟨by decide +kernel, rfl⟩
theorem d_X12_condition_31 : gd cX12_condition 31 (.putfield 119) 3 34 := ⟨by decide +kernel, rfl⟩
theorem d_X12_condition_34 : gd cX12_condition 34 (.aload_n 0) 1 35 := ⟨by decide +kernel, rfl⟩
theorem d_X12_condition_35 : gd cX12_condition 35 (.iconst 0) 1 36 := ⟨by decide +kernel, rfl⟩
theorem d_X12_condition_36 : gd cX12_condition 36 (.iconst 0) 1 37 := ⟨by decide +kernel, rfl⟩
theorem d_X12_condition_37 : gd cX12_condition 37 (.invokevirtual 194) 3 40 := ⟨by decide +kernel, rfl⟩
theorem d_X12_condition_40 : gd cX12_condition 40 (.istore 4) 2 42 := ⟨by decide +kernel, rfl⟩
theorem d_X12_condition_42 : gd cX12_condition 42 (.iload_n 3) 1 43 := ⟨by decide +kernel, rfl⟩
theorem d_X12_condition_43 : gd cX12_condition 43 (.ifCond .ne 8) 3 46 := ⟨by decide +kernel, rfl⟩
theorem d_X12_condition_46 : gd cX12_condition 46 (.iload 4) 2 48 := ⟨by decide +kernel, rfl⟩
theorem d_X12_condition_48 : gd cX12_condition 48 (.ifCond .eq 7) 3 51 := ⟨by decide +kernel, rfl⟩
theorem d_X12_condition_51 : gd cX12_condition 51 (.iconst 1) 1 52 := ⟨by decide +kernel, rfl⟩
theorem d_X12_condition_52 : gd cX12_condition 52 (.goto 4) 3 55 := ⟨by decide +kernel, rfl⟩
theorem d_X12_condition_55 : gd cX12_condition 55 (.iconst 0) 1 56 := ⟨by decide +kernel, rfl⟩
theorem d_X12_condition_56 : gd cX12_condition 56 (.istore_n 3) 1 57 := ⟨by decide +kernel, rfl⟩
theorem d_X12_condition_57 : gd cX12_condition 57 (.goto (-50)) 3 60 := ⟨by decide +kernel, rfl⟩
theorem d_X12_condition_60 : gd cX12_condition 60 (.iload_n 3) 1 61 := ⟨by decide +kernel, rfl⟩
theorem d_X12_condition_61 : gd cX12_condition 61 .ireturn 1 62 := ⟨by decide +kernel, rfl⟩
def Bo_X12_condition_7 (E : Nat → Int32 → Int32 → gs_M → Option (Int32 × gs_M)) (q7 : Int32 → gs_M → Option (Int32 × gs_M)) (x3 : Int32) (μ : gs_M) : Option (Int32 × gs_M) :=
  if (gI μ 78 11) = (-1 : Int32) then (bd (D_X12_look μ) (fun v5 u4 => if v5 = (124 : Int32) then (lt1 (sI u4 78 10 ((gI u4 78 10) + (1 : Int32))) (fun u8 => bd (E 5 (0 : Int32) (0 : Int32) u8) (fun v11 u10 => if x3 = 0 then (if v11 = 0 then (q7 (0 : Int32) u10) else (q7 (1 : Int32) u10)) else (q7 (1 : Int32) u10)))) else (ck (zb x3) (some (x3, u4))))) else (ck (zb x3) (some (x3, μ)))
def L_X12_condition_7 (E : Nat → Int32 → Int32 → gs_M → Option (Int32 × gs_M))  : Nat → Int32 → gs_M → Option (Int32 × gs_M)
  | 0 => fun _ _ => none
  | n + 1 => fun x3 μ => Bo_X12_condition_7 E  (L_X12_condition_7 E  n) x3 μ
def O_X12_condition (E : Nat → Int32 → Int32 → gs_M → Option (Int32 × gs_M)) (x1 : Int32) (x2 : Int32) (μ : gs_M) : Option (Int32 × gs_M) :=
  bd (E 5 x1 x2 μ) (fun v3 u2 => L_X12_condition_7 E 4096 v3 u2)
section S_X12_condition
variable {p : Program} {l : Launch} {e : Env} {R : Room} {s : State} {m : MethodId} {args : Array Value} {below : List Frame} {meth : Method} {c : Code} {ad : Nat → Nat} {g : va_G} {tyc : Nat → ClassId}
set_option maxRecDepth 20000 in
theorem To_X12_condition_7 {n0 : Nat} {E : Nat → Int32 → Int32 → gs_M → Option (Int32 × gs_M)} (hE0 : ∀ (μ : gs_M) (r : Int32) (μ2 : gs_M), E 0 0 0 μ = some (r, μ2) → CALL yX12_atom cX12_atom 4 (some .int) (n0 + 10) [.ref 78] μ (some (.int r)) μ2) (hE1 : ∀ (μ : gs_M) (r : Int32) (μ2 : gs_M), E 1 0 0 μ = some (r, μ2) → CALL yX12_term cX12_term 5 (some .int) (n0 + 10) [.ref 78] μ (some (.int r)) μ2) (hE2 : ∀ (μ : gs_M) (r : Int32) (μ2 : gs_M), E 2 0 0 μ = some (r, μ2) → CALL yX12_sum cX12_sum 5 (some .int) (n0 + 10) [.ref 78] μ (some (.int r)) μ2) (hE3 : ∀ (y0 : Int32) (y1 : Int32) (μ : gs_M) (r : Int32) (μ2 : gs_M), E 3 y0 y1 μ = some (r, μ2) → CALL yX12_compares cX12_compares 6 (some .boolean) (n0 + 10) [.ref 78, .int y0, .int y1] μ (some (.int r)) μ2) (hE4 : ∀ (μ : gs_M) (r : Int32) (μ2 : gs_M), E 4 0 0 μ = some (r, μ2) → CALL yX12_unit cX12_unit 3 (some .boolean) (n0 + 10) [.ref 78] μ (some (.int r)) μ2) (hE5 : ∀ (y0 : Int32) (y1 : Int32) (μ : gs_M) (r : Int32) (μ2 : gs_M), E 5 y0 y1 μ = some (r, μ2) → CALL yX12_part cX12_part 5 (some .boolean) (n0 + 10) [.ref 78, .int y0, .int y1] μ (some (.int r)) μ2) (hE6 : ∀ (y0 : Int32) (y1 : Int32) (μ : gs_M) (r : Int32) (μ2 : gs_M), E 6 y0 y1 μ = some (r, μ2) → CALL yX12_condition cX12_condition 5 (some .boolean) (n0 + 10) [.ref 78, .int y0, .int y1] μ (some (.int r)) μ2) (hK : KC p R s m args meth c ad g tyc RX12 cX12_condition 5 (some .boolean) (n0 + 11)) {r : Int32} {μ2 : gs_M} {q7 : Int32 → gs_M → Option (Int32 × gs_M)} (hq7 : ∀ (x3 : Int32) (μ : gs_M), q7 x3 μ = some (r, μ2) → WJ p l e R s m args below meth c 0 0 (MQ below (gs_Q ad g tyc (some (.int r)) μ2) args s 0 0 (gs_A ad)) ad g tyc 5 7 [.ref 78, gs_J, gs_J, .int x3, gs_J] [] μ) {x3 : Int32} {μ : gs_M}  (hD : Bo_X12_condition_7 E q7 x3 μ = some (r, μ2)) : WJ p l e R s m args below meth c 0 0 (MQ below (gs_Q ad g tyc (some (.int r)) μ2) args s 0 0 (gs_A ad)) ad g tyc 5 7 [.ref 78, gs_J, gs_J, .int x3, gs_J] [] μ := by
  unfold Bo_X12_condition_7 at hD
  refine r_aload_n hK d_X12_condition_7 rfl rfl ?_
  refine r_getI hK d_X12_condition_8 fl_RX12_128_11 rfl kd_78 ?_
  refine r_iconst hK d_X12_condition_11 ci_m1 ?_
  refine r_icmp_ne (tgt := 60) hK d_X12_condition_12 (by decide) (fun h1 => ?_) (fun h1 => ?_)
  · have hD := if_f hD h1
    refine r_iload_n hK d_X12_condition_60 rfl rfl ?_
    obtain ⟨h2, hD⟩ := ck_e hD
    cases hD
    exact r_zret hK (zb_e h2) d_X12_condition_61
  · have hD := if_t hD h1
    refine r_aload_n hK d_X12_condition_15 rfl rfl ?_
    obtain ⟨v5, u4, e3, hD⟩ := bd_e hD
    refine r_callV (As := []) (st := []) (stk2 := [.int v5]) hK (C_X12_look  e3) d_X12_condition_16 mf_X12_look ml_RX12_138 im_X12_look rfl se_11_RX12_X12_look kd_78 rfl (Nat.le_of_ble_eq_true rfl) (by omega) ⟨Nat.zero_le _, Nat.zero_le _⟩ rfl rfl ?_
    refine r_bipush hK d_X12_condition_19 cb_124 ?_
    refine r_icmp_ne (tgt := 60) hK d_X12_condition_21 (by decide) (fun h6 => ?_) (fun h6 => ?_)
    · have hD := if_f hD h6
      refine r_iload_n hK d_X12_condition_60 rfl rfl ?_
      obtain ⟨h7, hD⟩ := ck_e hD
      cases hD
      exact r_zret hK (zb_e h7) d_X12_condition_61
    · have hD := if_t hD h6
      refine r_aload_n hK d_X12_condition_24 rfl rfl ?_
      refine r_dup hK d_X12_condition_25 rfl ?_
      refine r_getI hK d_X12_condition_26 fl_RX12_119_11 rfl kd_78 ?_
      refine r_iconst hK d_X12_condition_29 ci_1 ?_
      refine r_iadd hK d_X12_condition_30 ?_
      refine r_putI hK d_X12_condition_31 fl_RX12_119_11 rfl rfl kd_78 ?_
      refine r_ltm hD (fun u8 hD => ?_)
      refine r_aload_n hK d_X12_condition_34 rfl rfl ?_
      refine r_iconst hK d_X12_condition_35 ci_0 ?_
      refine r_iconst hK d_X12_condition_36 ci_0 ?_
      obtain ⟨v11, u10, e9, hD⟩ := bd_e hD
      refine r_callV (As := [.int (0 : Int32), .int (0 : Int32)]) (st := []) (stk2 := [.int v11]) hK (hE5 _ _ _ _ _ e9) d_X12_condition_37 mf_X12_part ml_RX12_194 im_X12_part rfl se_11_RX12_X12_part kd_78 rfl (Nat.le_of_ble_eq_true rfl) (by omega) ⟨Nat.zero_le _, Nat.zero_le _⟩ rfl rfl ?_
      refine r_istore hK d_X12_condition_40 (by decide) (ls2 := [.ref 78, gs_J, gs_J, .int x3, .int v11]) rfl ?_
      refine r_iload_n hK d_X12_condition_42 rfl rfl ?_
      refine r_if_ne (tgt := 51) hK d_X12_condition_43 (by decide) (fun h12 => ?_) (fun h12 => ?_)
      · have hD := if_f hD h12
        refine r_iconst hK d_X12_condition_51 ci_1 ?_
        refine r_goto (tgt := 56) hK d_X12_condition_52 (by decide) ?_
        refine r_istore_n hK d_X12_condition_56 rfl (by decide) (ls2 := [.ref 78, gs_J, gs_J, .int (1 : Int32), .int v11]) rfl ?_
        refine r_goto (tgt := 7) hK d_X12_condition_57 (by decide) ?_
        refine r_junk [true, false, false, true, false] (ls2 := [.ref 78, gs_J, gs_J, .int (1 : Int32), gs_J]) rfl ?_
        exact hq7 _ _  hD
      · have hD := if_t hD h12
        refine r_iload hK d_X12_condition_46 rfl ?_
        refine r_if_eq (tgt := 55) hK d_X12_condition_48 (by decide) (fun h13 => ?_) (fun h13 => ?_)
        · have hD := if_t hD h13
          refine r_iconst hK d_X12_condition_55 ci_0 ?_
          refine r_istore_n hK d_X12_condition_56 rfl (by decide) (ls2 := [.ref 78, gs_J, gs_J, .int (0 : Int32), .int v11]) rfl ?_
          refine r_goto (tgt := 7) hK d_X12_condition_57 (by decide) ?_
          refine r_junk [true, false, false, true, false] (ls2 := [.ref 78, gs_J, gs_J, .int (0 : Int32), gs_J]) rfl ?_
          exact hq7 _ _  hD
        · have hD := if_f hD h13
          refine r_iconst hK d_X12_condition_51 ci_1 ?_
          refine r_goto (tgt := 56) hK d_X12_condition_52 (by decide) ?_
          refine r_istore_n hK d_X12_condition_56 rfl (by decide) (ls2 := [.ref 78, gs_J, gs_J, .int (1 : Int32), .int v11]) rfl ?_
          refine r_goto (tgt := 7) hK d_X12_condition_57 (by decide) ?_
          refine r_junk [true, false, false, true, false] (ls2 := [.ref 78, gs_J, gs_J, .int (1 : Int32), gs_J]) rfl ?_
          exact hq7 _ _  hD
set_option maxRecDepth 20000 in
theorem TL_X12_condition_7 {n0 : Nat} {E : Nat → Int32 → Int32 → gs_M → Option (Int32 × gs_M)} (hE0 : ∀ (μ : gs_M) (r : Int32) (μ2 : gs_M), E 0 0 0 μ = some (r, μ2) → CALL yX12_atom cX12_atom 4 (some .int) (n0 + 10) [.ref 78] μ (some (.int r)) μ2) (hE1 : ∀ (μ : gs_M) (r : Int32) (μ2 : gs_M), E 1 0 0 μ = some (r, μ2) → CALL yX12_term cX12_term 5 (some .int) (n0 + 10) [.ref 78] μ (some (.int r)) μ2) (hE2 : ∀ (μ : gs_M) (r : Int32) (μ2 : gs_M), E 2 0 0 μ = some (r, μ2) → CALL yX12_sum cX12_sum 5 (some .int) (n0 + 10) [.ref 78] μ (some (.int r)) μ2) (hE3 : ∀ (y0 : Int32) (y1 : Int32) (μ : gs_M) (r : Int32) (μ2 : gs_M), E 3 y0 y1 μ = some (r, μ2) → CALL yX12_compares cX12_compares 6 (some .boolean) (n0 + 10) [.ref 78, .int y0, .int y1] μ (some (.int r)) μ2) (hE4 : ∀ (μ : gs_M) (r : Int32) (μ2 : gs_M), E 4 0 0 μ = some (r, μ2) → CALL yX12_unit cX12_unit 3 (some .boolean) (n0 + 10) [.ref 78] μ (some (.int r)) μ2) (hE5 : ∀ (y0 : Int32) (y1 : Int32) (μ : gs_M) (r : Int32) (μ2 : gs_M), E 5 y0 y1 μ = some (r, μ2) → CALL yX12_part cX12_part 5 (some .boolean) (n0 + 10) [.ref 78, .int y0, .int y1] μ (some (.int r)) μ2) (hE6 : ∀ (y0 : Int32) (y1 : Int32) (μ : gs_M) (r : Int32) (μ2 : gs_M), E 6 y0 y1 μ = some (r, μ2) → CALL yX12_condition cX12_condition 5 (some .boolean) (n0 + 10) [.ref 78, .int y0, .int y1] μ (some (.int r)) μ2) (hK : KC p R s m args meth c ad g tyc RX12 cX12_condition 5 (some .boolean) (n0 + 11)) {r : Int32} {μ2 : gs_M}   : ∀ (n : Nat) (x3 : Int32) (μ : gs_M), L_X12_condition_7 E  n x3 μ = some (r, μ2) → WJ p l e R s m args below meth c 0 0 (MQ below (gs_Q ad g tyc (some (.int r)) μ2) args s 0 0 (gs_A ad)) ad g tyc 5 7 [.ref 78, gs_J, gs_J, .int x3, gs_J] [] μ := by
  intro n
  induction n with
  | zero => intro x3 μ  hD; cases hD
  | succ n ih => intro x3 μ  hD; exact To_X12_condition_7 hE0 hE1 hE2 hE3 hE4 hE5 hE6 hK  ih  hD
set_option maxRecDepth 20000 in
theorem C_X12_condition {n0 : Nat} {E : Nat → Int32 → Int32 → gs_M → Option (Int32 × gs_M)} (hE0 : ∀ (μ : gs_M) (r : Int32) (μ2 : gs_M), E 0 0 0 μ = some (r, μ2) → CALL yX12_atom cX12_atom 4 (some .int) (n0 + 10) [.ref 78] μ (some (.int r)) μ2) (hE1 : ∀ (μ : gs_M) (r : Int32) (μ2 : gs_M), E 1 0 0 μ = some (r, μ2) → CALL yX12_term cX12_term 5 (some .int) (n0 + 10) [.ref 78] μ (some (.int r)) μ2) (hE2 : ∀ (μ : gs_M) (r : Int32) (μ2 : gs_M), E 2 0 0 μ = some (r, μ2) → CALL yX12_sum cX12_sum 5 (some .int) (n0 + 10) [.ref 78] μ (some (.int r)) μ2) (hE3 : ∀ (y0 : Int32) (y1 : Int32) (μ : gs_M) (r : Int32) (μ2 : gs_M), E 3 y0 y1 μ = some (r, μ2) → CALL yX12_compares cX12_compares 6 (some .boolean) (n0 + 10) [.ref 78, .int y0, .int y1] μ (some (.int r)) μ2) (hE4 : ∀ (μ : gs_M) (r : Int32) (μ2 : gs_M), E 4 0 0 μ = some (r, μ2) → CALL yX12_unit cX12_unit 3 (some .boolean) (n0 + 10) [.ref 78] μ (some (.int r)) μ2) (hE5 : ∀ (y0 : Int32) (y1 : Int32) (μ : gs_M) (r : Int32) (μ2 : gs_M), E 5 y0 y1 μ = some (r, μ2) → CALL yX12_part cX12_part 5 (some .boolean) (n0 + 10) [.ref 78, .int y0, .int y1] μ (some (.int r)) μ2) (hE6 : ∀ (y0 : Int32) (y1 : Int32) (μ : gs_M) (r : Int32) (μ2 : gs_M), E 6 y0 y1 μ = some (r, μ2) → CALL yX12_condition cX12_condition 5 (some .boolean) (n0 + 10) [.ref 78, .int y0, .int y1] μ (some (.int r)) μ2) {x1 : Int32} {x2 : Int32} {μ : gs_M} {r : Int32} {μ2 : gs_M}  (hD : O_X12_condition E x1 x2 μ = some (r, μ2)) : CALL yX12_condition cX12_condition 5 (some .boolean) (n0 + 11) [.ref 78, .int x1, .int x2] μ (some (.int r)) μ2 := by
  unfold O_X12_condition at hD
  refine gs_enter mf_X12_condition (Nat.le_of_ble_eq_true rfl) (ls := [.ref 78, .int x1, .int x2, gs_J, gs_J]) rfl (fun p l e R s m args below meth c ad g tyc hK => ?_)
  have hK : KC p R s m args meth c ad g tyc RX12 cX12_condition 5 (some .boolean) (n0 + 11) := hK
  refine r_aload_n hK d_X12_condition_0 rfl rfl ?_
  refine r_iload_n hK d_X12_condition_1 rfl rfl ?_
  refine r_iload_n hK d_X12_condition_2 rfl rfl ?_
  obtain ⟨v3, u2, e1, hD⟩ := bd_e hD
  refine r_callV (As := [.int x1, .int x2]) (st := []) (stk2 := [.int v3]) hK (hE5 _ _ _ _ _ e1) d_X12_condition_3 mf_X12_part ml_RX12_194 im_X12_part rfl se_11_RX12_X12_part kd_78 rfl (Nat.le_of_ble_eq_true rfl) (by omega) ⟨Nat.zero_le _, Nat.zero_le _⟩ rfl rfl ?_
  refine r_istore_n hK d_X12_condition_6 rfl (by decide) (ls2 := [.ref 78, .int x1, .int x2, .int v3, gs_J]) rfl ?_
  refine r_junk [true, false, false, true, false] (ls2 := [.ref 78, gs_J, gs_J, .int v3, gs_J]) rfl ?_
  exact TL_X12_condition_7 hE0 hE1 hE2 hE3 hE4 hE5 hE6 hK  _ _ _  hD
end S_X12_condition
def MD : Nat → Nat → Int32 → Int32 → gs_M → Option (Int32 × gs_M)
  | 0 => fun _ _ _ _ => none
  | n + 1 => fun k y0 y1 μ => match k with
    | 0 => O_X12_atom (MD n)  μ
    | 1 => O_X12_term (MD n)  μ
    | 2 => O_X12_sum (MD n)  μ
    | 3 => O_X12_compares (MD n) y0 y1 μ
    | 4 => O_X12_unit (MD n)  μ
    | 5 => O_X12_part (MD n) y0 y1 μ
    | _ => O_X12_condition (MD n) y0 y1 μ
set_option maxRecDepth 20000 in
theorem MD_ok : ∀ n : Nat, (∀ (μ : gs_M) (r : Int32) (μ2 : gs_M), MD n 0 0 0 μ = some (r, μ2) → CALL yX12_atom cX12_atom 4 (some .int) (n + 10) [.ref 78] μ (some (.int r)) μ2) ∧ (∀ (μ : gs_M) (r : Int32) (μ2 : gs_M), MD n 1 0 0 μ = some (r, μ2) → CALL yX12_term cX12_term 5 (some .int) (n + 10) [.ref 78] μ (some (.int r)) μ2) ∧ (∀ (μ : gs_M) (r : Int32) (μ2 : gs_M), MD n 2 0 0 μ = some (r, μ2) → CALL yX12_sum cX12_sum 5 (some .int) (n + 10) [.ref 78] μ (some (.int r)) μ2) ∧ (∀ (y0 : Int32) (y1 : Int32) (μ : gs_M) (r : Int32) (μ2 : gs_M), MD n 3 y0 y1 μ = some (r, μ2) → CALL yX12_compares cX12_compares 6 (some .boolean) (n + 10) [.ref 78, .int y0, .int y1] μ (some (.int r)) μ2) ∧ (∀ (μ : gs_M) (r : Int32) (μ2 : gs_M), MD n 4 0 0 μ = some (r, μ2) → CALL yX12_unit cX12_unit 3 (some .boolean) (n + 10) [.ref 78] μ (some (.int r)) μ2) ∧ (∀ (y0 : Int32) (y1 : Int32) (μ : gs_M) (r : Int32) (μ2 : gs_M), MD n 5 y0 y1 μ = some (r, μ2) → CALL yX12_part cX12_part 5 (some .boolean) (n + 10) [.ref 78, .int y0, .int y1] μ (some (.int r)) μ2) ∧ (∀ (y0 : Int32) (y1 : Int32) (μ : gs_M) (r : Int32) (μ2 : gs_M), MD n 6 y0 y1 μ = some (r, μ2) → CALL yX12_condition cX12_condition 5 (some .boolean) (n + 10) [.ref 78, .int y0, .int y1] μ (some (.int r)) μ2) := by
  intro n
  induction n with
  | zero => exact ⟨(fun _ _ _ h => (by cases h)), (fun _ _ _ h => (by cases h)), (fun _ _ _ h => (by cases h)), (fun _ _ _ _ _ h => (by cases h)), (fun _ _ _ h => (by cases h)), (fun _ _ _ _ _ h => (by cases h)), (fun _ _ _ _ _ h => (by cases h))⟩
  | succ n ih =>
    obtain ⟨i0, i1, i2, i3, i4, i5, i6⟩ := ih
    exact ⟨(fun _ _ _ h => C_X12_atom i0 i1 i2 i3 i4 i5 i6 h), (fun _ _ _ h => C_X12_term i0 i1 i2 i3 i4 i5 i6 h), (fun _ _ _ h => C_X12_sum i0 i1 i2 i3 i4 i5 i6 h), (fun _ _ _ _ _ h => C_X12_compares i0 i1 i2 i3 i4 i5 i6 h), (fun _ _ _ h => C_X12_unit i0 i1 i2 i3 i4 i5 i6 h), (fun _ _ _ _ _ h => C_X12_part i0 i1 i2 i3 i4 i5 i6 h), (fun _ _ _ _ _ h => C_X12_condition i0 i1 i2 i3 i4 i5 i6 h)⟩
theorem MD_0 (n : Nat) : ∀ (μ : gs_M) (r : Int32) (μ2 : gs_M), MD n 0 0 0 μ = some (r, μ2) → CALL yX12_atom cX12_atom 4 (some .int) (n + 10) [.ref 78] μ (some (.int r)) μ2 := (MD_ok n).1
theorem MD_1 (n : Nat) : ∀ (μ : gs_M) (r : Int32) (μ2 : gs_M), MD n 1 0 0 μ = some (r, μ2) → CALL yX12_term cX12_term 5 (some .int) (n + 10) [.ref 78] μ (some (.int r)) μ2 := (MD_ok n).2.1
theorem MD_2 (n : Nat) : ∀ (μ : gs_M) (r : Int32) (μ2 : gs_M), MD n 2 0 0 μ = some (r, μ2) → CALL yX12_sum cX12_sum 5 (some .int) (n + 10) [.ref 78] μ (some (.int r)) μ2 := (MD_ok n).2.2.1
theorem MD_3 (n : Nat) : ∀ (y0 : Int32) (y1 : Int32) (μ : gs_M) (r : Int32) (μ2 : gs_M), MD n 3 y0 y1 μ = some (r, μ2) → CALL yX12_compares cX12_compares 6 (some .boolean) (n + 10) [.ref 78, .int y0, .int y1] μ (some (.int r)) μ2 := (MD_ok n).2.2.2.1
theorem MD_4 (n : Nat) : ∀ (μ : gs_M) (r : Int32) (μ2 : gs_M), MD n 4 0 0 μ = some (r, μ2) → CALL yX12_unit cX12_unit 3 (some .boolean) (n + 10) [.ref 78] μ (some (.int r)) μ2 := (MD_ok n).2.2.2.2.1
theorem MD_5 (n : Nat) : ∀ (y0 : Int32) (y1 : Int32) (μ : gs_M) (r : Int32) (μ2 : gs_M), MD n 5 y0 y1 μ = some (r, μ2) → CALL yX12_part cX12_part 5 (some .boolean) (n + 10) [.ref 78, .int y0, .int y1] μ (some (.int r)) μ2 := (MD_ok n).2.2.2.2.2.1
theorem MD_6 (n : Nat) : ∀ (y0 : Int32) (y1 : Int32) (μ : gs_M) (r : Int32) (μ2 : gs_M), MD n 6 y0 y1 μ = some (r, μ2) → CALL yX12_condition cX12_condition 5 (some .boolean) (n + 10) [.ref 78, .int y0, .int y1] μ (some (.int r)) μ2 := (MD_ok n).2.2.2.2.2.2
theorem d_X12_clause_0 : gd cX12_clause 0 (.aload_n 0) 1 1 := ⟨by decide +kernel, rfl⟩
theorem d_X12_clause_1 : gd cX12_clause 1 (.invokevirtual 138) 3 4 := ⟨by decide +kernel, rfl⟩
theorem d_X12_clause_4 : gd cX12_clause 4 (.istore_n 1) 1 5 := ⟨by decide +kernel, rfl⟩
theorem d_X12_clause_5 : gd cX12_clause 5 (.ldc 26) 2 7 := ⟨by decide +kernel, rfl⟩
theorem d_X12_clause_7 : gd cX12_clause 7 (.iload_n 1) 1 8 := ⟨by decide +kernel, rfl⟩
theorem d_X12_clause_8 : gd cX12_clause 8 (.invokestatic 154) 3 11 := ⟨by decide +kernel, rfl⟩
theorem d_X12_clause_11 : gd cX12_clause 11 (.ifCond .ne 9) 3 14 := ⟨by decide +kernel, rfl⟩
theorem d_X12_clause_14 : gd cX12_clause 14 (.aload_n 0) 1 15 := ⟨by decide +kernel, rfl⟩
theorem d_X12_clause_15 : gd cX12_clause 15 (.invokevirtual 134) 3 18 := ⟨by decide +kernel, rfl⟩
theorem d_X12_clause_18 : gd cX12_clause 18 .pop 1 19 := ⟨by decide +kernel, rfl⟩
theorem d_X12_clause_19 : gd cX12_clause 19 .return_ 1 20 := ⟨by decide +kernel, rfl⟩
theorem d_X12_clause_20 : gd cX12_clause 20 (.aload_n 0) 1 21 := ⟨by decide +kernel, rfl⟩
theorem d_X12_clause_21 : gd cX12_clause 21 .dup 1 22 := ⟨by decide +kernel, rfl⟩
theorem d_X12_clause_22 : gd cX12_clause 22 (.getfield 119) 3 25 := ⟨by decide +kernel, rfl⟩
theorem d_X12_clause_25 : gd cX12_clause 25 (.iconst 1) 1 26 := ⟨by decide +kernel, rfl⟩
theorem d_X12_clause_26 : gd cX12_clause 26 .iadd 1 27 := ⟨by decide +kernel, rfl⟩
theorem d_X12_clause_27 : gd cX12_clause 27 (.putfield 119) 3 30 := ⟨by decide +kernel, rfl⟩
theorem d_X12_clause_30 : gd cX12_clause 30 (.aload_n 0) 1 31 := ⟨by decide +kernel, rfl⟩
theorem d_X12_clause_31 : gd cX12_clause 31 (.bipush 58) 2 33 := ⟨by decide +kernel, rfl⟩
theorem d_X12_clause_33 : gd cX12_clause 33 (.invokevirtual 164) 3 36 := ⟨by decide +kernel, rfl⟩
theorem d_X12_clause_36 : gd cX12_clause 36 (.ifCond .ne 4) 3 39 := ⟨by decide +kernel, rfl⟩
theorem d_X12_clause_39 : gd cX12_clause 39 .return_ 1 40 := ⟨by decide +kernel, rfl⟩
theorem d_X12_clause_40 : gd cX12_clause 40 (.iconst 1) 1 41 := ⟨by decide +kernel, rfl⟩
theorem d_X12_clause_41 : gd cX12_clause 41 (.istore_n 2) 1 42 := ⟨by decide +kernel, rfl⟩
theorem d_X12_clause_42 : gd cX12_clause 42 (.iconst 0) 1 43 := ⟨by decide +kernel, rfl⟩
theorem d_X12_clause_43 : gd cX12_clause 43 (.istore_n 3) 1 44 := ⟨by decide +kernel, rfl⟩
theorem d_X12_clause_44 : gd cX12_clause 44 (.aload_n 0) 1 45 := ⟨by decide +kernel, rfl⟩
theorem d_X12_clause_45 : gd cX12_clause 45 (.invokevirtual 138) 3 48 := ⟨by decide +kernel, rfl⟩
theorem d_X12_clause_48 : gd cX12_clause 48 (.istore 4) 2 50 := ⟨by decide +kernel, rfl⟩
theorem d_X12_clause_50 : gd cX12_clause 50 (.iload 4) 2 52 := ⟨by decide +kernel, rfl⟩
theorem d_X12_clause_52 : gd cX12_clause 52 (.bipush 33) 2 54 := ⟨by decide +kernel, rfl⟩
theorem d_X12_clause_54 : gd cX12_clause 54 (.if_icmp .eq 10) 3 57 := ⟨by decide +kernel, rfl⟩
theorem d_X12_clause_57 : gd cX12_clause 57 (.iload 4) 2 59 := ⟨by decide +kernel, rfl⟩
theorem d_X12_clause_59 : gd cX12_clause 59 (.bipush 40) 2 61 := ⟨by decide +kernel, rfl⟩
theorem d_X12_clause_61 : gd cX12_clause 61 (.if_icmp .ne 28) 3 64 := ⟨by decide +kernel, rfl⟩
theorem d_X12_clause_64 : gd cX12_clause 64 (.aload_n 0) 1 65 := ⟨by decide +kernel, rfl⟩
theorem d_X12_clause_65 : gd cX12_clause 65 (.iconst 0) 1 66 := ⟨by decide +kernel, rfl⟩
theorem d_X12_clause_66 : gd cX12_clause 66 (.iconst 0) 1 67 := ⟨by decide +kernel, rfl⟩
theorem d_X12_clause_67 : gd cX12_clause 67 (.invokevirtual 187) 3 70 := ⟨by decide +kernel, rfl⟩
theorem d_X12_clause_70 : gd cX12_clause 70 (.istore_n 2) 1 71 := ⟨by decide +kernel, rfl⟩
theorem d_X12_clause_71 : gd cX12_clause 71 (.aload_n 0) 1 72 := ⟨by decide +kernel, rfl⟩
theorem d_X12_clause_72 : gd cX12_clause 72 (.bipush 63) 2 74 := ⟨by decide +kernel, rfl⟩
theorem d_X12_clause_74 : gd cX12_clause 74 (.invokevirtual 164) 3 77 := ⟨by decide +kernel, rfl⟩
theorem d_X12_clause_77 : gd cX12_clause 77 (.ifCond .ne 4) 3 80 := ⟨by decide +kernel, rfl⟩
theorem d_X12_clause_80 : gd cX12_clause 80 .return_ 1 81 := ⟨by decide +kernel, rfl⟩
theorem d_X12_clause_81 : gd cX12_clause 81 (.aload_n 0) 1 82 := ⟨by decide +kernel, rfl⟩
theorem d_X12_clause_82 : gd cX12_clause 82 (.invokevirtual 161) 3 85 := ⟨by decide +kernel, rfl⟩
theorem d_X12_clause_85 : gd cX12_clause 85 (.istore_n 3) 1 86 := ⟨by decide +kernel, rfl⟩
theorem d_X12_clause_86 : gd cX12_clause 86 (.goto 48) 3 89 := ⟨by decide +kernel, rfl⟩
theorem d_X12_clause_89 : gd cX12_clause 89 (.aload_n 0) 1 90 := ⟨by decide +kernel, rfl⟩
theorem d_X12_clause_90 : gd cX12_clause 90 (.invokevirtual 161) 3 93 := ⟨by decide +kernel, rfl⟩
theorem d_X12_clause_93 : gd cX12_clause 93 (.istore_n 3) 1 94 := ⟨by decide +kernel, rfl⟩
theorem d_X12_clause_94 : gd cX12_clause 94 (.aload_n 0) 1 95 := ⟨by decide +kernel, rfl⟩
theorem d_X12_clause_95 : gd cX12_clause 95 (.getfield 128) 3 98 := ⟨by decide +kernel, rfl⟩
theorem d_X12_clause_98 : gd cX12_clause 98 (.iconst (-1)) 1 99 := ⟨by decide +kernel, rfl⟩
theorem d_X12_clause_99 : gd cX12_clause 99 (.if_icmp .ne 35) 3 102 := ⟨by decide +kernel, rfl⟩
theorem d_X12_clause_102 : gd cX12_clause 102 (.aload_n 0) 1 103 := ⟨by decide +kernel, rfl⟩
theorem d_X12_clause_103 : gd cX12_clause 103 (.invokevirtual 138) 3 106 := ⟨by decide +kernel, rfl⟩
theorem d_X12_clause_106 : gd cX12_clause 106 (.invokestatic 181) 3 109 := ⟨by decide +kernel, rfl⟩
theorem d_X12_clause_109 : gd cX12_clause 109 (.ifCond .eq 25) 3 112 := ⟨by decide +kernel, rfl⟩
theorem d_X12_clause_112 : gd cX12_clause 112 (.aload_n 0) 1 113 := ⟨by decide +kernel, rfl⟩
theorem d_X12_clause_113 : gd cX12_clause 113 (.iconst 1) 1 114 := ⟨by decide +kernel, rfl⟩
theorem d_X12_clause_114 : gd cX12_clause 114 (.iload_n 3) 1 115 := ⟨by decide +kernel, rfl⟩
theorem d_X12_clause_115 : gd cX12_clause 115 (.invokevirtual 187) 3 118 := ⟨by decide +kernel, rfl⟩
theorem d_X12_clause_118 : gd cX12_clause 118 (.istore_n 2) 1 119 := ⟨by decide +kernel, rfl⟩
theorem d_X12_clause_119 : gd cX12_clause 119 (.aload_n 0) 1 120 := ⟨by decide +kernel, rfl⟩
theorem d_X12_clause_120 : gd cX12_clause 120 (.bipush 63) 2 122 := ⟨by decide +kernel, rfl⟩
theorem d_X12_clause_122 : gd cX12_clause 122 (.invokevirtual 164) 3 125 := ⟨by decide +kernel, rfl⟩
theorem d_X12_clause_125 : gd cX12_clause 125 (.ifCond .ne 4) 3 128 := ⟨by decide +kernel, rfl⟩
theorem d_X12_clause_128 : gd cX12_clause 128 .return_ 1 129 := ⟨by decide +kernel, rfl⟩
theorem d_X12_clause_129 : gd cX12_clause 129 (.aload_n 0) 1 130 := ⟨by decide +kernel, rfl⟩
theorem d_X12_clause_130 : gd cX12_clause 130 (.invokevirtual 161) 3 133 := ⟨by decide +kernel, rfl⟩
theorem d_X12_clause_133 : gd cX12_clause 133 (.istore_n 3) 1 134 := ⟨by decide +kernel, rfl⟩
theorem d_X12_clause_134 : gd cX12_clause 134 (.aload_n 0) 1 135 := ⟨by decide +kernel, rfl⟩
theorem d_X12_clause_135 : gd cX12_clause 135 (.getfield 128) 3 138 := ⟨by decide +kernel, rfl⟩
theorem d_X12_clause_138 : gd cX12_clause 138 (.iconst (-1)) 1 139 := ⟨by decide +kernel, rfl⟩
theorem d_X12_clause_139 : gd cX12_clause 139 (.if_icmp .ne 22) 3 142 := ⟨by decide +kernel, rfl⟩
theorem d_X12_clause_142 : gd cX12_clause 142 (.aload_n 0) 1 143 := ⟨by decide +kernel, rfl⟩
theorem d_X12_clause_143 : gd cX12_clause 143 (.getfield 197) 3 146 := ⟨by decide +kernel, rfl⟩
theorem d_X12_clause_146 : gd cX12_clause 146 (.ifCond .ne 15) 3 149 := ⟨by decide +kernel, rfl⟩
theorem d_X12_clause_149 : gd cX12_clause 149 (.iload_n 1) 1 150 := ⟨by decide +kernel, rfl⟩
theorem d_X12_clause_150 : gd cX12_clause 150 (.aload_n 0) 1 151 := ⟨by decide +kernel, rfl⟩
theorem d_X12_clause_151 : gd cX12_clause 151 (.getfield 201) 3 154 := ⟨by decide +kernel, rfl⟩
theorem d_X12_clause_154 : gd cX12_clause 154 (.if_icmp .ne 7) 3 157 := ⟨by decide +kernel, rfl⟩
theorem d_X12_clause_157 : gd cX12_clause 157 (.iload_n 2) 1 158 := ⟨by decide +kernel, rfl⟩
theorem d_X12_clause_158 : gd cX12_clause 158 (.ifCond .ne 4) 3 161 := ⟨by decide +kernel, rfl⟩
theorem d_X12_clause_161 : gd cX12_clause 161 .return_ 1 162 := ⟨by decide +kernel, rfl⟩
theorem d_X12_clause_162 : gd cX12_clause 162 (.aload_n 0) 1 163 := ⟨by decide +kernel, rfl⟩
theorem d_X12_clause_163 : gd cX12_clause 163 (.iconst 1) 1 164 := ⟨by decide +kernel, rfl⟩
theorem d_X12_clause_164 : gd cX12_clause 164 (.putfield 197) 3 167 := ⟨by decide +kernel, rfl⟩
theorem d_X12_clause_167 : gd cX12_clause 167 (.aload_n 0) 1 168 := ⟨by decide +kernel, rfl⟩
theorem d_X12_clause_168 : gd cX12_clause 168 (.iload_n 3) 1 169 := ⟨by decide +kernel, rfl⟩
theorem d_X12_clause_169 : gd cX12_clause 169 (.putfield 204) 3 172 := ⟨by decide +kernel, rfl⟩
theorem d_X12_clause_172 : gd cX12_clause 172 .return_ 1 173 := ⟨by decide +kernel, rfl⟩
def B_X12_clause_134  (x1 : Int32) (x2 : Int32) (x3 : Int32) (μ : gs_M) : Option (gs_M) :=
  if (gI μ 78 11) = (-1 : Int32) then (if (gI μ 78 17) = 0 then (if x1 = (gI μ 78 13) then (if x2 = 0 then (some μ) else (lt1 (sI μ 78 17 (1 : Int32)) (fun u5 => lt1 (sI u5 78 14 x3) (fun u6 => some u6)))) else (some μ)) else (some μ)) else (some μ)
def B_X12_clause_64  (x1 : Int32) (μ : gs_M) : Option (gs_M) :=
  bd (MD 64 6 (0 : Int32) (0 : Int32) μ) (fun v3 u2 => bd (D_X12_takes (63 : Int32) u2) (fun v6 u5 => if v6 = 0 then (some u5) else (bd (MD 64 2 0 0 u5) (fun v10 u9 => B_X12_clause_134 x1 v3 v10 u9))))
def D_X12_clause  (μ : gs_M) : Option (gs_M) :=
  bd (D_X12_look μ) (fun v3 u2 => bd (D_X12_isAmong 105 v3 u2) (fun v6 u5 => if v6 = 0 then (bd (D_X12_fails u5) (fun v41 u40 => some u40)) else (lt1 (sI u5 78 10 ((gI u5 78 10) + (1 : Int32))) (fun u8 => bd (D_X12_takes (58 : Int32) u8) (fun v11 u10 => if v11 = 0 then (some u10) else (bd (D_X12_look u10) (fun v15 u14 => if v15 = (33 : Int32) then (B_X12_clause_64 v3 u14) else (if v15 = (40 : Int32) then (B_X12_clause_64 v3 u14) else (bd (MD 64 2 0 0 u14) (fun v20 u19 => if (gI u19 78 11) = (-1 : Int32) then (bd (D_X12_look u19) (fun v24 u23 => bd (D_X12_isSign v24 u23) (fun v27 u26 => if v27 = 0 then (B_X12_clause_134 v3 (1 : Int32) v20 u26) else (bd (MD 64 6 (1 : Int32) v20 u26) (fun v31 u30 => bd (D_X12_takes (63 : Int32) u30) (fun v34 u33 => if v34 = 0 then (some u33) else (bd (MD 64 2 0 0 u33) (fun v38 u37 => B_X12_clause_134 v3 v31 v38 u37)))))))) else (B_X12_clause_134 v3 (1 : Int32) v20 u19)))))))))))
section S_X12_clause
variable {p : Program} {l : Launch} {e : Env} {R : Room} {s : State} {m : MethodId} {args : Array Value} {below : List Frame} {meth : Method} {c : Code} {ad : Nat → Nat} {g : va_G} {tyc : Nat → ClassId}
set_option maxRecDepth 20000 in
theorem T_X12_clause_134  (hK : KC p R s m args meth c ad g tyc RX12 cX12_clause 5 none 75) {μ2 : gs_M}   {x1 : Int32} {x2 : Int32} {x3 : Int32} {μ : gs_M}  (hD : B_X12_clause_134  x1 x2 x3 μ = some μ2) : WJ p l e R s m args below meth c 0 0 (MQ below (gs_Q ad g tyc none μ2) args s 0 0 (gs_A ad)) ad g tyc 5 134 [.ref 78, .int x1, .int x2, .int x3, gs_J] [] μ := by
  unfold B_X12_clause_134 at hD
  refine r_aload_n hK d_X12_clause_134 rfl rfl ?_
  refine r_getI hK d_X12_clause_135 fl_RX12_128_11 rfl kd_78 ?_
  refine r_iconst hK d_X12_clause_138 ci_m1 ?_
  refine r_icmp_ne (tgt := 161) hK d_X12_clause_139 (by decide) (fun h1 => ?_) (fun h1 => ?_)
  · have hD := if_f hD h1
    cases hD
    exact r_vret hK d_X12_clause_161
  · have hD := if_t hD h1
    refine r_aload_n hK d_X12_clause_142 rfl rfl ?_
    refine r_getZ hK d_X12_clause_143 fl_RX12_197_11 rfl kd_78 ?_
    refine r_if_ne (tgt := 161) hK d_X12_clause_146 (by decide) (fun h2 => ?_) (fun h2 => ?_)
    · have hD := if_f hD h2
      cases hD
      exact r_vret hK d_X12_clause_161
    · have hD := if_t hD h2
      refine r_iload_n hK d_X12_clause_149 rfl rfl ?_
      refine r_aload_n hK d_X12_clause_150 rfl rfl ?_
      refine r_getI hK d_X12_clause_151 fl_RX12_201_11 rfl kd_78 ?_
      refine r_icmp_ne (tgt := 161) hK d_X12_clause_154 (by decide) (fun h3 => ?_) (fun h3 => ?_)
      · have hD := if_f hD h3
        cases hD
        exact r_vret hK d_X12_clause_161
      · have hD := if_t hD h3
        refine r_iload_n hK d_X12_clause_157 rfl rfl ?_
        refine r_if_ne (tgt := 162) hK d_X12_clause_158 (by decide) (fun h4 => ?_) (fun h4 => ?_)
        · have hD := if_f hD h4
          refine r_aload_n hK d_X12_clause_162 rfl rfl ?_
          refine r_iconst hK d_X12_clause_163 ci_1 ?_
          refine r_putZ hK d_X12_clause_164 fl_RX12_197_11 rfl rfl kd_78 (Or.inr rfl) ?_
          refine r_ltm hD (fun u5 hD => ?_)
          refine r_aload_n hK d_X12_clause_167 rfl rfl ?_
          refine r_iload_n hK d_X12_clause_168 rfl rfl ?_
          refine r_putI hK d_X12_clause_169 fl_RX12_204_11 rfl rfl kd_78 ?_
          refine r_ltm hD (fun u6 hD => ?_)
          cases hD
          exact r_vret hK d_X12_clause_172
        · have hD := if_t hD h4
          cases hD
          exact r_vret hK d_X12_clause_161
set_option maxRecDepth 20000 in
theorem T_X12_clause_64  (hK : KC p R s m args meth c ad g tyc RX12 cX12_clause 5 none 75) {μ2 : gs_M}   {x1 : Int32} {μ : gs_M}  (hD : B_X12_clause_64  x1 μ = some μ2) : WJ p l e R s m args below meth c 0 0 (MQ below (gs_Q ad g tyc none μ2) args s 0 0 (gs_A ad)) ad g tyc 5 64 [.ref 78, .int x1, gs_J, gs_J, gs_J] [] μ := by
  unfold B_X12_clause_64 at hD
  refine r_aload_n hK d_X12_clause_64 rfl rfl ?_
  refine r_iconst hK d_X12_clause_65 ci_0 ?_
  refine r_iconst hK d_X12_clause_66 ci_0 ?_
  obtain ⟨v3, u2, e1, hD⟩ := bd_e hD
  refine r_callV (As := [.int (0 : Int32), .int (0 : Int32)]) (st := []) (stk2 := [.int v3]) hK (MD_6 64 _ _ _ _ _ e1) d_X12_clause_67 mf_X12_condition ml_RX12_187 im_X12_condition rfl se_11_RX12_X12_condition kd_78 rfl (Nat.le_of_ble_eq_true rfl) (by decide) ⟨Nat.zero_le _, Nat.zero_le _⟩ rfl rfl ?_
  refine r_istore_n hK d_X12_clause_70 rfl (by decide) (ls2 := [.ref 78, .int x1, .int v3, gs_J, gs_J]) rfl ?_
  refine r_aload_n hK d_X12_clause_71 rfl rfl ?_
  refine r_bipush hK d_X12_clause_72 cb_63 ?_
  obtain ⟨v6, u5, e4, hD⟩ := bd_e hD
  refine r_callV (As := [.int (63 : Int32)]) (st := []) (stk2 := [.int v6]) hK (C_X12_takes  e4) d_X12_clause_74 mf_X12_takes ml_RX12_164 im_X12_takes rfl se_11_RX12_X12_takes kd_78 rfl (Nat.le_of_ble_eq_true rfl) (by decide) ⟨Nat.zero_le _, Nat.zero_le _⟩ rfl rfl ?_
  refine r_if_ne (tgt := 81) hK d_X12_clause_77 (by decide) (fun h7 => ?_) (fun h7 => ?_)
  · have hD := if_f hD h7
    refine r_aload_n hK d_X12_clause_81 rfl rfl ?_
    obtain ⟨v10, u9, e8, hD⟩ := bd_e hD
    refine r_callV (As := []) (st := []) (stk2 := [.int v10]) hK (MD_2 64 _ _ _ e8) d_X12_clause_82 mf_X12_sum ml_RX12_161 im_X12_sum rfl se_11_RX12_X12_sum kd_78 rfl (Nat.le_of_ble_eq_true rfl) (by decide) ⟨Nat.zero_le _, Nat.zero_le _⟩ rfl rfl ?_
    refine r_istore_n hK d_X12_clause_85 rfl (by decide) (ls2 := [.ref 78, .int x1, .int v3, .int v10, gs_J]) rfl ?_
    refine r_goto (tgt := 134) hK d_X12_clause_86 (by decide) ?_
    exact T_X12_clause_134 hK   hD
  · have hD := if_t hD h7
    cases hD
    exact r_vret hK d_X12_clause_80
set_option maxRecDepth 20000 in
theorem C_X12_clause   {μ : gs_M} {μ2 : gs_M}  (hD : D_X12_clause  μ = some μ2) : CALL yX12_clause cX12_clause 5 none 75 [.ref 78] μ none μ2 := by
  unfold D_X12_clause at hD
  refine gs_enter mf_X12_clause (Nat.le_of_ble_eq_true rfl) (ls := [.ref 78, gs_J, gs_J, gs_J, gs_J]) rfl (fun p l e R s m args below meth c ad g tyc hK => ?_)
  have hK : KC p R s m args meth c ad g tyc RX12 cX12_clause 5 none 75 := hK
  refine r_aload_n hK d_X12_clause_0 rfl rfl ?_
  obtain ⟨v3, u2, e1, hD⟩ := bd_e hD
  refine r_callV (As := []) (st := []) (stk2 := [.int v3]) hK (C_X12_look  e1) d_X12_clause_1 mf_X12_look ml_RX12_138 im_X12_look rfl se_11_RX12_X12_look kd_78 rfl (Nat.le_of_ble_eq_true rfl) (by decide) ⟨Nat.zero_le _, Nat.zero_le _⟩ rfl rfl ?_
  refine r_istore_n hK d_X12_clause_4 rfl (by decide) (ls2 := [.ref 78, .int v3, gs_J, gs_J, gs_J]) rfl ?_
  refine r_ldcS (b := 105) hK d_X12_clause_5 (fun q => q.1) ?_
  refine r_iload_n hK d_X12_clause_7 rfl rfl ?_
  obtain ⟨v6, u5, e4, hD⟩ := bd_e hD
  refine r_callS (As := [.ref 105, .int v3]) (st := []) (stk2 := [.int v6]) hK (C_X12_isAmong lstr_105 e4) d_X12_clause_8 mf_X12_isAmong ml_RX12_154 ss_X12_isAmong rfl (Nat.le_of_ble_eq_true rfl) (by decide) ⟨Nat.zero_le _, Nat.zero_le _⟩ rfl rfl ?_
  refine r_if_ne (tgt := 20) hK d_X12_clause_11 (by decide) (fun h7 => ?_) (fun h7 => ?_)
  · have hD := if_f hD h7
    refine r_aload_n hK d_X12_clause_20 rfl rfl ?_
    refine r_dup hK d_X12_clause_21 rfl ?_
    refine r_getI hK d_X12_clause_22 fl_RX12_119_11 rfl kd_78 ?_
    refine r_iconst hK d_X12_clause_25 ci_1 ?_
    refine r_iadd hK d_X12_clause_26 ?_
    refine r_putI hK d_X12_clause_27 fl_RX12_119_11 rfl rfl kd_78 ?_
    refine r_ltm hD (fun u8 hD => ?_)
    refine r_aload_n hK d_X12_clause_30 rfl rfl ?_
    refine r_bipush hK d_X12_clause_31 cb_58 ?_
    obtain ⟨v11, u10, e9, hD⟩ := bd_e hD
    refine r_callV (As := [.int (58 : Int32)]) (st := []) (stk2 := [.int v11]) hK (C_X12_takes  e9) d_X12_clause_33 mf_X12_takes ml_RX12_164 im_X12_takes rfl se_11_RX12_X12_takes kd_78 rfl (Nat.le_of_ble_eq_true rfl) (by decide) ⟨Nat.zero_le _, Nat.zero_le _⟩ rfl rfl ?_
    refine r_if_ne (tgt := 40) hK d_X12_clause_36 (by decide) (fun h12 => ?_) (fun h12 => ?_)
    · have hD := if_f hD h12
      refine r_iconst hK d_X12_clause_40 ci_1 ?_
      refine r_istore_n hK d_X12_clause_41 rfl (by decide) (ls2 := [.ref 78, .int v3, .int (1 : Int32), gs_J, gs_J]) rfl ?_
      refine r_iconst hK d_X12_clause_42 ci_0 ?_
      refine r_istore_n hK d_X12_clause_43 rfl (by decide) (ls2 := [.ref 78, .int v3, .int (1 : Int32), .int (0 : Int32), gs_J]) rfl ?_
      refine r_aload_n hK d_X12_clause_44 rfl rfl ?_
      obtain ⟨v15, u14, e13, hD⟩ := bd_e hD
      refine r_callV (As := []) (st := []) (stk2 := [.int v15]) hK (C_X12_look  e13) d_X12_clause_45 mf_X12_look ml_RX12_138 im_X12_look rfl se_11_RX12_X12_look kd_78 rfl (Nat.le_of_ble_eq_true rfl) (by decide) ⟨Nat.zero_le _, Nat.zero_le _⟩ rfl rfl ?_
      refine r_istore hK d_X12_clause_48 (by decide) (ls2 := [.ref 78, .int v3, .int (1 : Int32), .int (0 : Int32), .int v15]) rfl ?_
      refine r_iload hK d_X12_clause_50 rfl ?_
      refine r_bipush hK d_X12_clause_52 cb_33 ?_
      refine r_icmp_eq (tgt := 64) hK d_X12_clause_54 (by decide) (fun h16 => ?_) (fun h16 => ?_)
      · have hD := if_t hD h16
        refine r_junk [true, true, false, false, false] (ls2 := [.ref 78, .int v3, gs_J, gs_J, gs_J]) rfl ?_
        exact T_X12_clause_64 hK   hD
      · have hD := if_f hD h16
        refine r_iload hK d_X12_clause_57 rfl ?_
        refine r_bipush hK d_X12_clause_59 cb_40 ?_
        refine r_icmp_ne (tgt := 89) hK d_X12_clause_61 (by decide) (fun h17 => ?_) (fun h17 => ?_)
        · have hD := if_f hD h17
          refine r_aload_n hK d_X12_clause_89 rfl rfl ?_
          obtain ⟨v20, u19, e18, hD⟩ := bd_e hD
          refine r_callV (As := []) (st := []) (stk2 := [.int v20]) hK (MD_2 64 _ _ _ e18) d_X12_clause_90 mf_X12_sum ml_RX12_161 im_X12_sum rfl se_11_RX12_X12_sum kd_78 rfl (Nat.le_of_ble_eq_true rfl) (by decide) ⟨Nat.zero_le _, Nat.zero_le _⟩ rfl rfl ?_
          refine r_istore_n hK d_X12_clause_93 rfl (by decide) (ls2 := [.ref 78, .int v3, .int (1 : Int32), .int v20, .int v15]) rfl ?_
          refine r_aload_n hK d_X12_clause_94 rfl rfl ?_
          refine r_getI hK d_X12_clause_95 fl_RX12_128_11 rfl kd_78 ?_
          refine r_iconst hK d_X12_clause_98 ci_m1 ?_
          refine r_icmp_ne (tgt := 134) hK d_X12_clause_99 (by decide) (fun h21 => ?_) (fun h21 => ?_)
          · have hD := if_f hD h21
            refine r_junk [true, true, true, true, false] (ls2 := [.ref 78, .int v3, .int (1 : Int32), .int v20, gs_J]) rfl ?_
            exact T_X12_clause_134 hK   hD
          · have hD := if_t hD h21
            refine r_aload_n hK d_X12_clause_102 rfl rfl ?_
            obtain ⟨v24, u23, e22, hD⟩ := bd_e hD
            refine r_callV (As := []) (st := []) (stk2 := [.int v24]) hK (C_X12_look  e22) d_X12_clause_103 mf_X12_look ml_RX12_138 im_X12_look rfl se_11_RX12_X12_look kd_78 rfl (Nat.le_of_ble_eq_true rfl) (by decide) ⟨Nat.zero_le _, Nat.zero_le _⟩ rfl rfl ?_
            obtain ⟨v27, u26, e25, hD⟩ := bd_e hD
            refine r_callS (As := [.int v24]) (st := []) (stk2 := [.int v27]) hK (C_X12_isSign  e25) d_X12_clause_106 mf_X12_isSign ml_RX12_181 ss_X12_isSign rfl (Nat.le_of_ble_eq_true rfl) (by decide) ⟨Nat.zero_le _, Nat.zero_le _⟩ rfl rfl ?_
            refine r_if_eq (tgt := 134) hK d_X12_clause_109 (by decide) (fun h28 => ?_) (fun h28 => ?_)
            · have hD := if_t hD h28
              refine r_junk [true, true, true, true, false] (ls2 := [.ref 78, .int v3, .int (1 : Int32), .int v20, gs_J]) rfl ?_
              exact T_X12_clause_134 hK   hD
            · have hD := if_f hD h28
              refine r_aload_n hK d_X12_clause_112 rfl rfl ?_
              refine r_iconst hK d_X12_clause_113 ci_1 ?_
              refine r_iload_n hK d_X12_clause_114 rfl rfl ?_
              obtain ⟨v31, u30, e29, hD⟩ := bd_e hD
              refine r_callV (As := [.int (1 : Int32), .int v20]) (st := []) (stk2 := [.int v31]) hK (MD_6 64 _ _ _ _ _ e29) d_X12_clause_115 mf_X12_condition ml_RX12_187 im_X12_condition rfl se_11_RX12_X12_condition kd_78 rfl (Nat.le_of_ble_eq_true rfl) (by decide) ⟨Nat.zero_le _, Nat.zero_le _⟩ rfl rfl ?_
              refine r_istore_n hK d_X12_clause_118 rfl (by decide) (ls2 := [.ref 78, .int v3, .int v31, .int v20, .int v15]) rfl ?_
              refine r_aload_n hK d_X12_clause_119 rfl rfl ?_
              refine r_bipush hK d_X12_clause_120 cb_63 ?_
              obtain ⟨v34, u33, e32, hD⟩ := bd_e hD
              refine r_callV (As := [.int (63 : Int32)]) (st := []) (stk2 := [.int v34]) hK (C_X12_takes  e32) d_X12_clause_122 mf_X12_takes ml_RX12_164 im_X12_takes rfl se_11_RX12_X12_takes kd_78 rfl (Nat.le_of_ble_eq_true rfl) (by decide) ⟨Nat.zero_le _, Nat.zero_le _⟩ rfl rfl ?_
              refine r_if_ne (tgt := 129) hK d_X12_clause_125 (by decide) (fun h35 => ?_) (fun h35 => ?_)
              · have hD := if_f hD h35
                refine r_aload_n hK d_X12_clause_129 rfl rfl ?_
                obtain ⟨v38, u37, e36, hD⟩ := bd_e hD
                refine r_callV (As := []) (st := []) (stk2 := [.int v38]) hK (MD_2 64 _ _ _ e36) d_X12_clause_130 mf_X12_sum ml_RX12_161 im_X12_sum rfl se_11_RX12_X12_sum kd_78 rfl (Nat.le_of_ble_eq_true rfl) (by decide) ⟨Nat.zero_le _, Nat.zero_le _⟩ rfl rfl ?_
                refine r_istore_n hK d_X12_clause_133 rfl (by decide) (ls2 := [.ref 78, .int v3, .int v31, .int v38, .int v15]) rfl ?_
                refine r_junk [true, true, true, true, false] (ls2 := [.ref 78, .int v3, .int v31, .int v38, gs_J]) rfl ?_
                exact T_X12_clause_134 hK   hD
              · have hD := if_t hD h35
                cases hD
                exact r_vret hK d_X12_clause_128
        · have hD := if_t hD h17
          refine r_junk [true, true, false, false, false] (ls2 := [.ref 78, .int v3, gs_J, gs_J, gs_J]) rfl ?_
          exact T_X12_clause_64 hK   hD
    · have hD := if_t hD h12
      cases hD
      exact r_vret hK d_X12_clause_39
  · have hD := if_t hD h7
    refine r_aload_n hK d_X12_clause_14 rfl rfl ?_
    obtain ⟨v41, u40, e39, hD⟩ := bd_e hD
    refine r_callV (As := []) (st := []) (stk2 := [.int v41]) hK (C_X12_fails  e39) d_X12_clause_15 mf_X12_fails ml_RX12_134 im_X12_fails rfl se_11_RX12_X12_fails kd_78 rfl (Nat.le_of_ble_eq_true rfl) (by decide) ⟨Nat.zero_le _, Nat.zero_le _⟩ rfl rfl ?_
    refine r_pop hK d_X12_clause_18 rfl ?_
    cases hD
    exact r_vret hK d_X12_clause_19
end S_X12_clause
theorem d_X12_goThrough_0 : gd cX12_goThrough 0 (.aload_n 0) 1 1 := ⟨by decide +kernel, rfl⟩
theorem d_X12_goThrough_1 : gd cX12_goThrough 1 (.aload_n 1) 1 2 := ⟨by decide +kernel, rfl⟩
theorem d_X12_goThrough_2 : gd cX12_goThrough 2 (.iload_n 2) 1 3 := ⟨by decide +kernel, rfl⟩
theorem d_X12_goThrough_3 : gd cX12_goThrough 3 (.iload_n 3) 1 4 := ⟨by decide +kernel, rfl⟩
theorem d_X12_goThrough_4 : gd cX12_goThrough 4 (.invokevirtual 207) 3 7 := ⟨by decide +kernel, rfl⟩
theorem d_X12_goThrough_7 : gd cX12_goThrough 7 (.aload_n 0) 1 8 := ⟨by decide +kernel, rfl⟩
theorem d_X12_goThrough_8 : gd cX12_goThrough 8 (.bipush 121) 2 10 := ⟨by decide +kernel, rfl⟩
theorem d_X12_goThrough_10 : gd cX12_goThrough 10 (.putfield 201) 3 13 := ⟨by decide +kernel, rfl⟩
theorem d_X12_goThrough_13 : gd cX12_goThrough 13 (.aload_n 0) 1 14 := ⟨by decide +kernel, rfl⟩
theorem d_X12_goThrough_14 : gd cX12_goThrough 14 (.iconst 0) 1 15 := ⟨by decide +kernel, rfl⟩
theorem d_X12_goThrough_15 : gd cX12_goThrough 15 (.putfield 131) 3 18 := ⟨by decide +kernel, rfl⟩
theorem d_X12_goThrough_18 : gd cX12_goThrough 18 (.aload_n 0) 1 19 := ⟨by decide +kernel, rfl⟩
theorem d_X12_goThrough_19 : gd cX12_goThrough 19 (.iconst 0) 1 20 := ⟨by decide +kernel, rfl⟩
theorem d_X12_goThrough_20 : gd cX12_goThrough 20 (.putfield 197) 3 23 := ⟨by decide +kernel, rfl⟩
theorem d_X12_goThrough_23 : gd cX12_goThrough 23 (.aload_n 0) 1 24 := ⟨by decide +kernel, rfl⟩
theorem d_X12_goThrough_24 : gd cX12_goThrough 24 (.iconst 0) 1 25 := ⟨by decide +kernel, rfl⟩
theorem d_X12_goThrough_25 : gd cX12_goThrough 25 (.putfield 204) 3 28 := ⟨by decide +kernel, rfl⟩
theorem d_X12_goThrough_28 : gd cX12_goThrough 28 (.aload_n 0) 1 29 := ⟨by decide +kernel, rfl⟩
theorem d_X12_goThrough_29 : gd cX12_goThrough 29 (.invokevirtual 211) 3 32 := ⟨by decide +kernel, rfl⟩
theorem d_X12_goThrough_32 : gd cX12_goThrough 32 (.aload_n 0) 1 33 := ⟨by decide +kernel, rfl⟩
theorem d_X12_goThrough_33 : gd cX12_goThrough 33 (.getfield 128) 3 36 := ⟨by decide +kernel, rfl⟩
theorem d_X12_goThrough_36 : gd cX12_goThrough 36 (.iconst (-1)) 1 37 := ⟨by decide +kernel, rfl⟩
theorem d_X12_goThrough_37 : gd cX12_goThrough 37 (.if_icmp .ne 29) 3 40 := ⟨by decide +kernel, rfl⟩
theorem d_X12_goThrough_40 : gd cX12_goThrough 40 (.aload_n 0) 1 41 := ⟨by decide +kernel, rfl⟩
theorem d_X12_goThrough_41 : gd cX12_goThrough 41 (.invokevirtual 138) 3 44 := ⟨by decide +kernel, rfl⟩
theorem d_X12_goThrough_44 : gd cX12_goThrough 44 (.bipush 59) 2 46 := ⟨by decide +kernel, rfl⟩
theorem d_X12_goThrough_46 : gd cX12_goThrough 46 (.if_icmp .ne 20) 3 49 := ⟨by decide +kernel, rfl⟩
theorem d_X12_goThrough_49 : gd cX12_goThrough 49 (.aload_n 0) 1 50 := ⟨by decide +kernel, rfl⟩
theorem d_X12_goThrough_50 : gd cX12_goThrough 50 .dup 1 51 := ⟨by decide +kernel, rfl⟩
theorem d_X12_goThrough_51 : gd cX12_goThrough 51 (.getfield 119) 3 54 := ⟨by decide +kernel, rfl⟩
theorem d_X12_goThrough_54 : gd cX12_goThrough 54 (.iconst 1) 1 55 := ⟨by decide +kernel, rfl⟩
theorem d_X12_goThrough_55 : gd cX12_goThrough 55 .iadd 1 56 := ⟨by decide +kernel, rfl⟩
theorem d_X12_goThrough_56 : gd cX12_goThrough 56 (.putfield 119) 3 59 := ⟨by decide +kernel, rfl⟩
theorem d_X12_goThrough_59 : gd cX12_goThrough 59 (.aload_n 0) 1 60 := ⟨by decide +kernel, rfl⟩
theorem d_X12_goThrough_60 : gd cX12_goThrough 60 (.invokevirtual 211) 3 63 := ⟨by decide +kernel, rfl⟩
theorem d_X12_goThrough_63 : gd cX12_goThrough 63 (.goto (-31)) 3 66 := ⟨by decide +kernel, rfl⟩
theorem d_X12_goThrough_66 : gd cX12_goThrough 66 (.aload_n 0) 1 67 := ⟨by decide +kernel, rfl⟩
theorem d_X12_goThrough_67 : gd cX12_goThrough 67 (.getfield 128) 3 70 := ⟨by decide +kernel, rfl⟩
theorem d_X12_goThrough_70 : gd cX12_goThrough 70 (.iconst (-1)) 1 71 := ⟨by decide +kernel, rfl⟩
theorem d_X12_goThrough_71 : gd cX12_goThrough 71 (.if_icmp .ne 16) 3 74 := ⟨by decide +kernel, rfl⟩
theorem d_X12_goThrough_74 : gd cX12_goThrough 74 (.aload_n 0) 1 75 := ⟨by decide +kernel, rfl⟩
theorem d_X12_goThrough_75 : gd cX12_goThrough 75 (.invokevirtual 138) 3 78 := ⟨by decide +kernel, rfl⟩
theorem d_X12_goThrough_78 : gd cX12_goThrough 78 (.iconst (-1)) 1 79 := ⟨by decide +kernel, rfl⟩
theorem d_X12_goThrough_79 : gd cX12_goThrough 79 (.if_icmp .eq 8) 3 82 := ⟨by decide +kernel, rfl⟩
theorem d_X12_goThrough_82 : gd cX12_goThrough 82 (.aload_n 0) 1 83 := ⟨by decide +kernel, rfl⟩
theorem d_X12_goThrough_83 : gd cX12_goThrough 83 (.invokevirtual 134) 3 86 := ⟨by decide +kernel, rfl⟩
theorem d_X12_goThrough_86 : gd cX12_goThrough 86 .pop 1 87 := ⟨by decide +kernel, rfl⟩
theorem d_X12_goThrough_87 : gd cX12_goThrough 87 .return_ 1 88 := ⟨by decide +kernel, rfl⟩
def B_X12_goThrough_66   (μ : gs_M) : Option (gs_M) :=
  if (gI μ 78 11) = (-1 : Int32) then (bd (D_X12_look μ) (fun v4 u3 => if v4 = (-1 : Int32) then (some u3) else (bd (D_X12_fails u3) (fun v8 u7 => some u7)))) else (some μ)
def Bo_X12_goThrough_32 (q32 : gs_M → Option (gs_M))  (μ : gs_M) : Option (gs_M) :=
  if (gI μ 78 11) = (-1 : Int32) then (bd (D_X12_look μ) (fun v4 u3 => if v4 = (59 : Int32) then (lt1 (sI u3 78 10 ((gI u3 78 10) + (1 : Int32))) (fun u6 => bd0 (D_X12_clause u6) (fun u8 => q32 u8))) else (B_X12_goThrough_66 u3))) else (B_X12_goThrough_66 μ)
def L_X12_goThrough_32  : Nat → gs_M → Option (gs_M)
  | 0 => fun _ => none
  | n + 1 => fun  μ => Bo_X12_goThrough_32  (L_X12_goThrough_32  n)  μ
def D_X12_goThrough (a1 : Nat) (x2 : Int32) (x3 : Int32) (μ : gs_M) : Option (gs_M) :=
  bd0 (D_X12_opens a1 x2 x3 μ) (fun u2 => lt1 (sI u2 78 13 (121 : Int32)) (fun u3 => lt1 (sI u3 78 12 (0 : Int32)) (fun u4 => lt1 (sI u4 78 17 (0 : Int32)) (fun u5 => lt1 (sI u5 78 14 (0 : Int32)) (fun u6 => bd0 (D_X12_clause u6) (fun u8 => L_X12_goThrough_32 4096 u8))))))
section S_X12_goThrough
variable {p : Program} {l : Launch} {e : Env} {R : Room} {s : State} {m : MethodId} {args : Array Value} {below : List Frame} {meth : Method} {c : Code} {ad : Nat → Nat} {g : va_G} {tyc : Nat → ClassId}
set_option maxRecDepth 20000 in
theorem T_X12_goThrough_66  (hK : KC p R s m args meth c ad g tyc RX12 cX12_goThrough 4 none 76) {μ2 : gs_M}    {μ : gs_M}  (hD : B_X12_goThrough_66   μ = some μ2) : WJ p l e R s m args below meth c 0 0 (MQ below (gs_Q ad g tyc none μ2) args s 0 0 (gs_A ad)) ad g tyc 4 66 [.ref 78, gs_J, gs_J, gs_J] [] μ := by
  unfold B_X12_goThrough_66 at hD
  refine r_aload_n hK d_X12_goThrough_66 rfl rfl ?_
  refine r_getI hK d_X12_goThrough_67 fl_RX12_128_11 rfl kd_78 ?_
  refine r_iconst hK d_X12_goThrough_70 ci_m1 ?_
  refine r_icmp_ne (tgt := 87) hK d_X12_goThrough_71 (by decide) (fun h1 => ?_) (fun h1 => ?_)
  · have hD := if_f hD h1
    cases hD
    exact r_vret hK d_X12_goThrough_87
  · have hD := if_t hD h1
    refine r_aload_n hK d_X12_goThrough_74 rfl rfl ?_
    obtain ⟨v4, u3, e2, hD⟩ := bd_e hD
    refine r_callV (As := []) (st := []) (stk2 := [.int v4]) hK (C_X12_look  e2) d_X12_goThrough_75 mf_X12_look ml_RX12_138 im_X12_look rfl se_11_RX12_X12_look kd_78 rfl (Nat.le_of_ble_eq_true rfl) (by decide) ⟨Nat.zero_le _, Nat.zero_le _⟩ rfl rfl ?_
    refine r_iconst hK d_X12_goThrough_78 ci_m1 ?_
    refine r_icmp_eq (tgt := 87) hK d_X12_goThrough_79 (by decide) (fun h5 => ?_) (fun h5 => ?_)
    · have hD := if_t hD h5
      cases hD
      exact r_vret hK d_X12_goThrough_87
    · have hD := if_f hD h5
      refine r_aload_n hK d_X12_goThrough_82 rfl rfl ?_
      obtain ⟨v8, u7, e6, hD⟩ := bd_e hD
      refine r_callV (As := []) (st := []) (stk2 := [.int v8]) hK (C_X12_fails  e6) d_X12_goThrough_83 mf_X12_fails ml_RX12_134 im_X12_fails rfl se_11_RX12_X12_fails kd_78 rfl (Nat.le_of_ble_eq_true rfl) (by decide) ⟨Nat.zero_le _, Nat.zero_le _⟩ rfl rfl ?_
      refine r_pop hK d_X12_goThrough_86 rfl ?_
      cases hD
      exact r_vret hK d_X12_goThrough_87
set_option maxRecDepth 20000 in
theorem To_X12_goThrough_32  (hK : KC p R s m args meth c ad g tyc RX12 cX12_goThrough 4 none 76) {μ2 : gs_M} {q32 : gs_M → Option (gs_M)} (hq32 : ∀  (μ : gs_M), q32  μ = some μ2 → WJ p l e R s m args below meth c 0 0 (MQ below (gs_Q ad g tyc none μ2) args s 0 0 (gs_A ad)) ad g tyc 4 32 [.ref 78, gs_J, gs_J, gs_J] [] μ)  {μ : gs_M}  (hD : Bo_X12_goThrough_32 q32  μ = some μ2) : WJ p l e R s m args below meth c 0 0 (MQ below (gs_Q ad g tyc none μ2) args s 0 0 (gs_A ad)) ad g tyc 4 32 [.ref 78, gs_J, gs_J, gs_J] [] μ := by
  unfold Bo_X12_goThrough_32 at hD
  refine r_aload_n hK d_X12_goThrough_32 rfl rfl ?_
  refine r_getI hK d_X12_goThrough_33 fl_RX12_128_11 rfl kd_78 ?_
  refine r_iconst hK d_X12_goThrough_36 ci_m1 ?_
  refine r_icmp_ne (tgt := 66) hK d_X12_goThrough_37 (by decide) (fun h1 => ?_) (fun h1 => ?_)
  · have hD := if_f hD h1
    exact T_X12_goThrough_66 hK   hD
  · have hD := if_t hD h1
    refine r_aload_n hK d_X12_goThrough_40 rfl rfl ?_
    obtain ⟨v4, u3, e2, hD⟩ := bd_e hD
    refine r_callV (As := []) (st := []) (stk2 := [.int v4]) hK (C_X12_look  e2) d_X12_goThrough_41 mf_X12_look ml_RX12_138 im_X12_look rfl se_11_RX12_X12_look kd_78 rfl (Nat.le_of_ble_eq_true rfl) (by decide) ⟨Nat.zero_le _, Nat.zero_le _⟩ rfl rfl ?_
    refine r_bipush hK d_X12_goThrough_44 cb_59 ?_
    refine r_icmp_ne (tgt := 66) hK d_X12_goThrough_46 (by decide) (fun h5 => ?_) (fun h5 => ?_)
    · have hD := if_f hD h5
      exact T_X12_goThrough_66 hK   hD
    · have hD := if_t hD h5
      refine r_aload_n hK d_X12_goThrough_49 rfl rfl ?_
      refine r_dup hK d_X12_goThrough_50 rfl ?_
      refine r_getI hK d_X12_goThrough_51 fl_RX12_119_11 rfl kd_78 ?_
      refine r_iconst hK d_X12_goThrough_54 ci_1 ?_
      refine r_iadd hK d_X12_goThrough_55 ?_
      refine r_putI hK d_X12_goThrough_56 fl_RX12_119_11 rfl rfl kd_78 ?_
      refine r_ltm hD (fun u6 hD => ?_)
      refine r_aload_n hK d_X12_goThrough_59 rfl rfl ?_
      obtain ⟨u8, e7, hD⟩ := bd0_e hD
      refine r_callV (As := []) (st := []) (stk2 := []) hK (C_X12_clause  e7) d_X12_goThrough_60 mf_X12_clause ml_RX12_211 im_X12_clause rfl se_11_RX12_X12_clause kd_78 rfl (Nat.le_of_ble_eq_true rfl) (by decide) ⟨Nat.zero_le _, Nat.zero_le _⟩ rfl rfl ?_
      refine r_goto (tgt := 32) hK d_X12_goThrough_63 (by decide) ?_
      exact hq32  _  hD
set_option maxRecDepth 20000 in
theorem TL_X12_goThrough_32  (hK : KC p R s m args meth c ad g tyc RX12 cX12_goThrough 4 none 76) {μ2 : gs_M}   : ∀ (n : Nat)  (μ : gs_M), L_X12_goThrough_32  n  μ = some μ2 → WJ p l e R s m args below meth c 0 0 (MQ below (gs_Q ad g tyc none μ2) args s 0 0 (gs_A ad)) ad g tyc 4 32 [.ref 78, gs_J, gs_J, gs_J] [] μ := by
  intro n
  induction n with
  | zero => intro  μ  hD; cases hD
  | succ n ih => intro  μ  hD; exact To_X12_goThrough_32 hK  ih  hD
set_option maxRecDepth 20000 in
theorem C_X12_goThrough  {a1 : Nat} {x2 : Int32} {x3 : Int32} {μ : gs_M} {μ2 : gs_M} (hk1 : kd a1 = 21) (hD : D_X12_goThrough a1 x2 x3 μ = some μ2) : CALL yX12_goThrough cX12_goThrough 4 none 76 [.ref 78, .ref a1, .int x2, .int x3] μ none μ2 := by
  unfold D_X12_goThrough at hD
  refine gs_enter mf_X12_goThrough (Nat.le_of_ble_eq_true rfl) (ls := [.ref 78, .ref a1, .int x2, .int x3]) rfl (fun p l e R s m args below meth c ad g tyc hK => ?_)
  have hK : KC p R s m args meth c ad g tyc RX12 cX12_goThrough 4 none 76 := hK
  refine r_aload_n hK d_X12_goThrough_0 rfl rfl ?_
  refine r_aload_n hK d_X12_goThrough_1 rfl rfl ?_
  refine r_iload_n hK d_X12_goThrough_2 rfl rfl ?_
  refine r_iload_n hK d_X12_goThrough_3 rfl rfl ?_
  obtain ⟨u2, e1, hD⟩ := bd0_e hD
  refine r_callV (As := [.ref a1, .int x2, .int x3]) (st := []) (stk2 := []) hK (C_X12_opens hk1 e1) d_X12_goThrough_4 mf_X12_opens ml_RX12_207 im_X12_opens rfl se_11_RX12_X12_opens kd_78 rfl (Nat.le_of_ble_eq_true rfl) (by decide) ⟨Nat.zero_le _, Nat.zero_le _⟩ rfl rfl ?_
  refine r_aload_n hK d_X12_goThrough_7 rfl rfl ?_
  refine r_bipush hK d_X12_goThrough_8 cb_121 ?_
  refine r_putI hK d_X12_goThrough_10 fl_RX12_201_11 rfl rfl kd_78 ?_
  refine r_ltm hD (fun u3 hD => ?_)
  refine r_aload_n hK d_X12_goThrough_13 rfl rfl ?_
  refine r_iconst hK d_X12_goThrough_14 ci_0 ?_
  refine r_putI hK d_X12_goThrough_15 fl_RX12_131_11 rfl rfl kd_78 ?_
  refine r_ltm hD (fun u4 hD => ?_)
  refine r_aload_n hK d_X12_goThrough_18 rfl rfl ?_
  refine r_iconst hK d_X12_goThrough_19 ci_0 ?_
  refine r_putZ hK d_X12_goThrough_20 fl_RX12_197_11 rfl rfl kd_78 (Or.inl rfl) ?_
  refine r_ltm hD (fun u5 hD => ?_)
  refine r_aload_n hK d_X12_goThrough_23 rfl rfl ?_
  refine r_iconst hK d_X12_goThrough_24 ci_0 ?_
  refine r_putI hK d_X12_goThrough_25 fl_RX12_204_11 rfl rfl kd_78 ?_
  refine r_ltm hD (fun u6 hD => ?_)
  refine r_aload_n hK d_X12_goThrough_28 rfl rfl ?_
  obtain ⟨u8, e7, hD⟩ := bd0_e hD
  refine r_callV (As := []) (st := []) (stk2 := []) hK (C_X12_clause  e7) d_X12_goThrough_29 mf_X12_clause ml_RX12_211 im_X12_clause rfl se_11_RX12_X12_clause kd_78 rfl (Nat.le_of_ble_eq_true rfl) (by decide) ⟨Nat.zero_le _, Nat.zero_le _⟩ rfl rfl ?_
  refine r_junk [true, false, false, false] (ls2 := [.ref 78, gs_J, gs_J, gs_J]) rfl ?_
  exact TL_X12_goThrough_32 hK  _  _  hD
end S_X12_goThrough
theorem d_X12_fault_0 : gd cX12_fault 0 (.aload_n 0) 1 1 := ⟨by decide +kernel, rfl⟩
theorem d_X12_fault_1 : gd cX12_fault 1 (.iconst 0) 1 2 := ⟨by decide +kernel, rfl⟩
theorem d_X12_fault_2 : gd cX12_fault 2 (.putfield 98) 3 5 := ⟨by decide +kernel, rfl⟩
theorem d_X12_fault_5 : gd cX12_fault 5 (.iload_n 1) 1 6 := ⟨by decide +kernel, rfl⟩
theorem d_X12_fault_6 : gd cX12_fault 6 (.iconst 0) 1 7 := ⟨by decide +kernel, rfl⟩
theorem d_X12_fault_7 : gd cX12_fault 7 (.iconst 3) 1 8 := ⟨by decide +kernel, rfl⟩
theorem d_X12_fault_8 : gd cX12_fault 8 (.invokestatic 217) 3 11 := ⟨by decide +kernel, rfl⟩
theorem d_X12_fault_11 : gd cX12_fault 11 (.ifCond .ne 6) 3 14 := ⟨by decide +kernel, rfl⟩
theorem d_X12_fault_14 : gd cX12_fault 14 (.bipush (-2)) 2 16 := ⟨by decide +kernel, rfl⟩
theorem d_X12_fault_16 : gd cX12_fault 16 .ireturn 1 17 := ⟨by decide +kernel, rfl⟩
theorem d_X12_fault_17 : gd cX12_fault 17 (.iload_n 1) 1 18 := ⟨by decide +kernel, rfl⟩
theorem d_X12_fault_18 : gd cX12_fault 18 (.iconst 3) 1 19 := ⟨by decide +kernel, rfl⟩
theorem d_X12_fault_19 : gd cX12_fault 19 (.if_icmp .ne 19) 3 22 := ⟨by decide +kernel, rfl⟩
theorem d_X12_fault_22 : gd cX12_fault 22 (.aload_n 0) 1 23 := ⟨by decide +kernel, rfl⟩
theorem d_X12_fault_23 : gd cX12_fault 23 (.aload_n 0) 1 24 := ⟨by decide +kernel, rfl⟩
theorem d_X12_fault_24 : gd cX12_fault 24 (.getfield 9) 3 27 := ⟨by decide +kernel, rfl⟩
theorem d_X12_fault_27 : gd cX12_fault 27 (.iconst 0) 1 28 := ⟨by decide +kernel, rfl⟩
theorem d_X12_fault_28 : gd cX12_fault 28 (.aload_n 0) 1 29 := ⟨by decide +kernel, rfl⟩
theorem d_X12_fault_29 : gd cX12_fault 29 (.getfield 109) 3 32 := ⟨by decide +kernel, rfl⟩
theorem d_X12_fault_32 : gd cX12_fault 32 (.invokevirtual 250) 3 35 := ⟨by decide +kernel, rfl⟩
theorem d_X12_fault_35 : gd cX12_fault 35 (.goto 12) 3 38 := ⟨by decide +kernel, rfl⟩
theorem d_X12_fault_38 : gd cX12_fault 38 (.aload_n 0) 1 39 := ⟨by decide +kernel, rfl⟩
theorem d_X12_fault_39 : gd cX12_fault 39 (.iload_n 1) 1 40 := ⟨by decide +kernel, rfl⟩
theorem d_X12_fault_40 : gd cX12_fault 40 (.iload_n 1) 1 41 := ⟨by decide +kernel, rfl⟩
theorem d_X12_fault_41 : gd cX12_fault 41 (.invokestatic 253) 3 44 := ⟨by decide +kernel, rfl⟩
theorem d_X12_fault_44 : gd cX12_fault 44 (.invokevirtual 256) 3 47 := ⟨by decide +kernel, rfl⟩
theorem d_X12_fault_47 : gd cX12_fault 47 (.aload_n 0) 1 48 := ⟨by decide +kernel, rfl⟩
theorem d_X12_fault_48 : gd cX12_fault 48 (.getfield 128) 3 51 := ⟨by decide +kernel, rfl⟩
theorem d_X12_fault_51 : gd cX12_fault 51 .ireturn 1 52 := ⟨by decide +kernel, rfl⟩
def D_X12_fault (x1 : Int32) (μ : gs_M) : Option (Int32 × gs_M) :=
  lt1 (sI μ 78 0 (0 : Int32)) (fun u1 => bd (D_X12_isIn x1 (0 : Int32) (3 : Int32) u1) (fun v4 u3 => if v4 = 0 then (some ((-2 : Int32), u3)) else (if x1 = (3 : Int32) then (bd0 (D_X12_goThrough 79 (0 : Int32) (gI u3 78 6) u3) (fun u13 => some (gI u13 78 11, u13))) else (bd (D_X12_mostTexts x1 u3) (fun v9 u8 => bd0 (D_X12_read x1 v9 u8) (fun u11 => some (gI u11 78 11, u11)))))))
section S_X12_fault
variable {p : Program} {l : Launch} {e : Env} {R : Room} {s : State} {m : MethodId} {args : Array Value} {below : List Frame} {meth : Method} {c : Code} {ad : Nat → Nat} {g : va_G} {tyc : Nat → ClassId}
set_option maxRecDepth 20000 in
theorem C_X12_fault  {x1 : Int32} {μ : gs_M} {r : Int32} {μ2 : gs_M}  (hD : D_X12_fault x1 μ = some (r, μ2)) : CALL yX12_fault cX12_fault 2 (some .int) 77 [.ref 78, .int x1] μ (some (.int r)) μ2 := by
  unfold D_X12_fault at hD
  refine gs_enter mf_X12_fault (Nat.le_of_ble_eq_true rfl) (ls := [.ref 78, .int x1]) rfl (fun p l e R s m args below meth c ad g tyc hK => ?_)
  have hK : KC p R s m args meth c ad g tyc RX12 cX12_fault 2 (some .int) 77 := hK
  refine r_aload_n hK d_X12_fault_0 rfl rfl ?_
  refine r_iconst hK d_X12_fault_1 ci_0 ?_
  refine r_putI hK d_X12_fault_2 fl_RX12_98_11 rfl rfl kd_78 ?_
  refine r_ltm hD (fun u1 hD => ?_)
  refine r_iload_n hK d_X12_fault_5 rfl rfl ?_
  refine r_iconst hK d_X12_fault_6 ci_0 ?_
  refine r_iconst hK d_X12_fault_7 ci_3 ?_
  obtain ⟨v4, u3, e2, hD⟩ := bd_e hD
  refine r_callS (As := [.int x1, .int (0 : Int32), .int (3 : Int32)]) (st := []) (stk2 := [.int v4]) hK (C_X12_isIn  e2) d_X12_fault_8 mf_X12_isIn ml_RX12_217 ss_X12_isIn rfl (Nat.le_of_ble_eq_true rfl) (by decide) ⟨Nat.zero_le _, Nat.zero_le _⟩ rfl rfl ?_
  refine r_if_ne (tgt := 17) hK d_X12_fault_11 (by decide) (fun h5 => ?_) (fun h5 => ?_)
  · have hD := if_f hD h5
    refine r_iload_n hK d_X12_fault_17 rfl rfl ?_
    refine r_iconst hK d_X12_fault_18 ci_3 ?_
    refine r_icmp_ne (tgt := 38) hK d_X12_fault_19 (by decide) (fun h6 => ?_) (fun h6 => ?_)
    · have hD := if_f hD h6
      refine r_aload_n hK d_X12_fault_38 rfl rfl ?_
      refine r_iload_n hK d_X12_fault_39 rfl rfl ?_
      refine r_iload_n hK d_X12_fault_40 rfl rfl ?_
      obtain ⟨v9, u8, e7, hD⟩ := bd_e hD
      refine r_callS (As := [.int x1]) (st := [.int x1, .ref 78]) (stk2 := [.int v9, .int x1, .ref 78]) hK (C_X12_mostTexts  e7) d_X12_fault_41 mf_X12_mostTexts ml_RX12_253 ss_X12_mostTexts rfl (Nat.le_of_ble_eq_true rfl) (by decide) ⟨Nat.zero_le _, Nat.zero_le _⟩ rfl rfl ?_
      obtain ⟨u11, e10, hD⟩ := bd0_e hD
      refine r_callV (As := [.int x1, .int v9]) (st := []) (stk2 := []) hK (C_X12_read  e10) d_X12_fault_44 mf_X12_read ml_RX12_256 im_X12_read rfl se_11_RX12_X12_read kd_78 rfl (Nat.le_of_ble_eq_true rfl) (by decide) ⟨Nat.zero_le _, Nat.zero_le _⟩ rfl rfl ?_
      refine r_aload_n hK d_X12_fault_47 rfl rfl ?_
      refine r_getI hK d_X12_fault_48 fl_RX12_128_11 rfl kd_78 ?_
      cases hD
      exact r_iret hK d_X12_fault_51
    · have hD := if_t hD h6
      refine r_aload_n hK d_X12_fault_22 rfl rfl ?_
      refine r_aload_n hK d_X12_fault_23 rfl rfl ?_
      refine r_getR hK d_X12_fault_24 fl_RX12_9_11 rfl kd_78 ?_
      refine r_ref (b := 79) R0_78_1 ?_
      refine r_iconst hK d_X12_fault_27 ci_0 ?_
      refine r_aload_n hK d_X12_fault_28 rfl rfl ?_
      refine r_getI hK d_X12_fault_29 fl_RX12_109_11 rfl kd_78 ?_
      obtain ⟨u13, e12, hD⟩ := bd0_e hD
      refine r_callV (As := [.ref 79, .int (0 : Int32), .int (gI u3 78 6)]) (st := []) (stk2 := []) hK (C_X12_goThrough kd_79 e12) d_X12_fault_32 mf_X12_goThrough ml_RX12_250 im_X12_goThrough rfl se_11_RX12_X12_goThrough kd_78 rfl (Nat.le_of_ble_eq_true rfl) (by decide) ⟨Nat.zero_le _, Nat.zero_le _⟩ rfl rfl ?_
      refine r_goto (tgt := 47) hK d_X12_fault_35 (by decide) ?_
      refine r_aload_n hK d_X12_fault_47 rfl rfl ?_
      refine r_getI hK d_X12_fault_48 fl_RX12_128_11 rfl kd_78 ?_
      cases hD
      exact r_iret hK d_X12_fault_51
  · have hD := if_t hD h5
    refine r_bipush hK d_X12_fault_14 cb_m2 ?_
    cases hD
    exact r_iret hK d_X12_fault_16
end S_X12_fault
theorem d_X12_textOfRule_0 : gd cX12_textOfRule 0 (.aload_n 0) 1 1 := ⟨by decide +kernel, rfl⟩
theorem d_X12_textOfRule_1 : gd cX12_textOfRule 1 (.getfield 274) 3 4 := ⟨by decide +kernel, rfl⟩
theorem d_X12_textOfRule_4 : gd cX12_textOfRule 4 (.iconst 4) 1 5 := ⟨by decide +kernel, rfl⟩
theorem d_X12_textOfRule_5 : gd cX12_textOfRule 5 (.if_icmp .eq 12) 3 8 := ⟨by decide +kernel, rfl⟩
theorem d_X12_textOfRule_8 : gd cX12_textOfRule 8 (.aload_n 0) 1 9 := ⟨by decide +kernel, rfl⟩
theorem d_X12_textOfRule_9 : gd cX12_textOfRule 9 (.iconst 3) 1 10 := ⟨by decide +kernel, rfl⟩
theorem d_X12_textOfRule_10 : gd cX12_textOfRule 10 (.invokevirtual 272) 3 13 := ⟨by decide +kernel, rfl⟩
theorem d_X12_textOfRule_13 : gd cX12_textOfRule 13 (.iconst (-1)) 1 14 := ⟨by decide +kernel, rfl⟩
theorem d_X12_textOfRule_14 : gd cX12_textOfRule 14 (.if_icmp .eq 5) 3 17 := ⟨by decide +kernel, rfl⟩
theorem d_X12_textOfRule_17 : gd cX12_textOfRule 17 (.iconst (-1)) 1 18 := ⟨by decide +kernel, rfl⟩
theorem d_X12_textOfRule_18 : gd cX12_textOfRule 18 .ireturn 1 19 := ⟨by decide +kernel, rfl⟩
theorem d_X12_textOfRule_19 : gd cX12_textOfRule 19 (.iconst 0) 1 20 := ⟨by decide +kernel, rfl⟩
theorem d_X12_textOfRule_20 : gd cX12_textOfRule 20 (.istore_n 1) 1 21 := ⟨by decide +kernel, rfl⟩
theorem d_X12_textOfRule_21 : gd cX12_textOfRule 21 (.iload_n 1) 1 22 := ⟨by decide +kernel, rfl⟩
theorem d_X12_textOfRule_22 : gd cX12_textOfRule 22 (.aload_n 0) 1 23 := ⟨by decide +kernel, rfl⟩
theorem d_X12_textOfRule_23 : gd cX12_textOfRule 23 (.getfield 109) 3 26 := ⟨by decide +kernel, rfl⟩
theorem d_X12_textOfRule_26 : gd cX12_textOfRule 26 (.if_icmp .ge 30) 3 29 := ⟨by decide +kernel, rfl⟩
theorem d_X12_textOfRule_29 : gd cX12_textOfRule 29 (.aload_n 0) 1 30 := ⟨by decide +kernel, rfl⟩
theorem d_X12_textOfRule_30 : gd cX12_textOfRule 30 (.getfield 13) 3 33 := ⟨by decide +kernel, rfl⟩
theorem d_X12_textOfRule_33 : gd cX12_textOfRule 33 (.sipush 160) 3 36 := ⟨by decide +kernel, rfl⟩
theorem d_X12_textOfRule_36 : gd cX12_textOfRule 36 (.aload_n 0) 1 37 := ⟨by decide +kernel, rfl⟩
theorem d_X12_textOfRule_37 : gd cX12_textOfRule 37 (.getfield 274) 3 40 := ⟨by decide +kernel, rfl⟩
theorem d_X12_textOfRule_40 : gd cX12_textOfRule 40 .imul 1 41 := ⟨by decide +kernel, rfl⟩
theorem d_X12_textOfRule_41 : gd cX12_textOfRule 41 (.iload_n 1) 1 42 := ⟨by decide +kernel, rfl⟩
theorem d_X12_textOfRule_42 : gd cX12_textOfRule 42 .iadd 1 43 := ⟨by decide +kernel, rfl⟩
theorem d_X12_textOfRule_43 : gd cX12_textOfRule 43 (.aload_n 0) 1 44 := ⟨by decide +kernel, rfl⟩
theorem d_X12_textOfRule_44 : gd cX12_textOfRule 44 (.getfield 9) 3 47 := ⟨by decide +kernel, rfl⟩
theorem d_X12_textOfRule_47 : gd cX12_textOfRule 47 (.iload_n 1) 1 48 := ⟨by decide +kernel, rfl⟩
theorem d_X12_textOfRule_48 : gd cX12_textOfRule 48 .baload 1 49 := ⟨by decide +kernel, rfl⟩
theorem d_X12_textOfRule_49 : gd cX12_textOfRule 49 .bastore 1 50 := ⟨by decide +kernel, rfl⟩
theorem d_X12_textOfRule_50 : gd cX12_textOfRule 50 (.iinc 1 1) 3 53 := ⟨by decide +kernel, rfl⟩
theorem d_X12_textOfRule_53 : gd cX12_textOfRule 53 (.goto (-32)) 3 56 := ⟨by decide +kernel, rfl⟩
theorem d_X12_textOfRule_56 : gd cX12_textOfRule 56 (.aload_n 0) 1 57 := ⟨by decide +kernel, rfl⟩
theorem d_X12_textOfRule_57 : gd cX12_textOfRule 57 (.getfield 16) 3 60 := ⟨by decide +kernel, rfl⟩
theorem d_X12_textOfRule_60 : gd cX12_textOfRule 60 (.aload_n 0) 1 61 := ⟨by decide +kernel, rfl⟩
theorem d_X12_textOfRule_61 : gd cX12_textOfRule 61 (.getfield 274) 3 64 := ⟨by decide +kernel, rfl⟩
theorem d_X12_textOfRule_64 : gd cX12_textOfRule 64 (.aload_n 0) 1 65 := ⟨by decide +kernel, rfl⟩
theorem d_X12_textOfRule_65 : gd cX12_textOfRule 65 (.getfield 109) 3 68 := ⟨by decide +kernel, rfl⟩
theorem d_X12_textOfRule_68 : gd cX12_textOfRule 68 .iastore 1 69 := ⟨by decide +kernel, rfl⟩
theorem d_X12_textOfRule_69 : gd cX12_textOfRule 69 (.aload_n 0) 1 70 := ⟨by decide +kernel, rfl⟩
theorem d_X12_textOfRule_70 : gd cX12_textOfRule 70 (.iconst 0) 1 71 := ⟨by decide +kernel, rfl⟩
theorem d_X12_textOfRule_71 : gd cX12_textOfRule 71 (.putfield 109) 3 74 := ⟨by decide +kernel, rfl⟩
theorem d_X12_textOfRule_74 : gd cX12_textOfRule 74 (.aload_n 0) 1 75 := ⟨by decide +kernel, rfl⟩
theorem d_X12_textOfRule_75 : gd cX12_textOfRule 75 .dup 1 76 := ⟨by decide +kernel, rfl⟩
theorem d_X12_textOfRule_76 : gd cX12_textOfRule 76 (.getfield 274) 3 79 := ⟨by decide +kernel, rfl⟩
theorem d_X12_textOfRule_79 : gd cX12_textOfRule 79 (.iconst 1) 1 80 := ⟨by decide +kernel, rfl⟩
theorem d_X12_textOfRule_80 : gd cX12_textOfRule 80 .iadd 1 81 := ⟨by decide +kernel, rfl⟩
theorem d_X12_textOfRule_81 : gd cX12_textOfRule 81 (.putfield 274) 3 84 := ⟨by decide +kernel, rfl⟩
theorem d_X12_textOfRule_84 : gd cX12_textOfRule 84 (.aload_n 0) 1 85 := ⟨by decide +kernel, rfl⟩
theorem d_X12_textOfRule_85 : gd cX12_textOfRule 85 (.getfield 274) 3 88 := ⟨by decide +kernel, rfl⟩
theorem d_X12_textOfRule_88 : gd cX12_textOfRule 88 (.iconst 1) 1 89 := ⟨by decide +kernel, rfl⟩
theorem d_X12_textOfRule_89 : gd cX12_textOfRule 89 .isub 1 90 := ⟨by decide +kernel, rfl⟩
theorem d_X12_textOfRule_90 : gd cX12_textOfRule 90 .ireturn 1 91 := ⟨by decide +kernel, rfl⟩
def Bo_X12_textOfRule_21 (q21 : Int32 → gs_M → Option (Int32 × gs_M)) (x1 : Int32) (μ : gs_M) : Option (Int32 × gs_M) :=
  if (gI μ 78 6) ≤ x1 then (ck (inb (gI μ 78 7) 4) (lt1 (sI μ 81 (Int32.toNatClampNeg (gI μ 78 7)) (gI μ 78 6)) (fun u3 => lt1 (sI u3 78 6 (0 : Int32)) (fun u4 => lt1 (sI u4 78 7 ((gI u4 78 7) + (1 : Int32))) (fun u5 => some ((gI u5 78 7) - (1 : Int32), u5)))))) else (ck (inb x1 160) (ck (inb (((160 : Int32) * (gI μ 78 7)) + x1) 640) (lt1 (sI μ 80 (Int32.toNatClampNeg (((160 : Int32) * (gI μ 78 7)) + x1)) (vp_nar .byte (gI μ 79 (Int32.toNatClampNeg x1)))) (fun u8 => q21 (x1 + (1 : Int32)) u8))))
def L_X12_textOfRule_21  : Nat → Int32 → gs_M → Option (Int32 × gs_M)
  | 0 => fun _ _ => none
  | n + 1 => fun x1 μ => Bo_X12_textOfRule_21  (L_X12_textOfRule_21  n) x1 μ
def D_X12_textOfRule  (μ : gs_M) : Option (Int32 × gs_M) :=
  if (gI μ 78 7) = (4 : Int32) then (some ((-1 : Int32), μ)) else (bd (D_X12_fault (3 : Int32) μ) (fun v4 u3 => if v4 = (-1 : Int32) then (L_X12_textOfRule_21 4096 (0 : Int32) u3) else (some ((-1 : Int32), u3))))
section S_X12_textOfRule
variable {p : Program} {l : Launch} {e : Env} {R : Room} {s : State} {m : MethodId} {args : Array Value} {below : List Frame} {meth : Method} {c : Code} {ad : Nat → Nat} {g : va_G} {tyc : Nat → ClassId}
set_option maxRecDepth 20000 in
theorem To_X12_textOfRule_21  (hK : KC p R s m args meth c ad g tyc RX12 cX12_textOfRule 2 (some .int) 78) {r : Int32} {μ2 : gs_M} {q21 : Int32 → gs_M → Option (Int32 × gs_M)} (hq21 : ∀ (x1 : Int32) (μ : gs_M), q21 x1 μ = some (r, μ2) → WJ p l e R s m args below meth c 0 0 (MQ below (gs_Q ad g tyc (some (.int r)) μ2) args s 0 0 (gs_A ad)) ad g tyc 2 21 [.ref 78, .int x1] [] μ) {x1 : Int32} {μ : gs_M}  (hD : Bo_X12_textOfRule_21 q21 x1 μ = some (r, μ2)) : WJ p l e R s m args below meth c 0 0 (MQ below (gs_Q ad g tyc (some (.int r)) μ2) args s 0 0 (gs_A ad)) ad g tyc 2 21 [.ref 78, .int x1] [] μ := by
  unfold Bo_X12_textOfRule_21 at hD
  refine r_iload_n hK d_X12_textOfRule_21 rfl rfl ?_
  refine r_aload_n hK d_X12_textOfRule_22 rfl rfl ?_
  refine r_getI hK d_X12_textOfRule_23 fl_RX12_109_11 rfl kd_78 ?_
  refine r_icmp_ge (tgt := 56) hK d_X12_textOfRule_26 (by decide) (fun h1 => ?_) (fun h1 => ?_)
  · have hD := if_t hD h1
    refine r_aload_n hK d_X12_textOfRule_56 rfl rfl ?_
    refine r_getR hK d_X12_textOfRule_57 fl_RX12_16_11 rfl kd_78 ?_
    refine r_ref (b := 81) R0_78_3 ?_
    refine r_aload_n hK d_X12_textOfRule_60 rfl rfl ?_
    refine r_getI hK d_X12_textOfRule_61 fl_RX12_274_11 rfl kd_78 ?_
    refine r_aload_n hK d_X12_textOfRule_64 rfl rfl ?_
    refine r_getI hK d_X12_textOfRule_65 fl_RX12_109_11 rfl kd_78 ?_
    obtain ⟨h2, hD⟩ := ck_e hD
    refine r_iast hK d_X12_textOfRule_68 kd_81 ln_81 (inb_in h2) ?_
    refine r_ltm hD (fun u3 hD => ?_)
    refine r_aload_n hK d_X12_textOfRule_69 rfl rfl ?_
    refine r_iconst hK d_X12_textOfRule_70 ci_0 ?_
    refine r_putI hK d_X12_textOfRule_71 fl_RX12_109_11 rfl rfl kd_78 ?_
    refine r_ltm hD (fun u4 hD => ?_)
    refine r_aload_n hK d_X12_textOfRule_74 rfl rfl ?_
    refine r_dup hK d_X12_textOfRule_75 rfl ?_
    refine r_getI hK d_X12_textOfRule_76 fl_RX12_274_11 rfl kd_78 ?_
    refine r_iconst hK d_X12_textOfRule_79 ci_1 ?_
    refine r_iadd hK d_X12_textOfRule_80 ?_
    refine r_putI hK d_X12_textOfRule_81 fl_RX12_274_11 rfl rfl kd_78 ?_
    refine r_ltm hD (fun u5 hD => ?_)
    refine r_aload_n hK d_X12_textOfRule_84 rfl rfl ?_
    refine r_getI hK d_X12_textOfRule_85 fl_RX12_274_11 rfl kd_78 ?_
    refine r_iconst hK d_X12_textOfRule_88 ci_1 ?_
    refine r_isub hK d_X12_textOfRule_89 ?_
    cases hD
    exact r_iret hK d_X12_textOfRule_90
  · have hD := if_f hD h1
    refine r_aload_n hK d_X12_textOfRule_29 rfl rfl ?_
    refine r_getR hK d_X12_textOfRule_30 fl_RX12_13_11 rfl kd_78 ?_
    refine r_ref (b := 80) R0_78_2 ?_
    refine r_sipush hK d_X12_textOfRule_33 cs_160 ?_
    refine r_aload_n hK d_X12_textOfRule_36 rfl rfl ?_
    refine r_getI hK d_X12_textOfRule_37 fl_RX12_274_11 rfl kd_78 ?_
    refine r_imul hK d_X12_textOfRule_40 ?_
    refine r_iload_n hK d_X12_textOfRule_41 rfl rfl ?_
    refine r_iadd hK d_X12_textOfRule_42 ?_
    refine r_aload_n hK d_X12_textOfRule_43 rfl rfl ?_
    refine r_getR hK d_X12_textOfRule_44 fl_RX12_9_11 rfl kd_78 ?_
    refine r_ref (b := 79) R0_78_1 ?_
    refine r_iload_n hK d_X12_textOfRule_47 rfl rfl ?_
    obtain ⟨h6, hD⟩ := ck_e hD
    refine r_bald hK d_X12_textOfRule_48 kd_79 ln_79 (inb_in h6) ?_
    obtain ⟨h7, hD⟩ := ck_e hD
    refine r_bast hK d_X12_textOfRule_49 kd_80 ln_80 (inb_in h7) ?_
    refine r_ltm hD (fun u8 hD => ?_)
    refine r_iinc hK d_X12_textOfRule_50 rfl (v := x1 + (1 : Int32)) (by rw [ci_1]) (by decide) (ls2 := [.ref 78, .int (x1 + (1 : Int32))]) rfl ?_
    refine r_goto (tgt := 21) hK d_X12_textOfRule_53 (by decide) ?_
    exact hq21 _ _  hD
set_option maxRecDepth 20000 in
theorem TL_X12_textOfRule_21  (hK : KC p R s m args meth c ad g tyc RX12 cX12_textOfRule 2 (some .int) 78) {r : Int32} {μ2 : gs_M}   : ∀ (n : Nat) (x1 : Int32) (μ : gs_M), L_X12_textOfRule_21  n x1 μ = some (r, μ2) → WJ p l e R s m args below meth c 0 0 (MQ below (gs_Q ad g tyc (some (.int r)) μ2) args s 0 0 (gs_A ad)) ad g tyc 2 21 [.ref 78, .int x1] [] μ := by
  intro n
  induction n with
  | zero => intro x1 μ  hD; cases hD
  | succ n ih => intro x1 μ  hD; exact To_X12_textOfRule_21 hK  ih  hD
set_option maxRecDepth 20000 in
theorem C_X12_textOfRule   {μ : gs_M} {r : Int32} {μ2 : gs_M}  (hD : D_X12_textOfRule  μ = some (r, μ2)) : CALL yX12_textOfRule cX12_textOfRule 2 (some .int) 78 [.ref 78] μ (some (.int r)) μ2 := by
  unfold D_X12_textOfRule at hD
  refine gs_enter mf_X12_textOfRule (Nat.le_of_ble_eq_true rfl) (ls := [.ref 78, gs_J]) rfl (fun p l e R s m args below meth c ad g tyc hK => ?_)
  have hK : KC p R s m args meth c ad g tyc RX12 cX12_textOfRule 2 (some .int) 78 := hK
  refine r_aload_n hK d_X12_textOfRule_0 rfl rfl ?_
  refine r_getI hK d_X12_textOfRule_1 fl_RX12_274_11 rfl kd_78 ?_
  refine r_iconst hK d_X12_textOfRule_4 ci_4 ?_
  refine r_icmp_eq (tgt := 17) hK d_X12_textOfRule_5 (by decide) (fun h1 => ?_) (fun h1 => ?_)
  · have hD := if_t hD h1
    refine r_iconst hK d_X12_textOfRule_17 ci_m1 ?_
    cases hD
    exact r_iret hK d_X12_textOfRule_18
  · have hD := if_f hD h1
    refine r_aload_n hK d_X12_textOfRule_8 rfl rfl ?_
    refine r_iconst hK d_X12_textOfRule_9 ci_3 ?_
    obtain ⟨v4, u3, e2, hD⟩ := bd_e hD
    refine r_callV (As := [.int (3 : Int32)]) (st := []) (stk2 := [.int v4]) hK (C_X12_fault  e2) d_X12_textOfRule_10 mf_X12_fault ml_RX12_272 im_X12_fault rfl se_11_RX12_X12_fault kd_78 rfl (Nat.le_of_ble_eq_true rfl) (by decide) ⟨Nat.zero_le _, Nat.zero_le _⟩ rfl rfl ?_
    refine r_iconst hK d_X12_textOfRule_13 ci_m1 ?_
    refine r_icmp_eq (tgt := 19) hK d_X12_textOfRule_14 (by decide) (fun h5 => ?_) (fun h5 => ?_)
    · have hD := if_t hD h5
      refine r_iconst hK d_X12_textOfRule_19 ci_0 ?_
      refine r_istore_n hK d_X12_textOfRule_20 rfl (by decide) (ls2 := [.ref 78, .int (0 : Int32)]) rfl ?_
      exact TL_X12_textOfRule_21 hK  _ _ _  hD
    · have hD := if_f hD h5
      refine r_iconst hK d_X12_textOfRule_17 ci_m1 ?_
      cases hD
      exact r_iret hK d_X12_textOfRule_18
end S_X12_textOfRule
theorem d_X12_text_0 : gd cX12_text 0 (.aload_n 0) 1 1 := ⟨by decide +kernel, rfl⟩
theorem d_X12_text_1 : gd cX12_text 1 (.iconst 0) 1 2 := ⟨by decide +kernel, rfl⟩
theorem d_X12_text_2 : gd cX12_text 2 (.putfield 98) 3 5 := ⟨by decide +kernel, rfl⟩
theorem d_X12_text_5 : gd cX12_text 5 (.iload_n 1) 1 6 := ⟨by decide +kernel, rfl⟩
theorem d_X12_text_6 : gd cX12_text 6 (.iconst 3) 1 7 := ⟨by decide +kernel, rfl⟩
theorem d_X12_text_7 : gd cX12_text 7 (.if_icmp .ne 8) 3 10 := ⟨by decide +kernel, rfl⟩
theorem d_X12_text_10 : gd cX12_text 10 (.aload_n 0) 1 11 := ⟨by decide +kernel, rfl⟩
theorem d_X12_text_11 : gd cX12_text 11 (.invokevirtual 260) 3 14 := ⟨by decide +kernel, rfl⟩
theorem d_X12_text_14 : gd cX12_text 14 .ireturn 1 15 := ⟨by decide +kernel, rfl⟩
theorem d_X12_text_15 : gd cX12_text 15 (.iload_n 1) 1 16 := ⟨by decide +kernel, rfl⟩
theorem d_X12_text_16 : gd cX12_text 16 (.iconst 0) 1 17 := ⟨by decide +kernel, rfl⟩
theorem d_X12_text_17 : gd cX12_text 17 (.iconst 2) 1 18 := ⟨by decide +kernel, rfl⟩
theorem d_X12_text_18 : gd cX12_text 18 (.invokestatic 217) 3 21 := ⟨by decide +kernel, rfl⟩
theorem d_X12_text_21 : gd cX12_text 21 (.ifCond .ne 5) 3 24 := ⟨by decide +kernel, rfl⟩
theorem d_X12_text_24 : gd cX12_text 24 (.iconst (-1)) 1 25 := ⟨by decide +kernel, rfl⟩
theorem d_X12_text_25 : gd cX12_text 25 .ireturn 1 26 := ⟨by decide +kernel, rfl⟩
theorem d_X12_text_26 : gd cX12_text 26 (.iload_n 1) 1 27 := ⟨by decide +kernel, rfl⟩
theorem d_X12_text_27 : gd cX12_text 27 (.ifCond .ne 10) 3 30 := ⟨by decide +kernel, rfl⟩
theorem d_X12_text_30 : gd cX12_text 30 (.aload_n 0) 1 31 := ⟨by decide +kernel, rfl⟩
theorem d_X12_text_31 : gd cX12_text 31 (.getfield 263) 3 34 := ⟨by decide +kernel, rfl⟩
theorem d_X12_text_34 : gd cX12_text 34 (.goto 19) 3 37 := ⟨by decide +kernel, rfl⟩
theorem d_X12_text_37 : gd cX12_text 37 (.iload_n 1) 1 38 := ⟨by decide +kernel, rfl⟩
theorem d_X12_text_38 : gd cX12_text 38 (.iconst 1) 1 39 := ⟨by decide +kernel, rfl⟩
theorem d_X12_text_39 : gd cX12_text 39 (.if_icmp .ne 10) 3 42 := ⟨by decide +kernel, rfl⟩
theorem d_X12_text_42 : gd cX12_text 42 (.aload_n 0) 1 43 := ⟨by decide +kernel, rfl⟩
theorem d_X12_text_43 : gd cX12_text 43 (.getfield 266) 3 46 := ⟨by decide +kernel, rfl⟩
theorem d_X12_text_46 : gd cX12_text 46 (.goto 7) 3 49 := ⟨by decide +kernel, rfl⟩
theorem d_X12_text_49 : gd cX12_text 49 (.aload_n 0) 1 50 := ⟨by decide +kernel, rfl⟩
theorem d_X12_text_50 : gd cX12_text 50 (.getfield 269) 3 53 := ⟨by decide +kernel, rfl⟩
theorem d_X12_text_53 : gd cX12_text 53 (.istore_n 2) 1 54 := ⟨by decide +kernel, rfl⟩
theorem d_X12_text_54 : gd cX12_text 54 (.iload_n 2) 1 55 := ⟨by decide +kernel, rfl⟩
theorem d_X12_text_55 : gd cX12_text 55 (.iload_n 1) 1 56 := ⟨by decide +kernel, rfl⟩
theorem d_X12_text_56 : gd cX12_text 56 (.invokestatic 253) 3 59 := ⟨by decide +kernel, rfl⟩
theorem d_X12_text_59 : gd cX12_text 59 (.if_icmp .eq 12) 3 62 := ⟨by decide +kernel, rfl⟩
theorem d_X12_text_62 : gd cX12_text 62 (.aload_n 0) 1 63 := ⟨by decide +kernel, rfl⟩
theorem d_X12_text_63 : gd cX12_text 63 (.iload_n 1) 1 64 := ⟨by decide +kernel, rfl⟩
theorem d_X12_text_64 : gd cX12_text 64 (.invokevirtual 272) 3 67 := ⟨by decide +kernel, rfl⟩
theorem d_X12_text_67 : gd cX12_text 67 (.iconst (-1)) 1 68 := ⟨by decide +kernel, rfl⟩
theorem d_X12_text_68 : gd cX12_text 68 (.if_icmp .eq 5) 3 71 := ⟨by decide +kernel, rfl⟩
theorem d_X12_text_71 : gd cX12_text 71 (.iconst (-1)) 1 72 := ⟨by decide +kernel, rfl⟩
theorem d_X12_text_72 : gd cX12_text 72 .ireturn 1 73 := ⟨by decide +kernel, rfl⟩
theorem d_X12_text_73 : gd cX12_text 73 (.aload_n 0) 1 74 := ⟨by decide +kernel, rfl⟩
theorem d_X12_text_74 : gd cX12_text 74 (.iload_n 1) 1 75 := ⟨by decide +kernel, rfl⟩
theorem d_X12_text_75 : gd cX12_text 75 (.iload_n 2) 1 76 := ⟨by decide +kernel, rfl⟩
theorem d_X12_text_76 : gd cX12_text 76 (.invokevirtual 256) 3 79 := ⟨by decide +kernel, rfl⟩
theorem d_X12_text_79 : gd cX12_text 79 (.aload_n 0) 1 80 := ⟨by decide +kernel, rfl⟩
theorem d_X12_text_80 : gd cX12_text 80 (.iconst 0) 1 81 := ⟨by decide +kernel, rfl⟩
theorem d_X12_text_81 : gd cX12_text 81 (.putfield 109) 3 84 := ⟨by decide +kernel, rfl⟩
theorem d_X12_text_84 : gd cX12_text 84 (.iload_n 1) 1 85 := ⟨by decide +kernel, rfl⟩
theorem d_X12_text_85 : gd cX12_text 85 (.ifCond .ne 13) 3 88 := ⟨by decide +kernel, rfl⟩
theorem d_X12_text_88 : gd cX12_text 88 (.aload_n 0) 1 89 := ⟨by decide +kernel, rfl⟩
theorem d_X12_text_89 : gd cX12_text 89 .dup 1 90 := ⟨by decide +kernel, rfl⟩
theorem d_X12_text_90 : gd cX12_text 90 (.getfield 263) 3 93 := ⟨by decide +kernel, rfl⟩
theorem d_X12_text_93 : gd cX12_text 93 (.iconst 1) 1 94 := ⟨by decide +kernel, rfl⟩
theorem d_X12_text_94 : gd cX12_text 94 .iadd 1 95 := ⟨by decide +kernel, rfl⟩
theorem d_X12_text_95 : gd cX12_text 95 (.putfield 263) 3 98 := ⟨by decide +kernel, rfl⟩
theorem d_X12_text_98 : gd cX12_text 98 (.iload_n 1) 1 99 := ⟨by decide +kernel, rfl⟩
theorem d_X12_text_99 : gd cX12_text 99 (.iconst 1) 1 100 := ⟨by decide +kernel, rfl⟩
theorem d_X12_text_100 : gd cX12_text 100 (.if_icmp .ne 13) 3 103 := ⟨by decide +kernel, rfl⟩
theorem d_X12_text_103 : gd cX12_text 103 (.aload_n 0) 1 104 := ⟨by decide +kernel, rfl⟩
theorem d_X12_text_104 : gd cX12_text 104 .dup 1 105 := ⟨by decide +kernel, rfl⟩
theorem d_X12_text_105 : gd cX12_text 105 (.getfield 266) 3 108 := ⟨by decide +kernel, rfl⟩
theorem d_X12_text_108 : gd cX12_text 108 (.iconst 1) 1 109 := ⟨by decide +kernel, rfl⟩
theorem d_X12_text_109 : gd cX12_text 109 .iadd 1 110 := ⟨by decide +kernel, rfl⟩
theorem d_X12_text_110 : gd cX12_text 110 (.putfield 266) 3 113 := ⟨by decide +kernel, rfl⟩
theorem d_X12_text_113 : gd cX12_text 113 (.iload_n 1) 1 114 := ⟨by decide +kernel, rfl⟩
theorem d_X12_text_114 : gd cX12_text 114 (.iconst 2) 1 115 := ⟨by decide +kernel, rfl⟩
theorem d_X12_text_115 : gd cX12_text 115 (.if_icmp .ne 13) 3 118 := ⟨by decide +kernel, rfl⟩
theorem d_X12_text_118 : gd cX12_text 118 (.aload_n 0) 1 119 := ⟨by decide +kernel, rfl⟩
theorem d_X12_text_119 : gd cX12_text 119 .dup 1 120 := ⟨by decide +kernel, rfl⟩
theorem d_X12_text_120 : gd cX12_text 120 (.getfield 269) 3 123 := ⟨by decide +kernel, rfl⟩
theorem d_X12_text_123 : gd cX12_text 123 (.iconst 1) 1 124 := ⟨by decide +kernel, rfl⟩
theorem d_X12_text_124 : gd cX12_text 124 .iadd 1 125 := ⟨by decide +kernel, rfl⟩
theorem d_X12_text_125 : gd cX12_text 125 (.putfield 269) 3 128 := ⟨by decide +kernel, rfl⟩
theorem d_X12_text_128 : gd cX12_text 128 (.iload_n 2) 1 129 := ⟨by decide +kernel, rfl⟩
theorem d_X12_text_129 : gd cX12_text 129 .ireturn 1 130 := ⟨by decide +kernel, rfl⟩
def B_X12_text_113  (x1 : Int32) (x2 : Int32) (μ : gs_M) : Option (Int32 × gs_M) :=
  if x1 = (2 : Int32) then (lt1 (sI μ 78 26 ((gI μ 78 26) + (1 : Int32))) (fun u2 => some (x2, u2))) else (some (x2, μ))
def B_X12_text_98  (x1 : Int32) (x2 : Int32) (μ : gs_M) : Option (Int32 × gs_M) :=
  if x1 = (1 : Int32) then (lt1 (sI μ 78 25 ((gI μ 78 25) + (1 : Int32))) (fun u2 => B_X12_text_113 x1 x2 u2)) else (B_X12_text_113 x1 x2 μ)
def B_X12_text_53  (x1 : Int32) (xs0 : Int32) (μ : gs_M) : Option (Int32 × gs_M) :=
  bd (D_X12_mostTexts x1 μ) (fun v3 u2 => if xs0 = v3 then (some ((-1 : Int32), u2)) else (bd (D_X12_fault x1 u2) (fun v7 u6 => if v7 = (-1 : Int32) then (bd0 (D_X12_read x1 xs0 u6) (fun u10 => lt1 (sI u10 78 6 (0 : Int32)) (fun u11 => if x1 = 0 then (lt1 (sI u11 78 24 ((gI u11 78 24) + (1 : Int32))) (fun u13 => B_X12_text_98 x1 xs0 u13)) else (B_X12_text_98 x1 xs0 u11)))) else (some ((-1 : Int32), u6)))))
def D_X12_text (x1 : Int32) (μ : gs_M) : Option (Int32 × gs_M) :=
  lt1 (sI μ 78 0 (0 : Int32)) (fun u1 => if x1 = (3 : Int32) then (bd (D_X12_textOfRule u1) (fun v11 u10 => some (v11, u10))) else (bd (D_X12_isIn x1 (0 : Int32) (2 : Int32) u1) (fun v5 u4 => if v5 = 0 then (some ((-1 : Int32), u4)) else (if x1 = 0 then (B_X12_text_53 x1 (gI u4 78 24) u4) else (if x1 = (1 : Int32) then (B_X12_text_53 x1 (gI u4 78 25) u4) else (B_X12_text_53 x1 (gI u4 78 26) u4))))))
section S_X12_text
variable {p : Program} {l : Launch} {e : Env} {R : Room} {s : State} {m : MethodId} {args : Array Value} {below : List Frame} {meth : Method} {c : Code} {ad : Nat → Nat} {g : va_G} {tyc : Nat → ClassId}
set_option maxRecDepth 20000 in
theorem T_X12_text_113  (hK : KC p R s m args meth c ad g tyc RX12 cX12_text 3 (some .int) 79) {r : Int32} {μ2 : gs_M}   {x1 : Int32} {x2 : Int32} {μ : gs_M}  (hD : B_X12_text_113  x1 x2 μ = some (r, μ2)) : WJ p l e R s m args below meth c 0 0 (MQ below (gs_Q ad g tyc (some (.int r)) μ2) args s 0 0 (gs_A ad)) ad g tyc 3 113 [.ref 78, .int x1, .int x2] [] μ := by
  unfold B_X12_text_113 at hD
  refine r_iload_n hK d_X12_text_113 rfl rfl ?_
  refine r_iconst hK d_X12_text_114 ci_2 ?_
  refine r_icmp_ne (tgt := 128) hK d_X12_text_115 (by decide) (fun h1 => ?_) (fun h1 => ?_)
  · have hD := if_f hD h1
    refine r_iload_n hK d_X12_text_128 rfl rfl ?_
    cases hD
    exact r_iret hK d_X12_text_129
  · have hD := if_t hD h1
    refine r_aload_n hK d_X12_text_118 rfl rfl ?_
    refine r_dup hK d_X12_text_119 rfl ?_
    refine r_getI hK d_X12_text_120 fl_RX12_269_11 rfl kd_78 ?_
    refine r_iconst hK d_X12_text_123 ci_1 ?_
    refine r_iadd hK d_X12_text_124 ?_
    refine r_putI hK d_X12_text_125 fl_RX12_269_11 rfl rfl kd_78 ?_
    refine r_ltm hD (fun u2 hD => ?_)
    refine r_iload_n hK d_X12_text_128 rfl rfl ?_
    cases hD
    exact r_iret hK d_X12_text_129
set_option maxRecDepth 20000 in
theorem T_X12_text_98  (hK : KC p R s m args meth c ad g tyc RX12 cX12_text 3 (some .int) 79) {r : Int32} {μ2 : gs_M}   {x1 : Int32} {x2 : Int32} {μ : gs_M}  (hD : B_X12_text_98  x1 x2 μ = some (r, μ2)) : WJ p l e R s m args below meth c 0 0 (MQ below (gs_Q ad g tyc (some (.int r)) μ2) args s 0 0 (gs_A ad)) ad g tyc 3 98 [.ref 78, .int x1, .int x2] [] μ := by
  unfold B_X12_text_98 at hD
  refine r_iload_n hK d_X12_text_98 rfl rfl ?_
  refine r_iconst hK d_X12_text_99 ci_1 ?_
  refine r_icmp_ne (tgt := 113) hK d_X12_text_100 (by decide) (fun h1 => ?_) (fun h1 => ?_)
  · have hD := if_f hD h1
    exact T_X12_text_113 hK   hD
  · have hD := if_t hD h1
    refine r_aload_n hK d_X12_text_103 rfl rfl ?_
    refine r_dup hK d_X12_text_104 rfl ?_
    refine r_getI hK d_X12_text_105 fl_RX12_266_11 rfl kd_78 ?_
    refine r_iconst hK d_X12_text_108 ci_1 ?_
    refine r_iadd hK d_X12_text_109 ?_
    refine r_putI hK d_X12_text_110 fl_RX12_266_11 rfl rfl kd_78 ?_
    refine r_ltm hD (fun u2 hD => ?_)
    exact T_X12_text_113 hK   hD
set_option maxRecDepth 20000 in
theorem T_X12_text_53  (hK : KC p R s m args meth c ad g tyc RX12 cX12_text 3 (some .int) 79) {r : Int32} {μ2 : gs_M}   {x1 : Int32} {xs0 : Int32} {μ : gs_M}  (hD : B_X12_text_53  x1 xs0 μ = some (r, μ2)) : WJ p l e R s m args below meth c 0 0 (MQ below (gs_Q ad g tyc (some (.int r)) μ2) args s 0 0 (gs_A ad)) ad g tyc 3 53 [.ref 78, .int x1, gs_J] [.int xs0] μ := by
  unfold B_X12_text_53 at hD
  refine r_istore_n hK d_X12_text_53 rfl (by decide) (ls2 := [.ref 78, .int x1, .int xs0]) rfl ?_
  refine r_iload_n hK d_X12_text_54 rfl rfl ?_
  refine r_iload_n hK d_X12_text_55 rfl rfl ?_
  obtain ⟨v3, u2, e1, hD⟩ := bd_e hD
  refine r_callS (As := [.int x1]) (st := [.int xs0]) (stk2 := [.int v3, .int xs0]) hK (C_X12_mostTexts  e1) d_X12_text_56 mf_X12_mostTexts ml_RX12_253 ss_X12_mostTexts rfl (Nat.le_of_ble_eq_true rfl) (by decide) ⟨Nat.zero_le _, Nat.zero_le _⟩ rfl rfl ?_
  refine r_icmp_eq (tgt := 71) hK d_X12_text_59 (by decide) (fun h4 => ?_) (fun h4 => ?_)
  · have hD := if_t hD h4
    refine r_iconst hK d_X12_text_71 ci_m1 ?_
    cases hD
    exact r_iret hK d_X12_text_72
  · have hD := if_f hD h4
    refine r_aload_n hK d_X12_text_62 rfl rfl ?_
    refine r_iload_n hK d_X12_text_63 rfl rfl ?_
    obtain ⟨v7, u6, e5, hD⟩ := bd_e hD
    refine r_callV (As := [.int x1]) (st := []) (stk2 := [.int v7]) hK (C_X12_fault  e5) d_X12_text_64 mf_X12_fault ml_RX12_272 im_X12_fault rfl se_11_RX12_X12_fault kd_78 rfl (Nat.le_of_ble_eq_true rfl) (by decide) ⟨Nat.zero_le _, Nat.zero_le _⟩ rfl rfl ?_
    refine r_iconst hK d_X12_text_67 ci_m1 ?_
    refine r_icmp_eq (tgt := 73) hK d_X12_text_68 (by decide) (fun h8 => ?_) (fun h8 => ?_)
    · have hD := if_t hD h8
      refine r_aload_n hK d_X12_text_73 rfl rfl ?_
      refine r_iload_n hK d_X12_text_74 rfl rfl ?_
      refine r_iload_n hK d_X12_text_75 rfl rfl ?_
      obtain ⟨u10, e9, hD⟩ := bd0_e hD
      refine r_callV (As := [.int x1, .int xs0]) (st := []) (stk2 := []) hK (C_X12_read  e9) d_X12_text_76 mf_X12_read ml_RX12_256 im_X12_read rfl se_11_RX12_X12_read kd_78 rfl (Nat.le_of_ble_eq_true rfl) (by decide) ⟨Nat.zero_le _, Nat.zero_le _⟩ rfl rfl ?_
      refine r_aload_n hK d_X12_text_79 rfl rfl ?_
      refine r_iconst hK d_X12_text_80 ci_0 ?_
      refine r_putI hK d_X12_text_81 fl_RX12_109_11 rfl rfl kd_78 ?_
      refine r_ltm hD (fun u11 hD => ?_)
      refine r_iload_n hK d_X12_text_84 rfl rfl ?_
      refine r_if_ne (tgt := 98) hK d_X12_text_85 (by decide) (fun h12 => ?_) (fun h12 => ?_)
      · have hD := if_f hD h12
        exact T_X12_text_98 hK   hD
      · have hD := if_t hD h12
        refine r_aload_n hK d_X12_text_88 rfl rfl ?_
        refine r_dup hK d_X12_text_89 rfl ?_
        refine r_getI hK d_X12_text_90 fl_RX12_263_11 rfl kd_78 ?_
        refine r_iconst hK d_X12_text_93 ci_1 ?_
        refine r_iadd hK d_X12_text_94 ?_
        refine r_putI hK d_X12_text_95 fl_RX12_263_11 rfl rfl kd_78 ?_
        refine r_ltm hD (fun u13 hD => ?_)
        exact T_X12_text_98 hK   hD
    · have hD := if_f hD h8
      refine r_iconst hK d_X12_text_71 ci_m1 ?_
      cases hD
      exact r_iret hK d_X12_text_72
set_option maxRecDepth 20000 in
theorem C_X12_text  {x1 : Int32} {μ : gs_M} {r : Int32} {μ2 : gs_M}  (hD : D_X12_text x1 μ = some (r, μ2)) : CALL yX12_text cX12_text 3 (some .int) 79 [.ref 78, .int x1] μ (some (.int r)) μ2 := by
  unfold D_X12_text at hD
  refine gs_enter mf_X12_text (Nat.le_of_ble_eq_true rfl) (ls := [.ref 78, .int x1, gs_J]) rfl (fun p l e R s m args below meth c ad g tyc hK => ?_)
  have hK : KC p R s m args meth c ad g tyc RX12 cX12_text 3 (some .int) 79 := hK
  refine r_aload_n hK d_X12_text_0 rfl rfl ?_
  refine r_iconst hK d_X12_text_1 ci_0 ?_
  refine r_putI hK d_X12_text_2 fl_RX12_98_11 rfl rfl kd_78 ?_
  refine r_ltm hD (fun u1 hD => ?_)
  refine r_iload_n hK d_X12_text_5 rfl rfl ?_
  refine r_iconst hK d_X12_text_6 ci_3 ?_
  refine r_icmp_ne (tgt := 15) hK d_X12_text_7 (by decide) (fun h2 => ?_) (fun h2 => ?_)
  · have hD := if_f hD h2
    refine r_iload_n hK d_X12_text_15 rfl rfl ?_
    refine r_iconst hK d_X12_text_16 ci_0 ?_
    refine r_iconst hK d_X12_text_17 ci_2 ?_
    obtain ⟨v5, u4, e3, hD⟩ := bd_e hD
    refine r_callS (As := [.int x1, .int (0 : Int32), .int (2 : Int32)]) (st := []) (stk2 := [.int v5]) hK (C_X12_isIn  e3) d_X12_text_18 mf_X12_isIn ml_RX12_217 ss_X12_isIn rfl (Nat.le_of_ble_eq_true rfl) (by decide) ⟨Nat.zero_le _, Nat.zero_le _⟩ rfl rfl ?_
    refine r_if_ne (tgt := 26) hK d_X12_text_21 (by decide) (fun h6 => ?_) (fun h6 => ?_)
    · have hD := if_f hD h6
      refine r_iload_n hK d_X12_text_26 rfl rfl ?_
      refine r_if_ne (tgt := 37) hK d_X12_text_27 (by decide) (fun h7 => ?_) (fun h7 => ?_)
      · have hD := if_f hD h7
        refine r_iload_n hK d_X12_text_37 rfl rfl ?_
        refine r_iconst hK d_X12_text_38 ci_1 ?_
        refine r_icmp_ne (tgt := 49) hK d_X12_text_39 (by decide) (fun h8 => ?_) (fun h8 => ?_)
        · have hD := if_f hD h8
          refine r_aload_n hK d_X12_text_49 rfl rfl ?_
          refine r_getI hK d_X12_text_50 fl_RX12_269_11 rfl kd_78 ?_
          exact T_X12_text_53 hK   hD
        · have hD := if_t hD h8
          refine r_aload_n hK d_X12_text_42 rfl rfl ?_
          refine r_getI hK d_X12_text_43 fl_RX12_266_11 rfl kd_78 ?_
          refine r_goto (tgt := 53) hK d_X12_text_46 (by decide) ?_
          exact T_X12_text_53 hK   hD
      · have hD := if_t hD h7
        refine r_aload_n hK d_X12_text_30 rfl rfl ?_
        refine r_getI hK d_X12_text_31 fl_RX12_263_11 rfl kd_78 ?_
        refine r_goto (tgt := 53) hK d_X12_text_34 (by decide) ?_
        exact T_X12_text_53 hK   hD
    · have hD := if_t hD h6
      refine r_iconst hK d_X12_text_24 ci_m1 ?_
      cases hD
      exact r_iret hK d_X12_text_25
  · have hD := if_t hD h2
    refine r_aload_n hK d_X12_text_10 rfl rfl ?_
    obtain ⟨v11, u10, e9, hD⟩ := bd_e hD
    refine r_callV (As := []) (st := []) (stk2 := [.int v11]) hK (C_X12_textOfRule  e9) d_X12_text_11 mf_X12_textOfRule ml_RX12_260 im_X12_textOfRule rfl se_11_RX12_X12_textOfRule kd_78 rfl (Nat.le_of_ble_eq_true rfl) (by decide) ⟨Nat.zero_le _, Nat.zero_le _⟩ rfl rfl ?_
    cases hD
    exact r_iret hK d_X12_text_14
end S_X12_text
theorem d_X12_follows_0 : gd cX12_follows 0 (.aload_n 0) 1 1 := ⟨by decide +kernel, rfl⟩
theorem d_X12_follows_1 : gd cX12_follows 1 (.getfield 20) 3 4 := ⟨by decide +kernel, rfl⟩
theorem d_X12_follows_4 : gd cX12_follows 4 (.bipush 108) 2 6 := ⟨by decide +kernel, rfl⟩
theorem d_X12_follows_6 : gd cX12_follows 6 (.aload_n 0) 1 7 := ⟨by decide +kernel, rfl⟩
theorem d_X12_follows_7 : gd cX12_follows 7 (.invokevirtual 367) 3 10 := ⟨by decide +kernel, rfl⟩
theorem d_X12_follows_10 : gd cX12_follows 10 .iastore 1 11 := ⟨by decide +kernel, rfl⟩
theorem d_X12_follows_11 : gd cX12_follows 11 (.aload_n 0) 1 12 := ⟨by decide +kernel, rfl⟩
theorem d_X12_follows_12 : gd cX12_follows 12 (.getfield 20) 3 15 := ⟨by decide +kernel, rfl⟩
theorem d_X12_follows_15 : gd cX12_follows 15 (.bipush 100) 2 17 := ⟨by decide +kernel, rfl⟩
theorem d_X12_follows_17 : gd cX12_follows 17 (.aload_n 0) 1 18 := ⟨by decide +kernel, rfl⟩
theorem d_X12_follows_18 : gd cX12_follows 18 (.bipush 78) 2 20 := ⟨by decide +kernel, rfl⟩
theorem d_X12_follows_20 : gd cX12_follows 20 (.invokevirtual 337) 3 23 := ⟨by decide +kernel, rfl⟩
theorem d_X12_follows_23 : gd cX12_follows 23 .iastore 1 24 := ⟨by decide +kernel, rfl⟩
theorem d_X12_follows_24 : gd cX12_follows 24 (.iconst 0) 1 25 := ⟨by decide +kernel, rfl⟩
theorem d_X12_follows_25 : gd cX12_follows 25 (.istore_n 3) 1 26 := ⟨by decide +kernel, rfl⟩
theorem d_X12_follows_26 : gd cX12_follows 26 (.iconst 0) 1 27 := ⟨by decide +kernel, rfl⟩
theorem d_X12_follows_27 : gd cX12_follows 27 (.istore 4) 2 29 := ⟨by decide +kernel, rfl⟩
theorem d_X12_follows_29 : gd cX12_follows 29 (.iload 4) 2 31 := ⟨by decide +kernel, rfl⟩
theorem d_X12_follows_31 : gd cX12_follows 31 (.aload_n 0) 1 32 := ⟨by decide +kernel, rfl⟩
theorem d_X12_follows_32 : gd cX12_follows 32 (.bipush 76) 2 34 := ⟨by decide +kernel, rfl⟩
theorem d_X12_follows_34 : gd cX12_follows 34 (.invokevirtual 337) 3 37 := ⟨by decide +kernel, rfl⟩
theorem d_X12_follows_37 : gd cX12_follows 37 (.if_icmp .ge 22) 3 40 := ⟨by decide +kernel, rfl⟩
theorem d_X12_follows_40 : gd cX12_follows 40 (.iload_n 3) 1 41 := ⟨by decide +kernel, rfl⟩
theorem d_X12_follows_41 : gd cX12_follows 41 (.aload_n 0) 1 42 := ⟨by decide +kernel, rfl⟩
theorem d_X12_follows_42 : gd cX12_follows 42 (.iload 4) 2 44 := ⟨by decide +kernel, rfl⟩
theorem d_X12_follows_44 : gd cX12_follows 44 (.bipush 6) 2 46 := ⟨by decide +kernel, rfl⟩
theorem d_X12_follows_46 : gd cX12_follows 46 (.invokevirtual 302) 3 49 := ⟨by decide +kernel, rfl⟩
theorem d_X12_follows_49 : gd cX12_follows 49 (.invokestatic 316) 3 52 := ⟨by decide +kernel, rfl⟩
theorem d_X12_follows_52 : gd cX12_follows 52 (.istore_n 3) 1 53 := ⟨by decide +kernel, rfl⟩
theorem d_X12_follows_53 : gd cX12_follows 53 (.iinc 4 1) 3 56 := ⟨by decide +kernel, rfl⟩
theorem d_X12_follows_56 : gd cX12_follows 56 (.goto (-27)) 3 59 := ⟨by decide +kernel, rfl⟩
theorem d_X12_follows_59 : gd cX12_follows 59 (.aload_n 0) 1 60 := ⟨by decide +kernel, rfl⟩
theorem d_X12_follows_60 : gd cX12_follows 60 (.getfield 20) 3 63 := ⟨by decide +kernel, rfl⟩
theorem d_X12_follows_63 : gd cX12_follows 63 (.bipush 115) 2 65 := ⟨by decide +kernel, rfl⟩
theorem d_X12_follows_65 : gd cX12_follows 65 (.iload_n 3) 1 66 := ⟨by decide +kernel, rfl⟩
theorem d_X12_follows_66 : gd cX12_follows 66 .iastore 1 67 := ⟨by decide +kernel, rfl⟩
theorem d_X12_follows_67 : gd cX12_follows 67 (.aload_n 0) 1 68 := ⟨by decide +kernel, rfl⟩
theorem d_X12_follows_68 : gd cX12_follows 68 (.getfield 20) 3 71 := ⟨by decide +kernel, rfl⟩
theorem d_X12_follows_71 : gd cX12_follows 71 (.bipush 119) 2 73 := ⟨by decide +kernel, rfl⟩
theorem d_X12_follows_73 : gd cX12_follows 73 (.iload_n 2) 1 74 := ⟨by decide +kernel, rfl⟩
theorem d_X12_follows_74 : gd cX12_follows 74 .iastore 1 75 := ⟨by decide +kernel, rfl⟩
theorem d_X12_follows_75 : gd cX12_follows 75 (.aload_n 0) 1 76 := ⟨by decide +kernel, rfl⟩
theorem d_X12_follows_76 : gd cX12_follows 76 (.getfield 20) 3 79 := ⟨by decide +kernel, rfl⟩
theorem d_X12_follows_79 : gd cX12_follows 79 (.bipush 98) 2 81 := ⟨by decide +kernel, rfl⟩
theorem d_X12_follows_81 : gd cX12_follows 81 (.aload_n 0) 1 82 := ⟨by decide +kernel, rfl⟩
theorem d_X12_follows_82 : gd cX12_follows 82 (.getfield 296) 3 85 := ⟨by decide +kernel, rfl⟩
theorem d_X12_follows_85 : gd cX12_follows 85 .iastore 1 86 := ⟨by decide +kernel, rfl⟩
theorem d_X12_follows_86 : gd cX12_follows 86 (.aload_n 0) 1 87 := ⟨by decide +kernel, rfl⟩
theorem d_X12_follows_87 : gd cX12_follows 87 (.getfield 20) 3 90 := ⟨by decide +kernel, rfl⟩
theorem d_X12_follows_90 : gd cX12_follows 90 (.bipush 109) 2 92 := ⟨by decide +kernel, rfl⟩
theorem d_X12_follows_92 : gd cX12_follows 92 (.aload_n 0) 1 93 := ⟨by decide +kernel, rfl⟩
theorem d_X12_follows_93 : gd cX12_follows 93 (.invokevirtual 343) 3 96 := ⟨by decide +kernel, rfl⟩
theorem d_X12_follows_96 : gd cX12_follows 96 (.bipush 100) 2 98 := ⟨by decide +kernel, rfl⟩
theorem d_X12_follows_98 : gd cX12_follows 98 .idiv 1 99 := ⟨by decide +kernel, rfl⟩
theorem d_X12_follows_99 : gd cX12_follows 99 .iastore 1 100 := ⟨by decide +kernel, rfl⟩
theorem d_X12_follows_100 : gd cX12_follows 100 (.aload_n 0) 1 101 := ⟨by decide +kernel, rfl⟩
theorem d_X12_follows_101 : gd cX12_follows 101 (.aload_n 0) 1 102 := ⟨by decide +kernel, rfl⟩
theorem d_X12_follows_102 : gd cX12_follows 102 (.getfield 13) 3 105 := ⟨by decide +kernel, rfl⟩
theorem d_X12_follows_105 : gd cX12_follows 105 (.sipush 160) 3 108 := ⟨by decide +kernel, rfl⟩
theorem d_X12_follows_108 : gd cX12_follows 108 (.iload_n 1) 1 109 := ⟨by decide +kernel, rfl⟩
theorem d_X12_follows_109 : gd cX12_follows 109 .imul 1 110 := ⟨by decide +kernel, rfl⟩
theorem d_X12_follows_110 : gd cX12_follows 110 (.aload_n 0) 1 111 := ⟨by decide +kernel, rfl⟩
theorem d_X12_follows_111 : gd cX12_follows 111 (.getfield 16) 3 114 := ⟨by decide +kernel, rfl⟩
theorem d_X12_follows_114 : gd cX12_follows 114 (.iload_n 1) 1 115 := ⟨by decide +kernel, rfl⟩
theorem d_X12_follows_115 : gd cX12_follows 115 .iaload 1 116 := ⟨by decide +kernel, rfl⟩
theorem d_X12_follows_116 : gd cX12_follows 116 (.invokevirtual 250) 3 119 := ⟨by decide +kernel, rfl⟩
theorem d_X12_follows_119 : gd cX12_follows 119 (.sipush (-999)) 3 122 := ⟨by decide +kernel, rfl⟩
theorem d_X12_follows_122 : gd cX12_follows 122 (.sipush 999) 3 125 := ⟨by decide +kernel, rfl⟩
theorem d_X12_follows_125 : gd cX12_follows 125 (.aload_n 0) 1 126 := ⟨by decide +kernel, rfl⟩
theorem d_X12_follows_126 : gd cX12_follows 126 (.getfield 204) 3 129 := ⟨by decide +kernel, rfl⟩
theorem d_X12_follows_129 : gd cX12_follows 129 (.invokestatic 314) 3 132 := ⟨by decide +kernel, rfl⟩
theorem d_X12_follows_132 : gd cX12_follows 132 (.invokestatic 316) 3 135 := ⟨by decide +kernel, rfl⟩
theorem d_X12_follows_135 : gd cX12_follows 135 (.istore 4) 2 137 := ⟨by decide +kernel, rfl⟩
theorem d_X12_follows_137 : gd cX12_follows 137 (.aload_n 0) 1 138 := ⟨by decide +kernel, rfl⟩
theorem d_X12_follows_138 : gd cX12_follows 138 .dup 1 139 := ⟨by decide +kernel, rfl⟩
theorem d_X12_follows_139 : gd cX12_follows 139 (.getfield 467) 3 142 := ⟨by decide +kernel, rfl⟩
theorem d_X12_follows_142 : gd cX12_follows 142 (.iload 4) 2 144 := ⟨by decide +kernel, rfl⟩
theorem d_X12_follows_144 : gd cX12_follows 144 (.aload_n 0) 1 145 := ⟨by decide +kernel, rfl⟩
theorem d_X12_follows_145 : gd cX12_follows 145 (.getfield 296) 3 148 := ⟨by decide +kernel, rfl⟩
theorem d_X12_follows_148 : gd cX12_follows 148 .isub 1 149 := ⟨by decide +kernel, rfl⟩
theorem d_X12_follows_149 : gd cX12_follows 149 (.invokestatic 370) 3 152 := ⟨by decide +kernel, rfl⟩
theorem d_X12_follows_152 : gd cX12_follows 152 .iadd 1 153 := ⟨by decide +kernel, rfl⟩
theorem d_X12_follows_153 : gd cX12_follows 153 (.putfield 467) 3 156 := ⟨by decide +kernel, rfl⟩
theorem d_X12_follows_156 : gd cX12_follows 156 (.aload_n 0) 1 157 := ⟨by decide +kernel, rfl⟩
theorem d_X12_follows_157 : gd cX12_follows 157 (.iload 4) 2 159 := ⟨by decide +kernel, rfl⟩
theorem d_X12_follows_159 : gd cX12_follows 159 (.putfield 296) 3 162 := ⟨by decide +kernel, rfl⟩
theorem d_X12_follows_162 : gd cX12_follows 162 .return_ 1 163 := ⟨by decide +kernel, rfl⟩
def Bo_X12_follows_29 (q29 : Int32 → Int32 → Int32 → Int32 → gs_M → Option (gs_M)) (x1 : Int32) (x2 : Int32) (x3 : Int32) (x4 : Int32) (μ : gs_M) : Option (gs_M) :=
  bd (D_X12_now (76 : Int32) μ) (fun v3 u2 => if v3 ≤ x4 then (ck (inb (115 : Int32) 128) (lt1 (sI u2 82 (Int32.toNatClampNeg (115 : Int32)) x3) (fun u6 => ck (inb (119 : Int32) 128) (lt1 (sI u6 82 (Int32.toNatClampNeg (119 : Int32)) x2) (fun u8 => ck (inb (98 : Int32) 128) (lt1 (sI u8 82 (Int32.toNatClampNeg (98 : Int32)) (gI u8 78 28)) (fun u10 => bd (D_X12_moments u10) (fun v13 u12 => ck (inb (109 : Int32) 128) (lt1 (sI u12 82 (Int32.toNatClampNeg (109 : Int32)) (v13 / (100 : Int32))) (fun u15 => ck (inb x1 4) (bd0 (D_X12_goThrough 80 ((160 : Int32) * x1) (gI u15 81 (Int32.toNatClampNeg x1)) u15) (fun u18 => lt1 (if (gI u18 78 14) < (999 : Int32) then (gI u18 78 14) else (999 : Int32)) (fun v19 => lt1 (if (-999 : Int32) < v19 then v19 else (-999 : Int32)) (fun v20 => lt1 (if 0 ≤ (v20 - (gI u18 78 28)) then (v20 - (gI u18 78 28)) else 0 - (v20 - (gI u18 78 28))) (fun v21 => lt1 (sI u18 78 51 ((gI u18 78 51) + v21)) (fun u22 => lt1 (sI u22 78 28 v20) (fun u23 => some u23))))))))))))))))) else (bd (D_X12_of x4 (6 : Int32) u2) (fun v26 u25 => lt1 (if x3 < v26 then v26 else x3) (fun v27 => q29 x1 x2 v27 (x4 + (1 : Int32)) u25))))
def L_X12_follows_29  : Nat → Int32 → Int32 → Int32 → Int32 → gs_M → Option (gs_M)
  | 0 => fun _ _ _ _ _ => none
  | n + 1 => fun x1 x2 x3 x4 μ => Bo_X12_follows_29  (L_X12_follows_29  n) x1 x2 x3 x4 μ
def D_X12_follows (x1 : Int32) (x2 : Int32) (μ : gs_M) : Option (gs_M) :=
  bd (D_X12_lean μ) (fun v3 u2 => ck (inb (108 : Int32) 128) (lt1 (sI u2 82 (Int32.toNatClampNeg (108 : Int32)) v3) (fun u5 => bd (D_X12_now (78 : Int32) u5) (fun v8 u7 => ck (inb (100 : Int32) 128) (lt1 (sI u7 82 (Int32.toNatClampNeg (100 : Int32)) v8) (fun u10 => L_X12_follows_29 4096 x1 x2 (0 : Int32) (0 : Int32) u10))))))
section S_X12_follows
variable {p : Program} {l : Launch} {e : Env} {R : Room} {s : State} {m : MethodId} {args : Array Value} {below : List Frame} {meth : Method} {c : Code} {ad : Nat → Nat} {g : va_G} {tyc : Nat → ClassId}
set_option maxRecDepth 20000 in
theorem To_X12_follows_29  (hK : KC p R s m args meth c ad g tyc RX12 cX12_follows 5 none 77) {μ2 : gs_M} {q29 : Int32 → Int32 → Int32 → Int32 → gs_M → Option (gs_M)} (hq29 : ∀ (x1 : Int32) (x2 : Int32) (x3 : Int32) (x4 : Int32) (μ : gs_M), q29 x1 x2 x3 x4 μ = some μ2 → WJ p l e R s m args below meth c 0 0 (MQ below (gs_Q ad g tyc none μ2) args s 0 0 (gs_A ad)) ad g tyc 5 29 [.ref 78, .int x1, .int x2, .int x3, .int x4] [] μ) {x1 : Int32} {x2 : Int32} {x3 : Int32} {x4 : Int32} {μ : gs_M}  (hD : Bo_X12_follows_29 q29 x1 x2 x3 x4 μ = some μ2) : WJ p l e R s m args below meth c 0 0 (MQ below (gs_Q ad g tyc none μ2) args s 0 0 (gs_A ad)) ad g tyc 5 29 [.ref 78, .int x1, .int x2, .int x3, .int x4] [] μ := by
  unfold Bo_X12_follows_29 at hD
  refine r_iload hK d_X12_follows_29 rfl ?_
  refine r_aload_n hK d_X12_follows_31 rfl rfl ?_
  refine r_bipush hK d_X12_follows_32 cb_76 ?_
  obtain ⟨v3, u2, e1, hD⟩ := bd_e hD
  refine r_callV (As := [.int (76 : Int32)]) (st := [.int x4]) (stk2 := [.int v3, .int x4]) hK (C_X12_now  e1) d_X12_follows_34 mf_X12_now ml_RX12_337 im_X12_now rfl se_11_RX12_X12_now kd_78 rfl (Nat.le_of_ble_eq_true rfl) (by decide) ⟨Nat.zero_le _, Nat.zero_le _⟩ rfl rfl ?_
  refine r_icmp_ge (tgt := 59) hK d_X12_follows_37 (by decide) (fun h4 => ?_) (fun h4 => ?_)
  · have hD := if_t hD h4
    refine r_aload_n hK d_X12_follows_59 rfl rfl ?_
    refine r_getR hK d_X12_follows_60 fl_RX12_20_11 rfl kd_78 ?_
    refine r_ref (b := 82) R0_78_4 ?_
    refine r_bipush hK d_X12_follows_63 cb_115 ?_
    refine r_iload_n hK d_X12_follows_65 rfl rfl ?_
    obtain ⟨h5, hD⟩ := ck_e hD
    refine r_iast hK d_X12_follows_66 kd_82 ln_82 (inb_in h5) ?_
    refine r_ltm hD (fun u6 hD => ?_)
    refine r_aload_n hK d_X12_follows_67 rfl rfl ?_
    refine r_getR hK d_X12_follows_68 fl_RX12_20_11 rfl kd_78 ?_
    refine r_ref (b := 82) R0_78_4 ?_
    refine r_bipush hK d_X12_follows_71 cb_119 ?_
    refine r_iload_n hK d_X12_follows_73 rfl rfl ?_
    obtain ⟨h7, hD⟩ := ck_e hD
    refine r_iast hK d_X12_follows_74 kd_82 ln_82 (inb_in h7) ?_
    refine r_ltm hD (fun u8 hD => ?_)
    refine r_aload_n hK d_X12_follows_75 rfl rfl ?_
    refine r_getR hK d_X12_follows_76 fl_RX12_20_11 rfl kd_78 ?_
    refine r_ref (b := 82) R0_78_4 ?_
    refine r_bipush hK d_X12_follows_79 cb_98 ?_
    refine r_aload_n hK d_X12_follows_81 rfl rfl ?_
    refine r_getI hK d_X12_follows_82 fl_RX12_296_11 rfl kd_78 ?_
    obtain ⟨h9, hD⟩ := ck_e hD
    refine r_iast hK d_X12_follows_85 kd_82 ln_82 (inb_in h9) ?_
    refine r_ltm hD (fun u10 hD => ?_)
    refine r_aload_n hK d_X12_follows_86 rfl rfl ?_
    refine r_getR hK d_X12_follows_87 fl_RX12_20_11 rfl kd_78 ?_
    refine r_ref (b := 82) R0_78_4 ?_
    refine r_bipush hK d_X12_follows_90 cb_109 ?_
    refine r_aload_n hK d_X12_follows_92 rfl rfl ?_
    obtain ⟨v13, u12, e11, hD⟩ := bd_e hD
    refine r_callV (As := []) (st := [.int (109 : Int32), .ref 82]) (stk2 := [.int v13, .int (109 : Int32), .ref 82]) hK (C_X12_moments  e11) d_X12_follows_93 mf_X12_moments ml_RX12_343 im_X12_moments rfl se_11_RX12_X12_moments kd_78 rfl (Nat.le_of_ble_eq_true rfl) (by decide) ⟨Nat.zero_le _, Nat.zero_le _⟩ rfl rfl ?_
    refine r_bipush hK d_X12_follows_96 cb_100 ?_
    refine r_idiv hK d_X12_follows_98 (by decide) ?_
    obtain ⟨h14, hD⟩ := ck_e hD
    refine r_iast hK d_X12_follows_99 kd_82 ln_82 (inb_in h14) ?_
    refine r_ltm hD (fun u15 hD => ?_)
    refine r_aload_n hK d_X12_follows_100 rfl rfl ?_
    refine r_aload_n hK d_X12_follows_101 rfl rfl ?_
    refine r_getR hK d_X12_follows_102 fl_RX12_13_11 rfl kd_78 ?_
    refine r_ref (b := 80) R0_78_2 ?_
    refine r_sipush hK d_X12_follows_105 cs_160 ?_
    refine r_iload_n hK d_X12_follows_108 rfl rfl ?_
    refine r_imul hK d_X12_follows_109 ?_
    refine r_aload_n hK d_X12_follows_110 rfl rfl ?_
    refine r_getR hK d_X12_follows_111 fl_RX12_16_11 rfl kd_78 ?_
    refine r_ref (b := 81) R0_78_3 ?_
    refine r_iload_n hK d_X12_follows_114 rfl rfl ?_
    obtain ⟨h16, hD⟩ := ck_e hD
    refine r_iald hK d_X12_follows_115 kd_81 ln_81 (inb_in h16) ?_
    obtain ⟨u18, e17, hD⟩ := bd0_e hD
    refine r_callV (As := [.ref 80, .int ((160 : Int32) * x1), .int (gI u15 81 (Int32.toNatClampNeg x1))]) (st := []) (stk2 := []) hK (C_X12_goThrough kd_80 e17) d_X12_follows_116 mf_X12_goThrough ml_RX12_250 im_X12_goThrough rfl se_11_RX12_X12_goThrough kd_78 rfl (Nat.le_of_ble_eq_true rfl) (by decide) ⟨Nat.zero_le _, Nat.zero_le _⟩ rfl rfl ?_
    refine r_sipush hK d_X12_follows_119 cs_m999 ?_
    refine r_sipush hK d_X12_follows_122 cs_999 ?_
    refine r_aload_n hK d_X12_follows_125 rfl rfl ?_
    refine r_getI hK d_X12_follows_126 fl_RX12_204_11 rfl kd_78 ?_
    refine r_mmin hK d_X12_follows_129 mm_RX12_314 ms_min mi_0 mc_min (Nat.le_of_ble_eq_true rfl) (by decide) ⟨Nat.zero_le _, Nat.zero_le _⟩ ?_
    refine r_lti hD (fun v19 hD => ?_)
    refine r_mmax hK d_X12_follows_132 mm_RX12_316 ms_max mi_0 mc_max (Nat.le_of_ble_eq_true rfl) (by decide) ⟨Nat.zero_le _, Nat.zero_le _⟩ ?_
    refine r_lti hD (fun v20 hD => ?_)
    refine r_istore hK d_X12_follows_135 (by decide) (ls2 := [.ref 78, .int x1, .int x2, .int x3, .int v20]) rfl ?_
    refine r_aload_n hK d_X12_follows_137 rfl rfl ?_
    refine r_dup hK d_X12_follows_138 rfl ?_
    refine r_getI hK d_X12_follows_139 fl_RX12_467_11 rfl kd_78 ?_
    refine r_iload hK d_X12_follows_142 rfl ?_
    refine r_aload_n hK d_X12_follows_144 rfl rfl ?_
    refine r_getI hK d_X12_follows_145 fl_RX12_296_11 rfl kd_78 ?_
    refine r_isub hK d_X12_follows_148 ?_
    refine r_mabs hK d_X12_follows_149 mm_RX12_370 ms_abs mi_0 mc_abs (Nat.le_of_ble_eq_true rfl) (by decide) ⟨Nat.zero_le _, Nat.zero_le _⟩ ?_
    refine r_lti hD (fun v21 hD => ?_)
    refine r_iadd hK d_X12_follows_152 ?_
    refine r_putI hK d_X12_follows_153 fl_RX12_467_11 rfl rfl kd_78 ?_
    refine r_ltm hD (fun u22 hD => ?_)
    refine r_aload_n hK d_X12_follows_156 rfl rfl ?_
    refine r_iload hK d_X12_follows_157 rfl ?_
    refine r_putI hK d_X12_follows_159 fl_RX12_296_11 rfl rfl kd_78 ?_
    refine r_ltm hD (fun u23 hD => ?_)
    cases hD
    exact r_vret hK d_X12_follows_162
  · have hD := if_f hD h4
    refine r_iload_n hK d_X12_follows_40 rfl rfl ?_
    refine r_aload_n hK d_X12_follows_41 rfl rfl ?_
    refine r_iload hK d_X12_follows_42 rfl ?_
    refine r_bipush hK d_X12_follows_44 cb_6 ?_
    obtain ⟨v26, u25, e24, hD⟩ := bd_e hD
    refine r_callV (As := [.int x4, .int (6 : Int32)]) (st := [.int x3]) (stk2 := [.int v26, .int x3]) hK (C_X12_of  e24) d_X12_follows_46 mf_X12_of ml_RX12_302 im_X12_of rfl se_11_RX12_X12_of kd_78 rfl (Nat.le_of_ble_eq_true rfl) (by decide) ⟨Nat.zero_le _, Nat.zero_le _⟩ rfl rfl ?_
    refine r_mmax hK d_X12_follows_49 mm_RX12_316 ms_max mi_0 mc_max (Nat.le_of_ble_eq_true rfl) (by decide) ⟨Nat.zero_le _, Nat.zero_le _⟩ ?_
    refine r_lti hD (fun v27 hD => ?_)
    refine r_istore_n hK d_X12_follows_52 rfl (by decide) (ls2 := [.ref 78, .int x1, .int x2, .int v27, .int x4]) rfl ?_
    refine r_iinc hK d_X12_follows_53 rfl (v := x4 + (1 : Int32)) (by rw [ci_1]) (by decide) (ls2 := [.ref 78, .int x1, .int x2, .int v27, .int (x4 + (1 : Int32))]) rfl ?_
    refine r_goto (tgt := 29) hK d_X12_follows_56 (by decide) ?_
    exact hq29 _ _ _ _ _  hD
set_option maxRecDepth 20000 in
theorem TL_X12_follows_29  (hK : KC p R s m args meth c ad g tyc RX12 cX12_follows 5 none 77) {μ2 : gs_M}   : ∀ (n : Nat) (x1 : Int32) (x2 : Int32) (x3 : Int32) (x4 : Int32) (μ : gs_M), L_X12_follows_29  n x1 x2 x3 x4 μ = some μ2 → WJ p l e R s m args below meth c 0 0 (MQ below (gs_Q ad g tyc none μ2) args s 0 0 (gs_A ad)) ad g tyc 5 29 [.ref 78, .int x1, .int x2, .int x3, .int x4] [] μ := by
  intro n
  induction n with
  | zero => intro x1 x2 x3 x4 μ  hD; cases hD
  | succ n ih => intro x1 x2 x3 x4 μ  hD; exact To_X12_follows_29 hK  ih  hD
set_option maxRecDepth 20000 in
theorem C_X12_follows  {x1 : Int32} {x2 : Int32} {μ : gs_M} {μ2 : gs_M}  (hD : D_X12_follows x1 x2 μ = some μ2) : CALL yX12_follows cX12_follows 5 none 77 [.ref 78, .int x1, .int x2] μ none μ2 := by
  unfold D_X12_follows at hD
  refine gs_enter mf_X12_follows (Nat.le_of_ble_eq_true rfl) (ls := [.ref 78, .int x1, .int x2, gs_J, gs_J]) rfl (fun p l e R s m args below meth c ad g tyc hK => ?_)
  have hK : KC p R s m args meth c ad g tyc RX12 cX12_follows 5 none 77 := hK
  refine r_aload_n hK d_X12_follows_0 rfl rfl ?_
  refine r_getR hK d_X12_follows_1 fl_RX12_20_11 rfl kd_78 ?_
  refine r_ref (b := 82) R0_78_4 ?_
  refine r_bipush hK d_X12_follows_4 cb_108 ?_
  refine r_aload_n hK d_X12_follows_6 rfl rfl ?_
  obtain ⟨v3, u2, e1, hD⟩ := bd_e hD
  refine r_callV (As := []) (st := [.int (108 : Int32), .ref 82]) (stk2 := [.int v3, .int (108 : Int32), .ref 82]) hK (C_X12_lean  e1) d_X12_follows_7 mf_X12_lean ml_RX12_367 im_X12_lean rfl se_11_RX12_X12_lean kd_78 rfl (Nat.le_of_ble_eq_true rfl) (by decide) ⟨Nat.zero_le _, Nat.zero_le _⟩ rfl rfl ?_
  obtain ⟨h4, hD⟩ := ck_e hD
  refine r_iast hK d_X12_follows_10 kd_82 ln_82 (inb_in h4) ?_
  refine r_ltm hD (fun u5 hD => ?_)
  refine r_aload_n hK d_X12_follows_11 rfl rfl ?_
  refine r_getR hK d_X12_follows_12 fl_RX12_20_11 rfl kd_78 ?_
  refine r_ref (b := 82) R0_78_4 ?_
  refine r_bipush hK d_X12_follows_15 cb_100 ?_
  refine r_aload_n hK d_X12_follows_17 rfl rfl ?_
  refine r_bipush hK d_X12_follows_18 cb_78 ?_
  obtain ⟨v8, u7, e6, hD⟩ := bd_e hD
  refine r_callV (As := [.int (78 : Int32)]) (st := [.int (100 : Int32), .ref 82]) (stk2 := [.int v8, .int (100 : Int32), .ref 82]) hK (C_X12_now  e6) d_X12_follows_20 mf_X12_now ml_RX12_337 im_X12_now rfl se_11_RX12_X12_now kd_78 rfl (Nat.le_of_ble_eq_true rfl) (by decide) ⟨Nat.zero_le _, Nat.zero_le _⟩ rfl rfl ?_
  obtain ⟨h9, hD⟩ := ck_e hD
  refine r_iast hK d_X12_follows_23 kd_82 ln_82 (inb_in h9) ?_
  refine r_ltm hD (fun u10 hD => ?_)
  refine r_iconst hK d_X12_follows_24 ci_0 ?_
  refine r_istore_n hK d_X12_follows_25 rfl (by decide) (ls2 := [.ref 78, .int x1, .int x2, .int (0 : Int32), gs_J]) rfl ?_
  refine r_iconst hK d_X12_follows_26 ci_0 ?_
  refine r_istore hK d_X12_follows_27 (by decide) (ls2 := [.ref 78, .int x1, .int x2, .int (0 : Int32), .int (0 : Int32)]) rfl ?_
  exact TL_X12_follows_29 hK  _ _ _ _ _ _  hD
end S_X12_follows
theorem d_X12_layFollowed_0 : gd cX12_layFollowed 0 (.aload_n 0) 1 1 := ⟨by decide +kernel, rfl⟩
theorem d_X12_layFollowed_1 : gd cX12_layFollowed 1 (.iconst 0) 1 2 := ⟨by decide +kernel, rfl⟩
theorem d_X12_layFollowed_2 : gd cX12_layFollowed 2 (.putfield 470) 3 5 := ⟨by decide +kernel, rfl⟩
theorem d_X12_layFollowed_5 : gd cX12_layFollowed 5 (.aload_n 0) 1 6 := ⟨by decide +kernel, rfl⟩
theorem d_X12_layFollowed_6 : gd cX12_layFollowed 6 (.iconst 0) 1 7 := ⟨by decide +kernel, rfl⟩
theorem d_X12_layFollowed_7 : gd cX12_layFollowed 7 (.putfield 473) 3 10 := ⟨by decide +kernel, rfl⟩
theorem d_X12_layFollowed_10 : gd cX12_layFollowed 10 (.aload_n 0) 1 11 := ⟨by decide +kernel, rfl⟩
theorem d_X12_layFollowed_11 : gd cX12_layFollowed 11 (.iconst 0) 1 12 := ⟨by decide +kernel, rfl⟩
theorem d_X12_layFollowed_12 : gd cX12_layFollowed 12 (.putfield 467) 3 15 := ⟨by decide +kernel, rfl⟩
theorem d_X12_layFollowed_15 : gd cX12_layFollowed 15 (.aload_n 0) 1 16 := ⟨by decide +kernel, rfl⟩
theorem d_X12_layFollowed_16 : gd cX12_layFollowed 16 (.getfield 296) 3 19 := ⟨by decide +kernel, rfl⟩
theorem d_X12_layFollowed_19 : gd cX12_layFollowed 19 (.istore 5) 2 21 := ⟨by decide +kernel, rfl⟩
theorem d_X12_layFollowed_21 : gd cX12_layFollowed 21 (.iconst 0) 1 22 := ⟨by decide +kernel, rfl⟩
theorem d_X12_layFollowed_22 : gd cX12_layFollowed 22 (.istore 6) 2 24 := ⟨by decide +kernel, rfl⟩
theorem d_X12_layFollowed_24 : gd cX12_layFollowed 24 (.iload 6) 2 26 := ⟨by decide +kernel, rfl⟩
theorem d_X12_layFollowed_26 : gd cX12_layFollowed 26 (.iload 4) 2 28 := ⟨by decide +kernel, rfl⟩
theorem d_X12_layFollowed_28 : gd cX12_layFollowed 28 (.if_icmp .ge 96) 3 31 := ⟨by decide +kernel, rfl⟩
theorem d_X12_layFollowed_31 : gd cX12_layFollowed 31 (.aload_n 0) 1 32 := ⟨by decide +kernel, rfl⟩
theorem d_X12_layFollowed_32 : gd cX12_layFollowed 32 (.invokevirtual 402) 3 35 := ⟨by decide +kernel, rfl⟩
theorem d_X12_layFollowed_35 : gd cX12_layFollowed 35 (.aload_n 0) 1 36 := ⟨by decide +kernel, rfl⟩
theorem d_X12_layFollowed_36 : gd cX12_layFollowed 36 (.iload 6) 2 38 := ⟨by decide +kernel, rfl⟩
theorem d_X12_layFollowed_38 : gd cX12_layFollowed 38 .i2l 1 39 := ⟨by decide +kernel, rfl⟩
theorem d_X12_layFollowed_39 : gd cX12_layFollowed 39 (.putfield 352) 3 42 := ⟨by decide +kernel, rfl⟩
theorem d_X12_layFollowed_42 : gd cX12_layFollowed 42 (.aload_n 0) 1 43 := ⟨by decide +kernel, rfl⟩
theorem d_X12_layFollowed_43 : gd cX12_layFollowed 43 (.iload 5) 2 45 := ⟨by decide +kernel, rfl⟩
theorem d_X12_layFollowed_45 : gd cX12_layFollowed 45 (.putfield 296) 3 48 := ⟨by decide +kernel, rfl⟩
theorem d_X12_layFollowed_48 : gd cX12_layFollowed 48 (.iconst 0) 1 49 := ⟨by decide +kernel, rfl⟩
theorem d_X12_layFollowed_49 : gd cX12_layFollowed 49 (.istore 7) 2 51 := ⟨by decide +kernel, rfl⟩
theorem d_X12_layFollowed_51 : gd cX12_layFollowed 51 (.iload 7) 2 53 := ⟨by decide +kernel, rfl⟩
theorem d_X12_layFollowed_53 : gd cX12_layFollowed 53 (.iload_n 3) 1 54 := ⟨by decide +kernel, rfl⟩
theorem d_X12_layFollowed_54 : gd cX12_layFollowed 54 (.if_icmp .ge 29) 3 57 := ⟨by decide +kernel, rfl⟩
theorem d_X12_layFollowed_57 : gd cX12_layFollowed 57 (.aload_n 0) 1 58 := ⟨by decide +kernel, rfl⟩
theorem d_X12_layFollowed_58 : gd cX12_layFollowed 58 (.bipush 79) 2 60 := ⟨by decide +kernel, rfl⟩
theorem d_X12_layFollowed_60 : gd cX12_layFollowed 60 (.invokevirtual 337) 3 63 := ⟨by decide +kernel, rfl⟩
theorem d_X12_layFollowed_63 : gd cX12_layFollowed 63 (.ifCond .ne 20) 3 66 := ⟨by decide +kernel, rfl⟩
theorem d_X12_layFollowed_66 : gd cX12_layFollowed 66 (.aload_n 0) 1 67 := ⟨by decide +kernel, rfl⟩
theorem d_X12_layFollowed_67 : gd cX12_layFollowed 67 (.iload_n 1) 1 68 := ⟨by decide +kernel, rfl⟩
theorem d_X12_layFollowed_68 : gd cX12_layFollowed 68 (.iload_n 2) 1 69 := ⟨by decide +kernel, rfl⟩
theorem d_X12_layFollowed_69 : gd cX12_layFollowed 69 (.invokevirtual 476) 3 72 := ⟨by decide +kernel, rfl⟩
theorem d_X12_layFollowed_72 : gd cX12_layFollowed 72 (.aload_n 0) 1 73 := ⟨by decide +kernel, rfl⟩
theorem d_X12_layFollowed_73 : gd cX12_layFollowed 73 (.iload_n 2) 1 74 := ⟨by decide +kernel, rfl⟩
theorem d_X12_layFollowed_74 : gd cX12_layFollowed 74 (.invokevirtual 388) 3 77 := ⟨by decide +kernel, rfl⟩
theorem d_X12_layFollowed_77 : gd cX12_layFollowed 77 (.iinc 7 1) 3 80 := ⟨by decide +kernel, rfl⟩
theorem d_X12_layFollowed_80 : gd cX12_layFollowed 80 (.goto (-29)) 3 83 := ⟨by decide +kernel, rfl⟩
theorem d_X12_layFollowed_83 : gd cX12_layFollowed 83 (.aload_n 0) 1 84 := ⟨by decide +kernel, rfl⟩
theorem d_X12_layFollowed_84 : gd cX12_layFollowed 84 .dup 1 85 := ⟨by decide +kernel, rfl⟩
theorem d_X12_layFollowed_85 : gd cX12_layFollowed 85 (.getfield 470) 3 88 := ⟨by decide +kernel, rfl⟩
theorem d_X12_layFollowed_88 : gd cX12_layFollowed 88 (.aload_n 0) 1 89 := ⟨by decide +kernel, rfl⟩
theorem d_X12_layFollowed_89 : gd cX12_layFollowed 89 (.bipush 79) 2 91 := ⟨by decide +kernel, rfl⟩
theorem d_X12_layFollowed_91 : gd cX12_layFollowed 91 (.invokevirtual 337) 3 94 := ⟨by decide +kernel, rfl⟩
theorem d_X12_layFollowed_94 : gd cX12_layFollowed 94 .iadd 1 95 := ⟨by decide +kernel, rfl⟩
theorem d_X12_layFollowed_95 : gd cX12_layFollowed 95 (.putfield 470) 3 98 := ⟨by decide +kernel, rfl⟩
theorem d_X12_layFollowed_98 : gd cX12_layFollowed 98 (.aload_n 0) 1 99 := ⟨by decide +kernel, rfl⟩
theorem d_X12_layFollowed_99 : gd cX12_layFollowed 99 .dup 1 100 := ⟨by decide +kernel, rfl⟩
theorem d_X12_layFollowed_100 : gd cX12_layFollowed 100 (.getfield 473) 3 103 := ⟨by decide +kernel, rfl⟩
theorem d_X12_layFollowed_103 : gd cX12_layFollowed 103 (.aload_n 0) 1 104 := ⟨by decide +kernel, rfl⟩
theorem d_X12_layFollowed_104 : gd cX12_layFollowed 104 (.invokevirtual 367) 3 107 := ⟨by decide +kernel, rfl⟩
theorem d_X12_layFollowed_107 : gd cX12_layFollowed 107 (.invokestatic 370) 3 110 := ⟨by decide +kernel, rfl⟩
theorem d_X12_layFollowed_110 : gd cX12_layFollowed 110 .iadd 1 111 := ⟨by decide +kernel, rfl⟩
theorem d_X12_layFollowed_111 : gd cX12_layFollowed 111 (.putfield 473) 3 114 := ⟨by decide +kernel, rfl⟩
theorem d_X12_layFollowed_114 : gd cX12_layFollowed 114 (.aload_n 0) 1 115 := ⟨by decide +kernel, rfl⟩
theorem d_X12_layFollowed_115 : gd cX12_layFollowed 115 (.invokevirtual 405) 3 118 := ⟨by decide +kernel, rfl⟩
theorem d_X12_layFollowed_118 : gd cX12_layFollowed 118 (.iinc 6 1) 3 121 := ⟨by decide +kernel, rfl⟩
theorem d_X12_layFollowed_121 : gd cX12_layFollowed 121 (.goto (-97)) 3 124 := ⟨by decide +kernel, rfl⟩
theorem d_X12_layFollowed_124 : gd cX12_layFollowed 124 (.aload_n 0) 1 125 := ⟨by decide +kernel, rfl⟩
theorem d_X12_layFollowed_125 : gd cX12_layFollowed 125 (.iload 5) 2 127 := ⟨by decide +kernel, rfl⟩
theorem d_X12_layFollowed_127 : gd cX12_layFollowed 127 (.putfield 296) 3 130 := ⟨by decide +kernel, rfl⟩
theorem d_X12_layFollowed_130 : gd cX12_layFollowed 130 .return_ 1 131 := ⟨by decide +kernel, rfl⟩
def B_X12_layFollowed_83 (q24 : Int32 → Int32 → Int32 → Int32 → Int32 → Int32 → gs_M → Option (gs_M)) (x1 : Int32) (x2 : Int32) (x3 : Int32) (x4 : Int32) (x5 : Int32) (x6 : Int32) (μ : gs_M) : Option (gs_M) :=
  bd (D_X12_now (79 : Int32) μ) (fun v3 u2 => lt1 (sI u2 78 49 ((gI μ 78 49) + v3)) (fun u4 => bd (D_X12_lean u4) (fun v7 u6 => lt1 (if 0 ≤ v7 then v7 else 0 - v7) (fun v8 => lt1 (sI u6 78 50 ((gI u4 78 50) + v8)) (fun u9 => bd0 (D_X12_putBack u9) (fun u11 => q24 x1 x2 x3 x4 x5 (x6 + (1 : Int32)) u11))))))
def Bo_X12_layFollowed_51 (q24 : Int32 → Int32 → Int32 → Int32 → Int32 → Int32 → gs_M → Option (gs_M)) (q51 : Int32 → Int32 → Int32 → Int32 → Int32 → Int32 → Int32 → gs_M → Option (gs_M)) (x1 : Int32) (x2 : Int32) (x3 : Int32) (x4 : Int32) (x5 : Int32) (x6 : Int32) (x7 : Int32) (μ : gs_M) : Option (gs_M) :=
  if x3 ≤ x7 then (B_X12_layFollowed_83 q24 x1 x2 x3 x4 x5 x6 μ) else (bd (D_X12_now (79 : Int32) μ) (fun v4 u3 => if v4 = 0 then (bd0 (D_X12_follows x1 x2 u3) (fun u7 => bd0 (D_X12_days x2 u7) (fun u9 => q51 x1 x2 x3 x4 x5 x6 (x7 + (1 : Int32)) u9))) else (B_X12_layFollowed_83 q24 x1 x2 x3 x4 x5 x6 u3)))
def L_X12_layFollowed_51 (q24 : Int32 → Int32 → Int32 → Int32 → Int32 → Int32 → gs_M → Option (gs_M)) : Nat → Int32 → Int32 → Int32 → Int32 → Int32 → Int32 → Int32 → gs_M → Option (gs_M)
  | 0 => fun _ _ _ _ _ _ _ _ => none
  | n + 1 => fun x1 x2 x3 x4 x5 x6 x7 μ => Bo_X12_layFollowed_51 q24 (L_X12_layFollowed_51 q24 n) x1 x2 x3 x4 x5 x6 x7 μ
def Bo_X12_layFollowed_24 (q24 : Int32 → Int32 → Int32 → Int32 → Int32 → Int32 → gs_M → Option (gs_M)) (x1 : Int32) (x2 : Int32) (x3 : Int32) (x4 : Int32) (x5 : Int32) (x6 : Int32) (μ : gs_M) : Option (gs_M) :=
  if x4 ≤ x6 then (lt1 (sI μ 78 28 x5) (fun u2 => some u2)) else (bd0 (D_X12_keeps μ) (fun u4 => lt1 (sL u4 78 33 (Int32.toInt64 x6)) (fun u5 => lt1 (sI u5 78 28 x5) (fun u6 => L_X12_layFollowed_51 q24 4096 x1 x2 x3 x4 x5 x6 (0 : Int32) u6))))
def L_X12_layFollowed_24  : Nat → Int32 → Int32 → Int32 → Int32 → Int32 → Int32 → gs_M → Option (gs_M)
  | 0 => fun _ _ _ _ _ _ _ => none
  | n + 1 => fun x1 x2 x3 x4 x5 x6 μ => Bo_X12_layFollowed_24  (L_X12_layFollowed_24  n) x1 x2 x3 x4 x5 x6 μ
def D_X12_layFollowed (x1 : Int32) (x2 : Int32) (x3 : Int32) (x4 : Int32) (μ : gs_M) : Option (gs_M) :=
  lt1 (sI μ 78 49 (0 : Int32)) (fun u1 => lt1 (sI u1 78 50 (0 : Int32)) (fun u2 => lt1 (sI u2 78 51 (0 : Int32)) (fun u3 => lt1 (gI u3 78 28) (fun v4 => L_X12_layFollowed_24 4096 x1 x2 x3 x4 v4 (0 : Int32) u3))))
section S_X12_layFollowed
variable {p : Program} {l : Launch} {e : Env} {R : Room} {s : State} {m : MethodId} {args : Array Value} {below : List Frame} {meth : Method} {c : Code} {ad : Nat → Nat} {g : va_G} {tyc : Nat → ClassId}
set_option maxRecDepth 20000 in
theorem T_X12_layFollowed_83  (hK : KC p R s m args meth c ad g tyc RX12 cX12_layFollowed 8 none 78) {μ2 : gs_M} {q24 : Int32 → Int32 → Int32 → Int32 → Int32 → Int32 → gs_M → Option (gs_M)} (hq24 : ∀ (x1 : Int32) (x2 : Int32) (x3 : Int32) (x4 : Int32) (x5 : Int32) (x6 : Int32) (μ : gs_M), q24 x1 x2 x3 x4 x5 x6 μ = some μ2 → WJ p l e R s m args below meth c 0 0 (MQ below (gs_Q ad g tyc none μ2) args s 0 0 (gs_A ad)) ad g tyc 8 24 [.ref 78, .int x1, .int x2, .int x3, .int x4, .int x5, .int x6, gs_J] [] μ) {x1 : Int32} {x2 : Int32} {x3 : Int32} {x4 : Int32} {x5 : Int32} {x6 : Int32} {μ : gs_M}  (hD : B_X12_layFollowed_83 q24 x1 x2 x3 x4 x5 x6 μ = some μ2) : WJ p l e R s m args below meth c 0 0 (MQ below (gs_Q ad g tyc none μ2) args s 0 0 (gs_A ad)) ad g tyc 8 83 [.ref 78, .int x1, .int x2, .int x3, .int x4, .int x5, .int x6, gs_J] [] μ := by
  unfold B_X12_layFollowed_83 at hD
  refine r_aload_n hK d_X12_layFollowed_83 rfl rfl ?_
  refine r_dup hK d_X12_layFollowed_84 rfl ?_
  refine r_getI hK d_X12_layFollowed_85 fl_RX12_470_11 rfl kd_78 ?_
  refine r_aload_n hK d_X12_layFollowed_88 rfl rfl ?_
  refine r_bipush hK d_X12_layFollowed_89 cb_79 ?_
  obtain ⟨v3, u2, e1, hD⟩ := bd_e hD
  refine r_callV (As := [.int (79 : Int32)]) (st := [.int (gI μ 78 49), .ref 78]) (stk2 := [.int v3, .int (gI μ 78 49), .ref 78]) hK (C_X12_now  e1) d_X12_layFollowed_91 mf_X12_now ml_RX12_337 im_X12_now rfl se_11_RX12_X12_now kd_78 rfl (Nat.le_of_ble_eq_true rfl) (by decide) ⟨Nat.zero_le _, Nat.zero_le _⟩ rfl rfl ?_
  refine r_iadd hK d_X12_layFollowed_94 ?_
  refine r_putI hK d_X12_layFollowed_95 fl_RX12_470_11 rfl rfl kd_78 ?_
  refine r_ltm hD (fun u4 hD => ?_)
  refine r_aload_n hK d_X12_layFollowed_98 rfl rfl ?_
  refine r_dup hK d_X12_layFollowed_99 rfl ?_
  refine r_getI hK d_X12_layFollowed_100 fl_RX12_473_11 rfl kd_78 ?_
  refine r_aload_n hK d_X12_layFollowed_103 rfl rfl ?_
  obtain ⟨v7, u6, e5, hD⟩ := bd_e hD
  refine r_callV (As := []) (st := [.int (gI u4 78 50), .ref 78]) (stk2 := [.int v7, .int (gI u4 78 50), .ref 78]) hK (C_X12_lean  e5) d_X12_layFollowed_104 mf_X12_lean ml_RX12_367 im_X12_lean rfl se_11_RX12_X12_lean kd_78 rfl (Nat.le_of_ble_eq_true rfl) (by decide) ⟨Nat.zero_le _, Nat.zero_le _⟩ rfl rfl ?_
  refine r_mabs hK d_X12_layFollowed_107 mm_RX12_370 ms_abs mi_0 mc_abs (Nat.le_of_ble_eq_true rfl) (by decide) ⟨Nat.zero_le _, Nat.zero_le _⟩ ?_
  refine r_lti hD (fun v8 hD => ?_)
  refine r_iadd hK d_X12_layFollowed_110 ?_
  refine r_putI hK d_X12_layFollowed_111 fl_RX12_473_11 rfl rfl kd_78 ?_
  refine r_ltm hD (fun u9 hD => ?_)
  refine r_aload_n hK d_X12_layFollowed_114 rfl rfl ?_
  obtain ⟨u11, e10, hD⟩ := bd0_e hD
  refine r_callV (As := []) (st := []) (stk2 := []) hK (C_X12_putBack  e10) d_X12_layFollowed_115 mf_X12_putBack ml_RX12_405 im_X12_putBack rfl se_11_RX12_X12_putBack kd_78 rfl (Nat.le_of_ble_eq_true rfl) (by decide) ⟨Nat.zero_le _, Nat.zero_le _⟩ rfl rfl ?_
  refine r_iinc hK d_X12_layFollowed_118 rfl (v := x6 + (1 : Int32)) (by rw [ci_1]) (by decide) (ls2 := [.ref 78, .int x1, .int x2, .int x3, .int x4, .int x5, .int (x6 + (1 : Int32)), gs_J]) rfl ?_
  refine r_goto (tgt := 24) hK d_X12_layFollowed_121 (by decide) ?_
  exact hq24 _ _ _ _ _ _ _  hD
set_option maxRecDepth 20000 in
theorem To_X12_layFollowed_51  (hK : KC p R s m args meth c ad g tyc RX12 cX12_layFollowed 8 none 78) {μ2 : gs_M} {q24 : Int32 → Int32 → Int32 → Int32 → Int32 → Int32 → gs_M → Option (gs_M)} {q51 : Int32 → Int32 → Int32 → Int32 → Int32 → Int32 → Int32 → gs_M → Option (gs_M)} (hq24 : ∀ (x1 : Int32) (x2 : Int32) (x3 : Int32) (x4 : Int32) (x5 : Int32) (x6 : Int32) (μ : gs_M), q24 x1 x2 x3 x4 x5 x6 μ = some μ2 → WJ p l e R s m args below meth c 0 0 (MQ below (gs_Q ad g tyc none μ2) args s 0 0 (gs_A ad)) ad g tyc 8 24 [.ref 78, .int x1, .int x2, .int x3, .int x4, .int x5, .int x6, gs_J] [] μ) (hq51 : ∀ (x1 : Int32) (x2 : Int32) (x3 : Int32) (x4 : Int32) (x5 : Int32) (x6 : Int32) (x7 : Int32) (μ : gs_M), q51 x1 x2 x3 x4 x5 x6 x7 μ = some μ2 → WJ p l e R s m args below meth c 0 0 (MQ below (gs_Q ad g tyc none μ2) args s 0 0 (gs_A ad)) ad g tyc 8 51 [.ref 78, .int x1, .int x2, .int x3, .int x4, .int x5, .int x6, .int x7] [] μ) {x1 : Int32} {x2 : Int32} {x3 : Int32} {x4 : Int32} {x5 : Int32} {x6 : Int32} {x7 : Int32} {μ : gs_M}  (hD : Bo_X12_layFollowed_51 q24 q51 x1 x2 x3 x4 x5 x6 x7 μ = some μ2) : WJ p l e R s m args below meth c 0 0 (MQ below (gs_Q ad g tyc none μ2) args s 0 0 (gs_A ad)) ad g tyc 8 51 [.ref 78, .int x1, .int x2, .int x3, .int x4, .int x5, .int x6, .int x7] [] μ := by
  unfold Bo_X12_layFollowed_51 at hD
  refine r_iload hK d_X12_layFollowed_51 rfl ?_
  refine r_iload_n hK d_X12_layFollowed_53 rfl rfl ?_
  refine r_icmp_ge (tgt := 83) hK d_X12_layFollowed_54 (by decide) (fun h1 => ?_) (fun h1 => ?_)
  · have hD := if_t hD h1
    refine r_junk [true, true, true, true, true, true, true, false] (ls2 := [.ref 78, .int x1, .int x2, .int x3, .int x4, .int x5, .int x6, gs_J]) rfl ?_
    exact T_X12_layFollowed_83 hK hq24  hD
  · have hD := if_f hD h1
    refine r_aload_n hK d_X12_layFollowed_57 rfl rfl ?_
    refine r_bipush hK d_X12_layFollowed_58 cb_79 ?_
    obtain ⟨v4, u3, e2, hD⟩ := bd_e hD
    refine r_callV (As := [.int (79 : Int32)]) (st := []) (stk2 := [.int v4]) hK (C_X12_now  e2) d_X12_layFollowed_60 mf_X12_now ml_RX12_337 im_X12_now rfl se_11_RX12_X12_now kd_78 rfl (Nat.le_of_ble_eq_true rfl) (by decide) ⟨Nat.zero_le _, Nat.zero_le _⟩ rfl rfl ?_
    refine r_if_ne (tgt := 83) hK d_X12_layFollowed_63 (by decide) (fun h5 => ?_) (fun h5 => ?_)
    · have hD := if_f hD h5
      refine r_junk [true, true, true, true, true, true, true, false] (ls2 := [.ref 78, .int x1, .int x2, .int x3, .int x4, .int x5, .int x6, gs_J]) rfl ?_
      exact T_X12_layFollowed_83 hK hq24  hD
    · have hD := if_t hD h5
      refine r_aload_n hK d_X12_layFollowed_66 rfl rfl ?_
      refine r_iload_n hK d_X12_layFollowed_67 rfl rfl ?_
      refine r_iload_n hK d_X12_layFollowed_68 rfl rfl ?_
      obtain ⟨u7, e6, hD⟩ := bd0_e hD
      refine r_callV (As := [.int x1, .int x2]) (st := []) (stk2 := []) hK (C_X12_follows  e6) d_X12_layFollowed_69 mf_X12_follows ml_RX12_476 im_X12_follows rfl se_11_RX12_X12_follows kd_78 rfl (Nat.le_of_ble_eq_true rfl) (by decide) ⟨Nat.zero_le _, Nat.zero_le _⟩ rfl rfl ?_
      refine r_aload_n hK d_X12_layFollowed_72 rfl rfl ?_
      refine r_iload_n hK d_X12_layFollowed_73 rfl rfl ?_
      obtain ⟨u9, e8, hD⟩ := bd0_e hD
      refine r_callV (As := [.int x2]) (st := []) (stk2 := []) hK (C_X12_days  e8) d_X12_layFollowed_74 mf_X12_days ml_RX12_388 im_X12_days rfl se_11_RX12_X12_days kd_78 rfl (Nat.le_of_ble_eq_true rfl) (by decide) ⟨Nat.zero_le _, Nat.zero_le _⟩ rfl rfl ?_
      refine r_iinc hK d_X12_layFollowed_77 rfl (v := x7 + (1 : Int32)) (by rw [ci_1]) (by decide) (ls2 := [.ref 78, .int x1, .int x2, .int x3, .int x4, .int x5, .int x6, .int (x7 + (1 : Int32))]) rfl ?_
      refine r_goto (tgt := 51) hK d_X12_layFollowed_80 (by decide) ?_
      exact hq51 _ _ _ _ _ _ _ _  hD
set_option maxRecDepth 20000 in
theorem TL_X12_layFollowed_51  (hK : KC p R s m args meth c ad g tyc RX12 cX12_layFollowed 8 none 78) {μ2 : gs_M} {q24 : Int32 → Int32 → Int32 → Int32 → Int32 → Int32 → gs_M → Option (gs_M)} (hq24 : ∀ (x1 : Int32) (x2 : Int32) (x3 : Int32) (x4 : Int32) (x5 : Int32) (x6 : Int32) (μ : gs_M), q24 x1 x2 x3 x4 x5 x6 μ = some μ2 → WJ p l e R s m args below meth c 0 0 (MQ below (gs_Q ad g tyc none μ2) args s 0 0 (gs_A ad)) ad g tyc 8 24 [.ref 78, .int x1, .int x2, .int x3, .int x4, .int x5, .int x6, gs_J] [] μ) : ∀ (n : Nat) (x1 : Int32) (x2 : Int32) (x3 : Int32) (x4 : Int32) (x5 : Int32) (x6 : Int32) (x7 : Int32) (μ : gs_M), L_X12_layFollowed_51 q24 n x1 x2 x3 x4 x5 x6 x7 μ = some μ2 → WJ p l e R s m args below meth c 0 0 (MQ below (gs_Q ad g tyc none μ2) args s 0 0 (gs_A ad)) ad g tyc 8 51 [.ref 78, .int x1, .int x2, .int x3, .int x4, .int x5, .int x6, .int x7] [] μ := by
  intro n
  induction n with
  | zero => intro x1 x2 x3 x4 x5 x6 x7 μ  hD; cases hD
  | succ n ih => intro x1 x2 x3 x4 x5 x6 x7 μ  hD; exact To_X12_layFollowed_51 hK hq24 ih  hD
set_option maxRecDepth 20000 in
theorem To_X12_layFollowed_24  (hK : KC p R s m args meth c ad g tyc RX12 cX12_layFollowed 8 none 78) {μ2 : gs_M} {q24 : Int32 → Int32 → Int32 → Int32 → Int32 → Int32 → gs_M → Option (gs_M)} (hq24 : ∀ (x1 : Int32) (x2 : Int32) (x3 : Int32) (x4 : Int32) (x5 : Int32) (x6 : Int32) (μ : gs_M), q24 x1 x2 x3 x4 x5 x6 μ = some μ2 → WJ p l e R s m args below meth c 0 0 (MQ below (gs_Q ad g tyc none μ2) args s 0 0 (gs_A ad)) ad g tyc 8 24 [.ref 78, .int x1, .int x2, .int x3, .int x4, .int x5, .int x6, gs_J] [] μ) {x1 : Int32} {x2 : Int32} {x3 : Int32} {x4 : Int32} {x5 : Int32} {x6 : Int32} {μ : gs_M}  (hD : Bo_X12_layFollowed_24 q24 x1 x2 x3 x4 x5 x6 μ = some μ2) : WJ p l e R s m args below meth c 0 0 (MQ below (gs_Q ad g tyc none μ2) args s 0 0 (gs_A ad)) ad g tyc 8 24 [.ref 78, .int x1, .int x2, .int x3, .int x4, .int x5, .int x6, gs_J] [] μ := by
  unfold Bo_X12_layFollowed_24 at hD
  refine r_iload hK d_X12_layFollowed_24 rfl ?_
  refine r_iload hK d_X12_layFollowed_26 rfl ?_
  refine r_icmp_ge (tgt := 124) hK d_X12_layFollowed_28 (by decide) (fun h1 => ?_) (fun h1 => ?_)
  · have hD := if_t hD h1
    refine r_aload_n hK d_X12_layFollowed_124 rfl rfl ?_
    refine r_iload hK d_X12_layFollowed_125 rfl ?_
    refine r_putI hK d_X12_layFollowed_127 fl_RX12_296_11 rfl rfl kd_78 ?_
    refine r_ltm hD (fun u2 hD => ?_)
    cases hD
    exact r_vret hK d_X12_layFollowed_130
  · have hD := if_f hD h1
    refine r_aload_n hK d_X12_layFollowed_31 rfl rfl ?_
    obtain ⟨u4, e3, hD⟩ := bd0_e hD
    refine r_callV (As := []) (st := []) (stk2 := []) hK (C_X12_keeps  e3) d_X12_layFollowed_32 mf_X12_keeps ml_RX12_402 im_X12_keeps rfl se_11_RX12_X12_keeps kd_78 rfl (Nat.le_of_ble_eq_true rfl) (by decide) ⟨Nat.zero_le _, Nat.zero_le _⟩ rfl rfl ?_
    refine r_aload_n hK d_X12_layFollowed_35 rfl rfl ?_
    refine r_iload hK d_X12_layFollowed_36 rfl ?_
    refine r_i2l hK d_X12_layFollowed_38 ?_
    refine r_putL hK d_X12_layFollowed_39 fl_RX12_352_11 rfl rfl kd_78 ?_
    refine r_ltm hD (fun u5 hD => ?_)
    refine r_aload_n hK d_X12_layFollowed_42 rfl rfl ?_
    refine r_iload hK d_X12_layFollowed_43 rfl ?_
    refine r_putI hK d_X12_layFollowed_45 fl_RX12_296_11 rfl rfl kd_78 ?_
    refine r_ltm hD (fun u6 hD => ?_)
    refine r_iconst hK d_X12_layFollowed_48 ci_0 ?_
    refine r_istore hK d_X12_layFollowed_49 (by decide) (ls2 := [.ref 78, .int x1, .int x2, .int x3, .int x4, .int x5, .int x6, .int (0 : Int32)]) rfl ?_
    exact TL_X12_layFollowed_51 hK hq24 _ _ _ _ _ _ _ _ _  hD
set_option maxRecDepth 20000 in
theorem TL_X12_layFollowed_24  (hK : KC p R s m args meth c ad g tyc RX12 cX12_layFollowed 8 none 78) {μ2 : gs_M}   : ∀ (n : Nat) (x1 : Int32) (x2 : Int32) (x3 : Int32) (x4 : Int32) (x5 : Int32) (x6 : Int32) (μ : gs_M), L_X12_layFollowed_24  n x1 x2 x3 x4 x5 x6 μ = some μ2 → WJ p l e R s m args below meth c 0 0 (MQ below (gs_Q ad g tyc none μ2) args s 0 0 (gs_A ad)) ad g tyc 8 24 [.ref 78, .int x1, .int x2, .int x3, .int x4, .int x5, .int x6, gs_J] [] μ := by
  intro n
  induction n with
  | zero => intro x1 x2 x3 x4 x5 x6 μ  hD; cases hD
  | succ n ih => intro x1 x2 x3 x4 x5 x6 μ  hD; exact To_X12_layFollowed_24 hK  ih  hD
set_option maxRecDepth 20000 in
theorem C_X12_layFollowed  {x1 : Int32} {x2 : Int32} {x3 : Int32} {x4 : Int32} {μ : gs_M} {μ2 : gs_M}  (hD : D_X12_layFollowed x1 x2 x3 x4 μ = some μ2) : CALL yX12_layFollowed cX12_layFollowed 8 none 78 [.ref 78, .int x1, .int x2, .int x3, .int x4] μ none μ2 := by
  unfold D_X12_layFollowed at hD
  refine gs_enter mf_X12_layFollowed (Nat.le_of_ble_eq_true rfl) (ls := [.ref 78, .int x1, .int x2, .int x3, .int x4, gs_J, gs_J, gs_J]) rfl (fun p l e R s m args below meth c ad g tyc hK => ?_)
  have hK : KC p R s m args meth c ad g tyc RX12 cX12_layFollowed 8 none 78 := hK
  refine r_aload_n hK d_X12_layFollowed_0 rfl rfl ?_
  refine r_iconst hK d_X12_layFollowed_1 ci_0 ?_
  refine r_putI hK d_X12_layFollowed_2 fl_RX12_470_11 rfl rfl kd_78 ?_
  refine r_ltm hD (fun u1 hD => ?_)
  refine r_aload_n hK d_X12_layFollowed_5 rfl rfl ?_
  refine r_iconst hK d_X12_layFollowed_6 ci_0 ?_
  refine r_putI hK d_X12_layFollowed_7 fl_RX12_473_11 rfl rfl kd_78 ?_
  refine r_ltm hD (fun u2 hD => ?_)
  refine r_aload_n hK d_X12_layFollowed_10 rfl rfl ?_
  refine r_iconst hK d_X12_layFollowed_11 ci_0 ?_
  refine r_putI hK d_X12_layFollowed_12 fl_RX12_467_11 rfl rfl kd_78 ?_
  refine r_ltm hD (fun u3 hD => ?_)
  refine r_aload_n hK d_X12_layFollowed_15 rfl rfl ?_
  refine r_getI hK d_X12_layFollowed_16 fl_RX12_296_11 rfl kd_78 ?_
  refine r_lti hD (fun v4 hD => ?_)
  refine r_istore hK d_X12_layFollowed_19 (by decide) (ls2 := [.ref 78, .int x1, .int x2, .int x3, .int x4, .int v4, gs_J, gs_J]) rfl ?_
  refine r_iconst hK d_X12_layFollowed_21 ci_0 ?_
  refine r_istore hK d_X12_layFollowed_22 (by decide) (ls2 := [.ref 78, .int x1, .int x2, .int x3, .int x4, .int v4, .int (0 : Int32), gs_J]) rfl ?_
  exact TL_X12_layFollowed_24 hK  _ _ _ _ _ _ _ _  hD
end S_X12_layFollowed
theorem d_X12_follow_0 : gd cX12_follow 0 (.aload_n 0) 1 1 := ⟨by decide +kernel, rfl⟩
theorem d_X12_follow_1 : gd cX12_follow 1 (.iconst 0) 1 2 := ⟨by decide +kernel, rfl⟩
theorem d_X12_follow_2 : gd cX12_follow 2 (.putfield 98) 3 5 := ⟨by decide +kernel, rfl⟩
theorem d_X12_follow_5 : gd cX12_follow 5 (.iload_n 1) 1 6 := ⟨by decide +kernel, rfl⟩
theorem d_X12_follow_6 : gd cX12_follow 6 (.iconst 0) 1 7 := ⟨by decide +kernel, rfl⟩
theorem d_X12_follow_7 : gd cX12_follow 7 (.aload_n 0) 1 8 := ⟨by decide +kernel, rfl⟩
theorem d_X12_follow_8 : gd cX12_follow 8 (.getfield 274) 3 11 := ⟨by decide +kernel, rfl⟩
theorem d_X12_follow_11 : gd cX12_follow 11 (.iconst 1) 1 12 := ⟨by decide +kernel, rfl⟩
theorem d_X12_follow_12 : gd cX12_follow 12 .isub 1 13 := ⟨by decide +kernel, rfl⟩
theorem d_X12_follow_13 : gd cX12_follow 13 (.invokestatic 217) 3 16 := ⟨by decide +kernel, rfl⟩
theorem d_X12_follow_16 : gd cX12_follow 16 (.ifCond .eq 24) 3 19 := ⟨by decide +kernel, rfl⟩
theorem d_X12_follow_19 : gd cX12_follow 19 (.aload_n 0) 1 20 := ⟨by decide +kernel, rfl⟩
theorem d_X12_follow_20 : gd cX12_follow 20 (.iload_n 2) 1 21 := ⟨by decide +kernel, rfl⟩
theorem d_X12_follow_21 : gd cX12_follow 21 (.iload_n 3) 1 22 := ⟨by decide +kernel, rfl⟩
theorem d_X12_follow_22 : gd cX12_follow 22 (.iload 4) 2 24 := ⟨by decide +kernel, rfl⟩
theorem d_X12_follow_24 : gd cX12_follow 24 (.invokevirtual 479) 3 27 := ⟨by decide +kernel, rfl⟩
theorem d_X12_follow_27 : gd cX12_follow 27 (.ifCond .eq 13) 3 30 := ⟨by decide +kernel, rfl⟩
theorem d_X12_follow_30 : gd cX12_follow 30 (.iload 5) 2 32 := ⟨by decide +kernel, rfl⟩
theorem d_X12_follow_32 : gd cX12_follow 32 (.iconst 0) 1 33 := ⟨by decide +kernel, rfl⟩
theorem d_X12_follow_33 : gd cX12_follow 33 (.iconst 2) 1 34 := ⟨by decide +kernel, rfl⟩
theorem d_X12_follow_34 : gd cX12_follow 34 (.invokestatic 217) 3 37 := ⟨by decide +kernel, rfl⟩
theorem d_X12_follow_37 : gd cX12_follow 37 (.ifCond .ne 7) 3 40 := ⟨by decide +kernel, rfl⟩
theorem d_X12_follow_40 : gd cX12_follow 40 (.ldc_w 394) 3 43 := ⟨by decide +kernel, rfl⟩
theorem d_X12_follow_43 : gd cX12_follow 43 .ireturn 1 44 := ⟨by decide +kernel, rfl⟩
theorem d_X12_follow_44 : gd cX12_follow 44 (.aload_n 0) 1 45 := ⟨by decide +kernel, rfl⟩
theorem d_X12_follow_45 : gd cX12_follow 45 (.iload_n 1) 1 46 := ⟨by decide +kernel, rfl⟩
theorem d_X12_follow_46 : gd cX12_follow 46 (.iload_n 2) 1 47 := ⟨by decide +kernel, rfl⟩
theorem d_X12_follow_47 : gd cX12_follow 47 (.iload_n 3) 1 48 := ⟨by decide +kernel, rfl⟩
theorem d_X12_follow_48 : gd cX12_follow 48 (.iload 4) 2 50 := ⟨by decide +kernel, rfl⟩
theorem d_X12_follow_50 : gd cX12_follow 50 (.invokevirtual 482) 3 53 := ⟨by decide +kernel, rfl⟩
theorem d_X12_follow_53 : gd cX12_follow 53 (.iload 5) 2 55 := ⟨by decide +kernel, rfl⟩
theorem d_X12_follow_55 : gd cX12_follow 55 (.ifCond .ne 10) 3 58 := ⟨by decide +kernel, rfl⟩
theorem d_X12_follow_58 : gd cX12_follow 58 (.aload_n 0) 1 59 := ⟨by decide +kernel, rfl⟩
theorem d_X12_follow_59 : gd cX12_follow 59 (.getfield 470) 3 62 := ⟨by decide +kernel, rfl⟩
theorem d_X12_follow_62 : gd cX12_follow 62 (.goto 20) 3 65 := ⟨by decide +kernel, rfl⟩
theorem d_X12_follow_65 : gd cX12_follow 65 (.iload 5) 2 67 := ⟨by decide +kernel, rfl⟩
theorem d_X12_follow_67 : gd cX12_follow 67 (.iconst 1) 1 68 := ⟨by decide +kernel, rfl⟩
theorem d_X12_follow_68 : gd cX12_follow 68 (.if_icmp .ne 10) 3 71 := ⟨by decide +kernel, rfl⟩
theorem d_X12_follow_71 : gd cX12_follow 71 (.aload_n 0) 1 72 := ⟨by decide +kernel, rfl⟩
theorem d_X12_follow_72 : gd cX12_follow 72 (.getfield 473) 3 75 := ⟨by decide +kernel, rfl⟩
theorem d_X12_follow_75 : gd cX12_follow 75 (.goto 7) 3 78 := ⟨by decide +kernel, rfl⟩
theorem d_X12_follow_78 : gd cX12_follow 78 (.aload_n 0) 1 79 := ⟨by decide +kernel, rfl⟩
theorem d_X12_follow_79 : gd cX12_follow 79 (.getfield 467) 3 82 := ⟨by decide +kernel, rfl⟩
theorem d_X12_follow_82 : gd cX12_follow 82 .ireturn 1 83 := ⟨by decide +kernel, rfl⟩
def D_X12_follow (x1 : Int32) (x2 : Int32) (x3 : Int32) (x4 : Int32) (x5 : Int32) (μ : gs_M) : Option (Int32 × gs_M) :=
  lt1 (sI μ 78 0 (0 : Int32)) (fun u1 => bd (D_X12_isIn x1 (0 : Int32) ((gI u1 78 7) - (1 : Int32)) u1) (fun v4 u3 => if v4 = 0 then (some ((-1000000 : Int32), u3)) else (bd (D_X12_isFollowed x2 x3 x4 u3) (fun v8 u7 => if v8 = 0 then (some ((-1000000 : Int32), u7)) else (bd (D_X12_isIn x5 (0 : Int32) (2 : Int32) u7) (fun v12 u11 => if v12 = 0 then (some ((-1000000 : Int32), u11)) else (bd0 (D_X12_layFollowed x1 x2 x3 x4 u11) (fun u15 => if x5 = 0 then (some (gI u15 78 49, u15)) else (if x5 = (1 : Int32) then (some (gI u15 78 50, u15)) else (some (gI u15 78 51, u15)))))))))))
section S_X12_follow
variable {p : Program} {l : Launch} {e : Env} {R : Room} {s : State} {m : MethodId} {args : Array Value} {below : List Frame} {meth : Method} {c : Code} {ad : Nat → Nat} {g : va_G} {tyc : Nat → ClassId}
set_option maxRecDepth 20000 in
theorem C_X12_follow  {x1 : Int32} {x2 : Int32} {x3 : Int32} {x4 : Int32} {x5 : Int32} {μ : gs_M} {r : Int32} {μ2 : gs_M}  (hD : D_X12_follow x1 x2 x3 x4 x5 μ = some (r, μ2)) : CALL yX12_follow cX12_follow 6 (some .int) 79 [.ref 78, .int x1, .int x2, .int x3, .int x4, .int x5] μ (some (.int r)) μ2 := by
  unfold D_X12_follow at hD
  refine gs_enter mf_X12_follow (Nat.le_of_ble_eq_true rfl) (ls := [.ref 78, .int x1, .int x2, .int x3, .int x4, .int x5]) rfl (fun p l e R s m args below meth c ad g tyc hK => ?_)
  have hK : KC p R s m args meth c ad g tyc RX12 cX12_follow 6 (some .int) 79 := hK
  refine r_aload_n hK d_X12_follow_0 rfl rfl ?_
  refine r_iconst hK d_X12_follow_1 ci_0 ?_
  refine r_putI hK d_X12_follow_2 fl_RX12_98_11 rfl rfl kd_78 ?_
  refine r_ltm hD (fun u1 hD => ?_)
  refine r_iload_n hK d_X12_follow_5 rfl rfl ?_
  refine r_iconst hK d_X12_follow_6 ci_0 ?_
  refine r_aload_n hK d_X12_follow_7 rfl rfl ?_
  refine r_getI hK d_X12_follow_8 fl_RX12_274_11 rfl kd_78 ?_
  refine r_iconst hK d_X12_follow_11 ci_1 ?_
  refine r_isub hK d_X12_follow_12 ?_
  obtain ⟨v4, u3, e2, hD⟩ := bd_e hD
  refine r_callS (As := [.int x1, .int (0 : Int32), .int ((gI u1 78 7) - (1 : Int32))]) (st := []) (stk2 := [.int v4]) hK (C_X12_isIn  e2) d_X12_follow_13 mf_X12_isIn ml_RX12_217 ss_X12_isIn rfl (Nat.le_of_ble_eq_true rfl) (by decide) ⟨Nat.zero_le _, Nat.zero_le _⟩ rfl rfl ?_
  refine r_if_eq (tgt := 40) hK d_X12_follow_16 (by decide) (fun h5 => ?_) (fun h5 => ?_)
  · have hD := if_t hD h5
    refine r_ldcw hK d_X12_follow_40 kc_RX12_394 ?_
    cases hD
    exact r_iret hK d_X12_follow_43
  · have hD := if_f hD h5
    refine r_aload_n hK d_X12_follow_19 rfl rfl ?_
    refine r_iload_n hK d_X12_follow_20 rfl rfl ?_
    refine r_iload_n hK d_X12_follow_21 rfl rfl ?_
    refine r_iload hK d_X12_follow_22 rfl ?_
    obtain ⟨v8, u7, e6, hD⟩ := bd_e hD
    refine r_callV (As := [.int x2, .int x3, .int x4]) (st := []) (stk2 := [.int v8]) hK (C_X12_isFollowed  e6) d_X12_follow_24 mf_X12_isFollowed ml_RX12_479 im_X12_isFollowed rfl se_11_RX12_X12_isFollowed kd_78 rfl (Nat.le_of_ble_eq_true rfl) (by decide) ⟨Nat.zero_le _, Nat.zero_le _⟩ rfl rfl ?_
    refine r_if_eq (tgt := 40) hK d_X12_follow_27 (by decide) (fun h9 => ?_) (fun h9 => ?_)
    · have hD := if_t hD h9
      refine r_ldcw hK d_X12_follow_40 kc_RX12_394 ?_
      cases hD
      exact r_iret hK d_X12_follow_43
    · have hD := if_f hD h9
      refine r_iload hK d_X12_follow_30 rfl ?_
      refine r_iconst hK d_X12_follow_32 ci_0 ?_
      refine r_iconst hK d_X12_follow_33 ci_2 ?_
      obtain ⟨v12, u11, e10, hD⟩ := bd_e hD
      refine r_callS (As := [.int x5, .int (0 : Int32), .int (2 : Int32)]) (st := []) (stk2 := [.int v12]) hK (C_X12_isIn  e10) d_X12_follow_34 mf_X12_isIn ml_RX12_217 ss_X12_isIn rfl (Nat.le_of_ble_eq_true rfl) (by decide) ⟨Nat.zero_le _, Nat.zero_le _⟩ rfl rfl ?_
      refine r_if_ne (tgt := 44) hK d_X12_follow_37 (by decide) (fun h13 => ?_) (fun h13 => ?_)
      · have hD := if_f hD h13
        refine r_aload_n hK d_X12_follow_44 rfl rfl ?_
        refine r_iload_n hK d_X12_follow_45 rfl rfl ?_
        refine r_iload_n hK d_X12_follow_46 rfl rfl ?_
        refine r_iload_n hK d_X12_follow_47 rfl rfl ?_
        refine r_iload hK d_X12_follow_48 rfl ?_
        obtain ⟨u15, e14, hD⟩ := bd0_e hD
        refine r_callV (As := [.int x1, .int x2, .int x3, .int x4]) (st := []) (stk2 := []) hK (C_X12_layFollowed  e14) d_X12_follow_50 mf_X12_layFollowed ml_RX12_482 im_X12_layFollowed rfl se_11_RX12_X12_layFollowed kd_78 rfl (Nat.le_of_ble_eq_true rfl) (by decide) ⟨Nat.zero_le _, Nat.zero_le _⟩ rfl rfl ?_
        refine r_iload hK d_X12_follow_53 rfl ?_
        refine r_if_ne (tgt := 65) hK d_X12_follow_55 (by decide) (fun h16 => ?_) (fun h16 => ?_)
        · have hD := if_f hD h16
          refine r_iload hK d_X12_follow_65 rfl ?_
          refine r_iconst hK d_X12_follow_67 ci_1 ?_
          refine r_icmp_ne (tgt := 78) hK d_X12_follow_68 (by decide) (fun h17 => ?_) (fun h17 => ?_)
          · have hD := if_f hD h17
            refine r_aload_n hK d_X12_follow_78 rfl rfl ?_
            refine r_getI hK d_X12_follow_79 fl_RX12_467_11 rfl kd_78 ?_
            cases hD
            exact r_iret hK d_X12_follow_82
          · have hD := if_t hD h17
            refine r_aload_n hK d_X12_follow_71 rfl rfl ?_
            refine r_getI hK d_X12_follow_72 fl_RX12_473_11 rfl kd_78 ?_
            refine r_goto (tgt := 82) hK d_X12_follow_75 (by decide) ?_
            cases hD
            exact r_iret hK d_X12_follow_82
        · have hD := if_t hD h16
          refine r_aload_n hK d_X12_follow_58 rfl rfl ?_
          refine r_getI hK d_X12_follow_59 fl_RX12_470_11 rfl kd_78 ?_
          refine r_goto (tgt := 82) hK d_X12_follow_62 (by decide) ?_
          cases hD
          exact r_iret hK d_X12_follow_82
      · have hD := if_t hD h13
        refine r_ldcw hK d_X12_follow_40 kc_RX12_394 ?_
        cases hD
        exact r_iret hK d_X12_follow_43
end S_X12_follow
theorem d_X12_better_0 : gd cX12_better 0 (.aload_n 0) 1 1 := ⟨by decide +kernel, rfl⟩
theorem d_X12_better_1 : gd cX12_better 1 (.iconst 0) 1 2 := ⟨by decide +kernel, rfl⟩
theorem d_X12_better_2 : gd cX12_better 2 (.putfield 98) 3 5 := ⟨by decide +kernel, rfl⟩
theorem d_X12_better_5 : gd cX12_better 5 (.aload_n 0) 1 6 := ⟨by decide +kernel, rfl⟩
theorem d_X12_better_6 : gd cX12_better 6 (.iload_n 1) 1 7 := ⟨by decide +kernel, rfl⟩
theorem d_X12_better_7 : gd cX12_better 7 (.iload_n 2) 1 8 := ⟨by decide +kernel, rfl⟩
theorem d_X12_better_8 : gd cX12_better 8 (.iload_n 3) 1 9 := ⟨by decide +kernel, rfl⟩
theorem d_X12_better_9 : gd cX12_better 9 (.invokevirtual 479) 3 12 := ⟨by decide +kernel, rfl⟩
theorem d_X12_better_12 : gd cX12_better 12 (.ifCond .ne 5) 3 15 := ⟨by decide +kernel, rfl⟩
theorem d_X12_better_15 : gd cX12_better 15 (.iconst (-1)) 1 16 := ⟨by decide +kernel, rfl⟩
theorem d_X12_better_16 : gd cX12_better 16 .ireturn 1 17 := ⟨by decide +kernel, rfl⟩
theorem d_X12_better_17 : gd cX12_better 17 (.iconst (-1)) 1 18 := ⟨by decide +kernel, rfl⟩
theorem d_X12_better_18 : gd cX12_better 18 (.istore 4) 2 20 := ⟨by decide +kernel, rfl⟩
theorem d_X12_better_20 : gd cX12_better 20 (.iconst 0) 1 21 := ⟨by decide +kernel, rfl⟩
theorem d_X12_better_21 : gd cX12_better 21 (.istore 5) 2 23 := ⟨by decide +kernel, rfl⟩
theorem d_X12_better_23 : gd cX12_better 23 (.iconst 0) 1 24 := ⟨by decide +kernel, rfl⟩
theorem d_X12_better_24 : gd cX12_better 24 (.istore 6) 2 26 := ⟨by decide +kernel, rfl⟩
theorem d_X12_better_26 : gd cX12_better 26 (.iconst 0) 1 27 := ⟨by decide +kernel, rfl⟩
theorem d_X12_better_27 : gd cX12_better 27 (.istore 7) 2 29 := ⟨by decide +kernel, rfl⟩
theorem d_X12_better_29 : gd cX12_better 29 (.iconst 0) 1 30 := ⟨by decide +kernel, rfl⟩
theorem d_X12_better_30 : gd cX12_better 30 (.istore 8) 2 32 := ⟨by decide +kernel, rfl⟩
theorem d_X12_better_32 : gd cX12_better 32 (.iload 8) 2 34 := ⟨by decide +kernel, rfl⟩
theorem d_X12_better_34 : gd cX12_better 34 (.aload_n 0) 1 35 := ⟨by decide +kernel, rfl⟩
theorem d_X12_better_35 : gd cX12_better 35 (.getfield 274) 3 38 := ⟨by decide +kernel, rfl⟩
theorem d_X12_better_38 : gd cX12_better 38 (.if_icmp .ge 106) 3 41 := ⟨by decide +kernel, rfl⟩
theorem d_X12_better_41 : gd cX12_better 41 (.aload_n 0) 1 42 := ⟨by decide +kernel, rfl⟩
theorem d_X12_better_42 : gd cX12_better 42 (.iload 8) 2 44 := ⟨by decide +kernel, rfl⟩
theorem d_X12_better_44 : gd cX12_better 44 (.iload_n 1) 1 45 := ⟨by decide +kernel, rfl⟩
theorem d_X12_better_45 : gd cX12_better 45 (.iload_n 2) 1 46 := ⟨by decide +kernel, rfl⟩
theorem d_X12_better_46 : gd cX12_better 46 (.iload_n 3) 1 47 := ⟨by decide +kernel, rfl⟩
theorem d_X12_better_47 : gd cX12_better 47 (.invokevirtual 482) 3 50 := ⟨by decide +kernel, rfl⟩
theorem d_X12_better_50 : gd cX12_better 50 (.aload_n 0) 1 51 := ⟨by decide +kernel, rfl⟩
theorem d_X12_better_51 : gd cX12_better 51 (.getfield 470) 3 54 := ⟨by decide +kernel, rfl⟩
theorem d_X12_better_54 : gd cX12_better 54 (.iload 5) 2 56 := ⟨by decide +kernel, rfl⟩
theorem d_X12_better_56 : gd cX12_better 56 (.if_icmp .lt 39) 3 59 := ⟨by decide +kernel, rfl⟩
theorem d_X12_better_59 : gd cX12_better 59 (.aload_n 0) 1 60 := ⟨by decide +kernel, rfl⟩
theorem d_X12_better_60 : gd cX12_better 60 (.getfield 470) 3 63 := ⟨by decide +kernel, rfl⟩
theorem d_X12_better_63 : gd cX12_better 63 (.iload 5) 2 65 := ⟨by decide +kernel, rfl⟩
theorem d_X12_better_65 : gd cX12_better 65 (.if_icmp .ne 34) 3 68 := ⟨by decide +kernel, rfl⟩
theorem d_X12_better_68 : gd cX12_better 68 (.aload_n 0) 1 69 := ⟨by decide +kernel, rfl⟩
theorem d_X12_better_69 : gd cX12_better 69 (.getfield 473) 3 72 := ⟨by decide +kernel, rfl⟩
theorem d_X12_better_72 : gd cX12_better 72 (.iload 6) 2 74 := ⟨by decide +kernel, rfl⟩
theorem d_X12_better_74 : gd cX12_better 74 (.if_icmp .lt 21) 3 77 := ⟨by decide +kernel, rfl⟩
theorem d_X12_better_77 : gd cX12_better 77 (.aload_n 0) 1 78 := ⟨by decide +kernel, rfl⟩
theorem d_X12_better_78 : gd cX12_better 78 (.getfield 473) 3 81 := ⟨by decide +kernel, rfl⟩
theorem d_X12_better_81 : gd cX12_better 81 (.iload 6) 2 83 := ⟨by decide +kernel, rfl⟩
theorem d_X12_better_83 : gd cX12_better 83 (.if_icmp .ne 16) 3 86 := ⟨by decide +kernel, rfl⟩
theorem d_X12_better_86 : gd cX12_better 86 (.aload_n 0) 1 87 := ⟨by decide +kernel, rfl⟩
theorem d_X12_better_87 : gd cX12_better 87 (.getfield 467) 3 90 := ⟨by decide +kernel, rfl⟩
theorem d_X12_better_90 : gd cX12_better 90 (.iload 7) 2 92 := ⟨by decide +kernel, rfl⟩
theorem d_X12_better_92 : gd cX12_better 92 (.if_icmp .ge 7) 3 95 := ⟨by decide +kernel, rfl⟩
theorem d_X12_better_95 : gd cX12_better 95 (.iconst 1) 1 96 := ⟨by decide +kernel, rfl⟩
theorem d_X12_better_96 : gd cX12_better 96 (.goto 4) 3 99 := ⟨by decide +kernel, rfl⟩
theorem d_X12_better_99 : gd cX12_better 99 (.iconst 0) 1 100 := ⟨by decide +kernel, rfl⟩
theorem d_X12_better_100 : gd cX12_better 100 (.istore 9) 2 102 := ⟨by decide +kernel, rfl⟩
theorem d_X12_better_102 : gd cX12_better 102 (.iload 4) 2 104 := ⟨by decide +kernel, rfl⟩
theorem d_X12_better_104 : gd cX12_better 104 (.iconst (-1)) 1 105 := ⟨by decide +kernel, rfl⟩
theorem d_X12_better_105 : gd cX12_better 105 (.if_icmp .eq 11) 3 108 := ⟨by decide +kernel, rfl⟩
theorem d_X12_better_108 : gd cX12_better 108 (.iload 9) 2 110 := ⟨by decide +kernel, rfl⟩
theorem d_X12_better_110 : gd cX12_better 110 (.ifCond .ne 6) 3 113 := ⟨by decide +kernel, rfl⟩
theorem d_X12_better_113 : gd cX12_better 113 (.goto 25) 3 116 := ⟨by decide +kernel, rfl⟩
theorem d_X12_better_116 : gd cX12_better 116 (.iload 8) 2 118 := ⟨by decide +kernel, rfl⟩
theorem d_X12_better_118 : gd cX12_better 118 (.istore 4) 2 120 := ⟨by decide +kernel, rfl⟩
theorem d_X12_better_120 : gd cX12_better 120 (.aload_n 0) 1 121 := ⟨by decide +kernel, rfl⟩
theorem d_X12_better_121 : gd cX12_better 121 (.getfield 470) 3 124 := ⟨by decide +kernel, rfl⟩
theorem d_X12_better_124 : gd cX12_better 124 (.istore 5) 2 126 := ⟨by decide +kernel, rfl⟩
theorem d_X12_better_126 : gd cX12_better 126 (.aload_n 0) 1 127 := ⟨by decide +kernel, rfl⟩
theorem d_X12_better_127 : gd cX12_better 127 (.getfield 473) 3 130 := ⟨by decide +kernel, rfl⟩
theorem d_X12_better_130 : gd cX12_better 130 (.istore 6) 2 132 := ⟨by decide +kernel, rfl⟩
theorem d_X12_better_132 : gd cX12_better 132 (.aload_n 0) 1 133 := ⟨by decide +kernel, rfl⟩
theorem d_X12_better_133 : gd cX12_better 133 (.getfield 467) 3 136 := ⟨by decide +kernel, rfl⟩
theorem d_X12_better_136 : gd cX12_better 136 (.istore 7) 2 138 := ⟨by decide +kernel, rfl⟩
theorem d_X12_better_138 : gd cX12_better 138 (.iinc 8 1) 3 141 := ⟨by decide +kernel, rfl⟩
theorem d_X12_better_141 : gd cX12_better 141 (.goto (-109)) 3 144 := ⟨by decide +kernel, rfl⟩
theorem d_X12_better_144 : gd cX12_better 144 (.iload 4) 2 146 := ⟨by decide +kernel, rfl⟩
theorem d_X12_better_146 : gd cX12_better 146 .ireturn 1 147 := ⟨by decide +kernel, rfl⟩
def B_X12_better_116 (q32 : Int32 → Int32 → Int32 → Int32 → Int32 → Int32 → Int32 → Int32 → gs_M → Option (Int32 × gs_M)) (x1 : Int32) (x2 : Int32) (x3 : Int32) (x8 : Int32) (μ : gs_M) : Option (Int32 × gs_M) :=
  lt1 (gI μ 78 49) (fun v1 => lt1 (gI μ 78 50) (fun v2 => lt1 (gI μ 78 51) (fun v3 => q32 x1 x2 x3 x8 v1 v2 v3 (x8 + (1 : Int32)) μ)))
def B_X12_better_100 (q32 : Int32 → Int32 → Int32 → Int32 → Int32 → Int32 → Int32 → Int32 → gs_M → Option (Int32 × gs_M)) (x1 : Int32) (x2 : Int32) (x3 : Int32) (x4 : Int32) (x5 : Int32) (x6 : Int32) (x7 : Int32) (x8 : Int32) (xs0 : Int32) (μ : gs_M) : Option (Int32 × gs_M) :=
  if x4 = (-1 : Int32) then (B_X12_better_116 q32 x1 x2 x3 x8 μ) else (if xs0 = 0 then (q32 x1 x2 x3 x4 x5 x6 x7 (x8 + (1 : Int32)) μ) else (B_X12_better_116 q32 x1 x2 x3 x8 μ))
def B_X12_better_99 (q32 : Int32 → Int32 → Int32 → Int32 → Int32 → Int32 → Int32 → Int32 → gs_M → Option (Int32 × gs_M)) (x1 : Int32) (x2 : Int32) (x3 : Int32) (x4 : Int32) (x5 : Int32) (x6 : Int32) (x7 : Int32) (x8 : Int32) (μ : gs_M) : Option (Int32 × gs_M) :=
  B_X12_better_100 q32 x1 x2 x3 x4 x5 x6 x7 x8 (0 : Int32) μ
def Bo_X12_better_32 (q32 : Int32 → Int32 → Int32 → Int32 → Int32 → Int32 → Int32 → Int32 → gs_M → Option (Int32 × gs_M)) (x1 : Int32) (x2 : Int32) (x3 : Int32) (x4 : Int32) (x5 : Int32) (x6 : Int32) (x7 : Int32) (x8 : Int32) (μ : gs_M) : Option (Int32 × gs_M) :=
  if (gI μ 78 7) ≤ x8 then (some (x4, μ)) else (bd0 (D_X12_layFollowed x8 x1 x2 x3 μ) (fun u3 => if (gI u3 78 49) < x5 then (B_X12_better_100 q32 x1 x2 x3 x4 x5 x6 x7 x8 (1 : Int32) u3) else (if (gI u3 78 49) = x5 then (if (gI u3 78 50) < x6 then (B_X12_better_100 q32 x1 x2 x3 x4 x5 x6 x7 x8 (1 : Int32) u3) else (if (gI u3 78 50) = x6 then (if x7 ≤ (gI u3 78 51) then (B_X12_better_99 q32 x1 x2 x3 x4 x5 x6 x7 x8 u3) else (B_X12_better_100 q32 x1 x2 x3 x4 x5 x6 x7 x8 (1 : Int32) u3)) else (B_X12_better_99 q32 x1 x2 x3 x4 x5 x6 x7 x8 u3))) else (B_X12_better_99 q32 x1 x2 x3 x4 x5 x6 x7 x8 u3))))
def L_X12_better_32  : Nat → Int32 → Int32 → Int32 → Int32 → Int32 → Int32 → Int32 → Int32 → gs_M → Option (Int32 × gs_M)
  | 0 => fun _ _ _ _ _ _ _ _ _ => none
  | n + 1 => fun x1 x2 x3 x4 x5 x6 x7 x8 μ => Bo_X12_better_32  (L_X12_better_32  n) x1 x2 x3 x4 x5 x6 x7 x8 μ
def D_X12_better (x1 : Int32) (x2 : Int32) (x3 : Int32) (μ : gs_M) : Option (Int32 × gs_M) :=
  lt1 (sI μ 78 0 (0 : Int32)) (fun u1 => bd (D_X12_isFollowed x1 x2 x3 u1) (fun v4 u3 => if v4 = 0 then (some ((-1 : Int32), u3)) else (L_X12_better_32 4096 x1 x2 x3 (-1 : Int32) (0 : Int32) (0 : Int32) (0 : Int32) (0 : Int32) u3)))
section S_X12_better
variable {p : Program} {l : Launch} {e : Env} {R : Room} {s : State} {m : MethodId} {args : Array Value} {below : List Frame} {meth : Method} {c : Code} {ad : Nat → Nat} {g : va_G} {tyc : Nat → ClassId}
set_option maxRecDepth 20000 in
theorem T_X12_better_116  (hK : KC p R s m args meth c ad g tyc RX12 cX12_better 10 (some .int) 79) {r : Int32} {μ2 : gs_M} {q32 : Int32 → Int32 → Int32 → Int32 → Int32 → Int32 → Int32 → Int32 → gs_M → Option (Int32 × gs_M)} (hq32 : ∀ (x1 : Int32) (x2 : Int32) (x3 : Int32) (x4 : Int32) (x5 : Int32) (x6 : Int32) (x7 : Int32) (x8 : Int32) (μ : gs_M), q32 x1 x2 x3 x4 x5 x6 x7 x8 μ = some (r, μ2) → WJ p l e R s m args below meth c 0 0 (MQ below (gs_Q ad g tyc (some (.int r)) μ2) args s 0 0 (gs_A ad)) ad g tyc 10 32 [.ref 78, .int x1, .int x2, .int x3, .int x4, .int x5, .int x6, .int x7, .int x8, gs_J] [] μ) {x1 : Int32} {x2 : Int32} {x3 : Int32} {x8 : Int32} {μ : gs_M}  (hD : B_X12_better_116 q32 x1 x2 x3 x8 μ = some (r, μ2)) : WJ p l e R s m args below meth c 0 0 (MQ below (gs_Q ad g tyc (some (.int r)) μ2) args s 0 0 (gs_A ad)) ad g tyc 10 116 [.ref 78, .int x1, .int x2, .int x3, gs_J, gs_J, gs_J, gs_J, .int x8, gs_J] [] μ := by
  unfold B_X12_better_116 at hD
  refine r_iload hK d_X12_better_116 rfl ?_
  refine r_istore hK d_X12_better_118 (by decide) (ls2 := [.ref 78, .int x1, .int x2, .int x3, .int x8, gs_J, gs_J, gs_J, .int x8, gs_J]) rfl ?_
  refine r_aload_n hK d_X12_better_120 rfl rfl ?_
  refine r_getI hK d_X12_better_121 fl_RX12_470_11 rfl kd_78 ?_
  refine r_lti hD (fun v1 hD => ?_)
  refine r_istore hK d_X12_better_124 (by decide) (ls2 := [.ref 78, .int x1, .int x2, .int x3, .int x8, .int v1, gs_J, gs_J, .int x8, gs_J]) rfl ?_
  refine r_aload_n hK d_X12_better_126 rfl rfl ?_
  refine r_getI hK d_X12_better_127 fl_RX12_473_11 rfl kd_78 ?_
  refine r_lti hD (fun v2 hD => ?_)
  refine r_istore hK d_X12_better_130 (by decide) (ls2 := [.ref 78, .int x1, .int x2, .int x3, .int x8, .int v1, .int v2, gs_J, .int x8, gs_J]) rfl ?_
  refine r_aload_n hK d_X12_better_132 rfl rfl ?_
  refine r_getI hK d_X12_better_133 fl_RX12_467_11 rfl kd_78 ?_
  refine r_lti hD (fun v3 hD => ?_)
  refine r_istore hK d_X12_better_136 (by decide) (ls2 := [.ref 78, .int x1, .int x2, .int x3, .int x8, .int v1, .int v2, .int v3, .int x8, gs_J]) rfl ?_
  refine r_iinc hK d_X12_better_138 rfl (v := x8 + (1 : Int32)) (by rw [ci_1]) (by decide) (ls2 := [.ref 78, .int x1, .int x2, .int x3, .int x8, .int v1, .int v2, .int v3, .int (x8 + (1 : Int32)), gs_J]) rfl ?_
  refine r_goto (tgt := 32) hK d_X12_better_141 (by decide) ?_
  exact hq32 _ _ _ _ _ _ _ _ _  hD
set_option maxRecDepth 20000 in
theorem T_X12_better_100  (hK : KC p R s m args meth c ad g tyc RX12 cX12_better 10 (some .int) 79) {r : Int32} {μ2 : gs_M} {q32 : Int32 → Int32 → Int32 → Int32 → Int32 → Int32 → Int32 → Int32 → gs_M → Option (Int32 × gs_M)} (hq32 : ∀ (x1 : Int32) (x2 : Int32) (x3 : Int32) (x4 : Int32) (x5 : Int32) (x6 : Int32) (x7 : Int32) (x8 : Int32) (μ : gs_M), q32 x1 x2 x3 x4 x5 x6 x7 x8 μ = some (r, μ2) → WJ p l e R s m args below meth c 0 0 (MQ below (gs_Q ad g tyc (some (.int r)) μ2) args s 0 0 (gs_A ad)) ad g tyc 10 32 [.ref 78, .int x1, .int x2, .int x3, .int x4, .int x5, .int x6, .int x7, .int x8, gs_J] [] μ) {x1 : Int32} {x2 : Int32} {x3 : Int32} {x4 : Int32} {x5 : Int32} {x6 : Int32} {x7 : Int32} {x8 : Int32} {xs0 : Int32} {μ : gs_M}  (hD : B_X12_better_100 q32 x1 x2 x3 x4 x5 x6 x7 x8 xs0 μ = some (r, μ2)) : WJ p l e R s m args below meth c 0 0 (MQ below (gs_Q ad g tyc (some (.int r)) μ2) args s 0 0 (gs_A ad)) ad g tyc 10 100 [.ref 78, .int x1, .int x2, .int x3, .int x4, .int x5, .int x6, .int x7, .int x8, gs_J] [.int xs0] μ := by
  unfold B_X12_better_100 at hD
  refine r_istore hK d_X12_better_100 (by decide) (ls2 := [.ref 78, .int x1, .int x2, .int x3, .int x4, .int x5, .int x6, .int x7, .int x8, .int xs0]) rfl ?_
  refine r_iload hK d_X12_better_102 rfl ?_
  refine r_iconst hK d_X12_better_104 ci_m1 ?_
  refine r_icmp_eq (tgt := 116) hK d_X12_better_105 (by decide) (fun h1 => ?_) (fun h1 => ?_)
  · have hD := if_t hD h1
    refine r_junk [true, true, true, true, false, false, false, false, true, false] (ls2 := [.ref 78, .int x1, .int x2, .int x3, gs_J, gs_J, gs_J, gs_J, .int x8, gs_J]) rfl ?_
    exact T_X12_better_116 hK hq32  hD
  · have hD := if_f hD h1
    refine r_iload hK d_X12_better_108 rfl ?_
    refine r_if_ne (tgt := 116) hK d_X12_better_110 (by decide) (fun h2 => ?_) (fun h2 => ?_)
    · have hD := if_f hD h2
      refine r_junk [true, true, true, true, false, false, false, false, true, false] (ls2 := [.ref 78, .int x1, .int x2, .int x3, gs_J, gs_J, gs_J, gs_J, .int x8, gs_J]) rfl ?_
      exact T_X12_better_116 hK hq32  hD
    · have hD := if_t hD h2
      refine r_goto (tgt := 138) hK d_X12_better_113 (by decide) ?_
      refine r_iinc hK d_X12_better_138 rfl (v := x8 + (1 : Int32)) (by rw [ci_1]) (by decide) (ls2 := [.ref 78, .int x1, .int x2, .int x3, .int x4, .int x5, .int x6, .int x7, .int (x8 + (1 : Int32)), .int xs0]) rfl ?_
      refine r_goto (tgt := 32) hK d_X12_better_141 (by decide) ?_
      refine r_junk [true, true, true, true, true, true, true, true, true, false] (ls2 := [.ref 78, .int x1, .int x2, .int x3, .int x4, .int x5, .int x6, .int x7, .int (x8 + (1 : Int32)), gs_J]) rfl ?_
      exact hq32 _ _ _ _ _ _ _ _ _  hD
set_option maxRecDepth 20000 in
theorem T_X12_better_99  (hK : KC p R s m args meth c ad g tyc RX12 cX12_better 10 (some .int) 79) {r : Int32} {μ2 : gs_M} {q32 : Int32 → Int32 → Int32 → Int32 → Int32 → Int32 → Int32 → Int32 → gs_M → Option (Int32 × gs_M)} (hq32 : ∀ (x1 : Int32) (x2 : Int32) (x3 : Int32) (x4 : Int32) (x5 : Int32) (x6 : Int32) (x7 : Int32) (x8 : Int32) (μ : gs_M), q32 x1 x2 x3 x4 x5 x6 x7 x8 μ = some (r, μ2) → WJ p l e R s m args below meth c 0 0 (MQ below (gs_Q ad g tyc (some (.int r)) μ2) args s 0 0 (gs_A ad)) ad g tyc 10 32 [.ref 78, .int x1, .int x2, .int x3, .int x4, .int x5, .int x6, .int x7, .int x8, gs_J] [] μ) {x1 : Int32} {x2 : Int32} {x3 : Int32} {x4 : Int32} {x5 : Int32} {x6 : Int32} {x7 : Int32} {x8 : Int32} {μ : gs_M}  (hD : B_X12_better_99 q32 x1 x2 x3 x4 x5 x6 x7 x8 μ = some (r, μ2)) : WJ p l e R s m args below meth c 0 0 (MQ below (gs_Q ad g tyc (some (.int r)) μ2) args s 0 0 (gs_A ad)) ad g tyc 10 99 [.ref 78, .int x1, .int x2, .int x3, .int x4, .int x5, .int x6, .int x7, .int x8, gs_J] [] μ := by
  unfold B_X12_better_99 at hD
  refine r_iconst hK d_X12_better_99 ci_0 ?_
  exact T_X12_better_100 hK hq32  hD
set_option maxRecDepth 20000 in
theorem To_X12_better_32  (hK : KC p R s m args meth c ad g tyc RX12 cX12_better 10 (some .int) 79) {r : Int32} {μ2 : gs_M} {q32 : Int32 → Int32 → Int32 → Int32 → Int32 → Int32 → Int32 → Int32 → gs_M → Option (Int32 × gs_M)} (hq32 : ∀ (x1 : Int32) (x2 : Int32) (x3 : Int32) (x4 : Int32) (x5 : Int32) (x6 : Int32) (x7 : Int32) (x8 : Int32) (μ : gs_M), q32 x1 x2 x3 x4 x5 x6 x7 x8 μ = some (r, μ2) → WJ p l e R s m args below meth c 0 0 (MQ below (gs_Q ad g tyc (some (.int r)) μ2) args s 0 0 (gs_A ad)) ad g tyc 10 32 [.ref 78, .int x1, .int x2, .int x3, .int x4, .int x5, .int x6, .int x7, .int x8, gs_J] [] μ) {x1 : Int32} {x2 : Int32} {x3 : Int32} {x4 : Int32} {x5 : Int32} {x6 : Int32} {x7 : Int32} {x8 : Int32} {μ : gs_M}  (hD : Bo_X12_better_32 q32 x1 x2 x3 x4 x5 x6 x7 x8 μ = some (r, μ2)) : WJ p l e R s m args below meth c 0 0 (MQ below (gs_Q ad g tyc (some (.int r)) μ2) args s 0 0 (gs_A ad)) ad g tyc 10 32 [.ref 78, .int x1, .int x2, .int x3, .int x4, .int x5, .int x6, .int x7, .int x8, gs_J] [] μ := by
  unfold Bo_X12_better_32 at hD
  refine r_iload hK d_X12_better_32 rfl ?_
  refine r_aload_n hK d_X12_better_34 rfl rfl ?_
  refine r_getI hK d_X12_better_35 fl_RX12_274_11 rfl kd_78 ?_
  refine r_icmp_ge (tgt := 144) hK d_X12_better_38 (by decide) (fun h1 => ?_) (fun h1 => ?_)
  · have hD := if_t hD h1
    refine r_iload hK d_X12_better_144 rfl ?_
    cases hD
    exact r_iret hK d_X12_better_146
  · have hD := if_f hD h1
    refine r_aload_n hK d_X12_better_41 rfl rfl ?_
    refine r_iload hK d_X12_better_42 rfl ?_
    refine r_iload_n hK d_X12_better_44 rfl rfl ?_
    refine r_iload_n hK d_X12_better_45 rfl rfl ?_
    refine r_iload_n hK d_X12_better_46 rfl rfl ?_
    obtain ⟨u3, e2, hD⟩ := bd0_e hD
    refine r_callV (As := [.int x8, .int x1, .int x2, .int x3]) (st := []) (stk2 := []) hK (C_X12_layFollowed  e2) d_X12_better_47 mf_X12_layFollowed ml_RX12_482 im_X12_layFollowed rfl se_11_RX12_X12_layFollowed kd_78 rfl (Nat.le_of_ble_eq_true rfl) (by decide) ⟨Nat.zero_le _, Nat.zero_le _⟩ rfl rfl ?_
    refine r_aload_n hK d_X12_better_50 rfl rfl ?_
    refine r_getI hK d_X12_better_51 fl_RX12_470_11 rfl kd_78 ?_
    refine r_iload hK d_X12_better_54 rfl ?_
    refine r_icmp_lt (tgt := 95) hK d_X12_better_56 (by decide) (fun h4 => ?_) (fun h4 => ?_)
    · have hD := if_t hD h4
      refine r_iconst hK d_X12_better_95 ci_1 ?_
      refine r_goto (tgt := 100) hK d_X12_better_96 (by decide) ?_
      exact T_X12_better_100 hK hq32  hD
    · have hD := if_f hD h4
      refine r_aload_n hK d_X12_better_59 rfl rfl ?_
      refine r_getI hK d_X12_better_60 fl_RX12_470_11 rfl kd_78 ?_
      refine r_iload hK d_X12_better_63 rfl ?_
      refine r_icmp_ne (tgt := 99) hK d_X12_better_65 (by decide) (fun h5 => ?_) (fun h5 => ?_)
      · have hD := if_f hD h5
        exact T_X12_better_99 hK hq32  hD
      · have hD := if_t hD h5
        refine r_aload_n hK d_X12_better_68 rfl rfl ?_
        refine r_getI hK d_X12_better_69 fl_RX12_473_11 rfl kd_78 ?_
        refine r_iload hK d_X12_better_72 rfl ?_
        refine r_icmp_lt (tgt := 95) hK d_X12_better_74 (by decide) (fun h6 => ?_) (fun h6 => ?_)
        · have hD := if_t hD h6
          refine r_iconst hK d_X12_better_95 ci_1 ?_
          refine r_goto (tgt := 100) hK d_X12_better_96 (by decide) ?_
          exact T_X12_better_100 hK hq32  hD
        · have hD := if_f hD h6
          refine r_aload_n hK d_X12_better_77 rfl rfl ?_
          refine r_getI hK d_X12_better_78 fl_RX12_473_11 rfl kd_78 ?_
          refine r_iload hK d_X12_better_81 rfl ?_
          refine r_icmp_ne (tgt := 99) hK d_X12_better_83 (by decide) (fun h7 => ?_) (fun h7 => ?_)
          · have hD := if_f hD h7
            exact T_X12_better_99 hK hq32  hD
          · have hD := if_t hD h7
            refine r_aload_n hK d_X12_better_86 rfl rfl ?_
            refine r_getI hK d_X12_better_87 fl_RX12_467_11 rfl kd_78 ?_
            refine r_iload hK d_X12_better_90 rfl ?_
            refine r_icmp_ge (tgt := 99) hK d_X12_better_92 (by decide) (fun h8 => ?_) (fun h8 => ?_)
            · have hD := if_t hD h8
              exact T_X12_better_99 hK hq32  hD
            · have hD := if_f hD h8
              refine r_iconst hK d_X12_better_95 ci_1 ?_
              refine r_goto (tgt := 100) hK d_X12_better_96 (by decide) ?_
              exact T_X12_better_100 hK hq32  hD
set_option maxRecDepth 20000 in
theorem TL_X12_better_32  (hK : KC p R s m args meth c ad g tyc RX12 cX12_better 10 (some .int) 79) {r : Int32} {μ2 : gs_M}   : ∀ (n : Nat) (x1 : Int32) (x2 : Int32) (x3 : Int32) (x4 : Int32) (x5 : Int32) (x6 : Int32) (x7 : Int32) (x8 : Int32) (μ : gs_M), L_X12_better_32  n x1 x2 x3 x4 x5 x6 x7 x8 μ = some (r, μ2) → WJ p l e R s m args below meth c 0 0 (MQ below (gs_Q ad g tyc (some (.int r)) μ2) args s 0 0 (gs_A ad)) ad g tyc 10 32 [.ref 78, .int x1, .int x2, .int x3, .int x4, .int x5, .int x6, .int x7, .int x8, gs_J] [] μ := by
  intro n
  induction n with
  | zero => intro x1 x2 x3 x4 x5 x6 x7 x8 μ  hD; cases hD
  | succ n ih => intro x1 x2 x3 x4 x5 x6 x7 x8 μ  hD; exact To_X12_better_32 hK  ih  hD
set_option maxRecDepth 20000 in
theorem C_X12_better  {x1 : Int32} {x2 : Int32} {x3 : Int32} {μ : gs_M} {r : Int32} {μ2 : gs_M}  (hD : D_X12_better x1 x2 x3 μ = some (r, μ2)) : CALL yX12_better cX12_better 10 (some .int) 79 [.ref 78, .int x1, .int x2, .int x3] μ (some (.int r)) μ2 := by
  unfold D_X12_better at hD
  refine gs_enter mf_X12_better (Nat.le_of_ble_eq_true rfl) (ls := [.ref 78, .int x1, .int x2, .int x3, gs_J, gs_J, gs_J, gs_J, gs_J, gs_J]) rfl (fun p l e R s m args below meth c ad g tyc hK => ?_)
  have hK : KC p R s m args meth c ad g tyc RX12 cX12_better 10 (some .int) 79 := hK
  refine r_aload_n hK d_X12_better_0 rfl rfl ?_
  refine r_iconst hK d_X12_better_1 ci_0 ?_
  refine r_putI hK d_X12_better_2 fl_RX12_98_11 rfl rfl kd_78 ?_
  refine r_ltm hD (fun u1 hD => ?_)
  refine r_aload_n hK d_X12_better_5 rfl rfl ?_
  refine r_iload_n hK d_X12_better_6 rfl rfl ?_
  refine r_iload_n hK d_X12_better_7 rfl rfl ?_
  refine r_iload_n hK d_X12_better_8 rfl rfl ?_
  obtain ⟨v4, u3, e2, hD⟩ := bd_e hD
  refine r_callV (As := [.int x1, .int x2, .int x3]) (st := []) (stk2 := [.int v4]) hK (C_X12_isFollowed  e2) d_X12_better_9 mf_X12_isFollowed ml_RX12_479 im_X12_isFollowed rfl se_11_RX12_X12_isFollowed kd_78 rfl (Nat.le_of_ble_eq_true rfl) (by decide) ⟨Nat.zero_le _, Nat.zero_le _⟩ rfl rfl ?_
  refine r_if_ne (tgt := 17) hK d_X12_better_12 (by decide) (fun h5 => ?_) (fun h5 => ?_)
  · have hD := if_f hD h5
    refine r_iconst hK d_X12_better_17 ci_m1 ?_
    refine r_istore hK d_X12_better_18 (by decide) (ls2 := [.ref 78, .int x1, .int x2, .int x3, .int (-1 : Int32), gs_J, gs_J, gs_J, gs_J, gs_J]) rfl ?_
    refine r_iconst hK d_X12_better_20 ci_0 ?_
    refine r_istore hK d_X12_better_21 (by decide) (ls2 := [.ref 78, .int x1, .int x2, .int x3, .int (-1 : Int32), .int (0 : Int32), gs_J, gs_J, gs_J, gs_J]) rfl ?_
    refine r_iconst hK d_X12_better_23 ci_0 ?_
    refine r_istore hK d_X12_better_24 (by decide) (ls2 := [.ref 78, .int x1, .int x2, .int x3, .int (-1 : Int32), .int (0 : Int32), .int (0 : Int32), gs_J, gs_J, gs_J]) rfl ?_
    refine r_iconst hK d_X12_better_26 ci_0 ?_
    refine r_istore hK d_X12_better_27 (by decide) (ls2 := [.ref 78, .int x1, .int x2, .int x3, .int (-1 : Int32), .int (0 : Int32), .int (0 : Int32), .int (0 : Int32), gs_J, gs_J]) rfl ?_
    refine r_iconst hK d_X12_better_29 ci_0 ?_
    refine r_istore hK d_X12_better_30 (by decide) (ls2 := [.ref 78, .int x1, .int x2, .int x3, .int (-1 : Int32), .int (0 : Int32), .int (0 : Int32), .int (0 : Int32), .int (0 : Int32), gs_J]) rfl ?_
    exact TL_X12_better_32 hK  _ _ _ _ _ _ _ _ _ _  hD
  · have hD := if_t hD h5
    refine r_iconst hK d_X12_better_15 ci_m1 ?_
    cases hD
    exact r_iret hK d_X12_better_16
end S_X12_better
